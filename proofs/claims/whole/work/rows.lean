section
-- ===== PART A: goes FIRST, ahead of the names: the tables' words, and 'selects' of the private methods out of them =====
/-- a private method of a class that the tables say can be made, by its rows of tables_1 -/
def lw_okq (q : MethodName × Nat) : Prop := (q.1.cls ≠ "java/lang/invoke/MethodHandle" ∧ q.1.cls ≠ "java/lang/invoke/VarHandle") ∧ Cond.instantiable q.1.cls q.2 ∈ tables_1 ∧ Cond.privateMethod q.1 ∈ tables_1 ∧ Cond.instanceMethod q.1 ∈ tables_1
theorem lw_p0 : lw_okq (⟨"OneBitLoop", "found", "(I)I"⟩, 10) := ⟨⟨by decide +kernel, by decide +kernel⟩, List.mem_of_getElem? (i := 18) (by decide +kernel), List.mem_of_getElem? (i := 320) (by decide +kernel), List.mem_of_getElem? (i := 321) (by decide +kernel)⟩
theorem lw_p1 : lw_okq (⟨"OneBitLoop", "refuseItem", "(III)I"⟩, 10) := ⟨⟨by decide +kernel, by decide +kernel⟩, List.mem_of_getElem? (i := 18) (by decide +kernel), List.mem_of_getElem? (i := 339) (by decide +kernel), List.mem_of_getElem? (i := 340) (by decide +kernel)⟩
theorem lw_p2 : lw_okq (⟨"OneBitLoop", "refuseSample", "(IJ)I"⟩, 10) := ⟨⟨by decide +kernel, by decide +kernel⟩, List.mem_of_getElem? (i := 18) (by decide +kernel), List.mem_of_getElem? (i := 378) (by decide +kernel), List.mem_of_getElem? (i := 379) (by decide +kernel)⟩
theorem lw_p3 : lw_okq (⟨"OneBitLoop", "makeOne", "(J)I"⟩, 10) := ⟨⟨by decide +kernel, by decide +kernel⟩, List.mem_of_getElem? (i := 18) (by decide +kernel), List.mem_of_getElem? (i := 455) (by decide +kernel), List.mem_of_getElem? (i := 456) (by decide +kernel)⟩
theorem lw_p4 : lw_okq (⟨"OneBitLoop$Twin", "drawLot", "()J"⟩, 6) := ⟨⟨by decide +kernel, by decide +kernel⟩, List.mem_of_getElem? (i := 211) (by decide +kernel), List.mem_of_getElem? (i := 468) (by decide +kernel), List.mem_of_getElem? (i := 469) (by decide +kernel)⟩
theorem lw_p5 : lw_okq (⟨"OneBitLoop$Twin", "takeStage", "(IJJJ)V"⟩, 6) := ⟨⟨by decide +kernel, by decide +kernel⟩, List.mem_of_getElem? (i := 211) (by decide +kernel), List.mem_of_getElem? (i := 482) (by decide +kernel), List.mem_of_getElem? (i := 483) (by decide +kernel)⟩
theorem lw_p6 : lw_okq (⟨"OneBitLoop$Twin", "mark", "(I)V"⟩, 6) := ⟨⟨by decide +kernel, by decide +kernel⟩, List.mem_of_getElem? (i := 211) (by decide +kernel), List.mem_of_getElem? (i := 486) (by decide +kernel), List.mem_of_getElem? (i := 487) (by decide +kernel)⟩
theorem lw_p7 : lw_okq (⟨"OneBitLoop$Twin", "turnedBy", "(II)J"⟩, 6) := ⟨⟨by decide +kernel, by decide +kernel⟩, List.mem_of_getElem? (i := 211) (by decide +kernel), List.mem_of_getElem? (i := 490) (by decide +kernel), List.mem_of_getElem? (i := 491) (by decide +kernel)⟩
theorem lw_p8 : lw_okq (⟨"OneBitLoop$Twin", "leak", "(I)V"⟩, 6) := ⟨⟨by decide +kernel, by decide +kernel⟩, List.mem_of_getElem? (i := 211) (by decide +kernel), List.mem_of_getElem? (i := 495) (by decide +kernel), List.mem_of_getElem? (i := 496) (by decide +kernel)⟩
theorem lw_p9 : lw_okq (⟨"OneBitLoop$Twin", "addUp", "(IJJ)V"⟩, 6) := ⟨⟨by decide +kernel, by decide +kernel⟩, List.mem_of_getElem? (i := 211) (by decide +kernel), List.mem_of_getElem? (i := 499) (by decide +kernel), List.mem_of_getElem? (i := 500) (by decide +kernel)⟩
theorem lw_p10 : lw_okq (⟨"OneBitLoop$Twin", "cutToBound", "(I)V"⟩, 6) := ⟨⟨by decide +kernel, by decide +kernel⟩, List.mem_of_getElem? (i := 211) (by decide +kernel), List.mem_of_getElem? (i := 503) (by decide +kernel), List.mem_of_getElem? (i := 504) (by decide +kernel)⟩
theorem lw_p11 : lw_okq (⟨"OneBitLoop", "isRecorded", "(II)Z"⟩, 10) := ⟨⟨by decide +kernel, by decide +kernel⟩, List.mem_of_getElem? (i := 18) (by decide +kernel), List.mem_of_getElem? (i := 552) (by decide +kernel), List.mem_of_getElem? (i := 553) (by decide +kernel)⟩
theorem lw_p12 : lw_okq (⟨"OneBitLoop$Seen", "ask", "(LOneBitLoop$Twin;)V"⟩, 6) := ⟨⟨by decide +kernel, by decide +kernel⟩, List.mem_of_getElem? (i := 123) (by decide +kernel), List.mem_of_getElem? (i := 617) (by decide +kernel), List.mem_of_getElem? (i := 618) (by decide +kernel)⟩
theorem lw_p13 : lw_okq (⟨"OneBitLoop$Seen", "hashOfAsked", "()I"⟩, 6) := ⟨⟨by decide +kernel, by decide +kernel⟩, List.mem_of_getElem? (i := 123) (by decide +kernel), List.mem_of_getElem? (i := 621) (by decide +kernel), List.mem_of_getElem? (i := 622) (by decide +kernel)⟩
theorem lw_p14 : lw_okq (⟨"OneBitLoop$Seen", "isAsked", "(I)Z"⟩, 6) := ⟨⟨by decide +kernel, by decide +kernel⟩, List.mem_of_getElem? (i := 123) (by decide +kernel), List.mem_of_getElem? (i := 627) (by decide +kernel), List.mem_of_getElem? (i := 628) (by decide +kernel)⟩
theorem lw_p15 : lw_okq (⟨"OneBitLoop", "isReachable", "()Z"⟩, 10) := ⟨⟨by decide +kernel, by decide +kernel⟩, List.mem_of_getElem? (i := 18) (by decide +kernel), List.mem_of_getElem? (i := 646) (by decide +kernel), List.mem_of_getElem? (i := 647) (by decide +kernel)⟩
def lw_privs_1 : List (MethodName × Nat) := [(⟨"OneBitLoop", "found", "(I)I"⟩, 10), (⟨"OneBitLoop", "refuseItem", "(III)I"⟩, 10), (⟨"OneBitLoop", "refuseSample", "(IJ)I"⟩, 10), (⟨"OneBitLoop", "makeOne", "(J)I"⟩, 10), (⟨"OneBitLoop$Twin", "drawLot", "()J"⟩, 6), (⟨"OneBitLoop$Twin", "takeStage", "(IJJJ)V"⟩, 6), (⟨"OneBitLoop$Twin", "mark", "(I)V"⟩, 6), (⟨"OneBitLoop$Twin", "turnedBy", "(II)J"⟩, 6), (⟨"OneBitLoop$Twin", "leak", "(I)V"⟩, 6), (⟨"OneBitLoop$Twin", "addUp", "(IJJ)V"⟩, 6), (⟨"OneBitLoop$Twin", "cutToBound", "(I)V"⟩, 6), (⟨"OneBitLoop", "isRecorded", "(II)Z"⟩, 10), (⟨"OneBitLoop$Seen", "ask", "(LOneBitLoop$Twin;)V"⟩, 6), (⟨"OneBitLoop$Seen", "hashOfAsked", "()I"⟩, 6), (⟨"OneBitLoop$Seen", "isAsked", "(I)Z"⟩, 6), (⟨"OneBitLoop", "isReachable", "()Z"⟩, 10)]
theorem lw_r1 : ∀ q ∈ lw_privs_1, lw_okq q := List.forall_mem_cons.mpr ⟨lw_p0, List.forall_mem_cons.mpr ⟨lw_p1, List.forall_mem_cons.mpr ⟨lw_p2, List.forall_mem_cons.mpr ⟨lw_p3, List.forall_mem_cons.mpr ⟨lw_p4, List.forall_mem_cons.mpr ⟨lw_p5, List.forall_mem_cons.mpr ⟨lw_p6, List.forall_mem_cons.mpr ⟨lw_p7, List.forall_mem_cons.mpr ⟨lw_p8, List.forall_mem_cons.mpr ⟨lw_p9, List.forall_mem_cons.mpr ⟨lw_p10, List.forall_mem_cons.mpr ⟨lw_p11, List.forall_mem_cons.mpr ⟨lw_p12, List.forall_mem_cons.mpr ⟨lw_p13, List.forall_mem_cons.mpr ⟨lw_p14, List.forall_mem_cons.mpr ⟨lw_p15, fun _ h => absurd h List.not_mem_nil⟩⟩⟩⟩⟩⟩⟩⟩⟩⟩⟩⟩⟩⟩⟩⟩
theorem lw_p16 : lw_okq (⟨"OneBitLoop$Reaching", "tryFrom", "(ILOneBitLoop$Twin;JJ)I"⟩, 6) := ⟨⟨by decide +kernel, by decide +kernel⟩, List.mem_of_getElem? (i := 177) (by decide +kernel), List.mem_of_getElem? (i := 657) (by decide +kernel), List.mem_of_getElem? (i := 658) (by decide +kernel)⟩
theorem lw_p17 : lw_okq (⟨"OneBitLoop$Reaching", "isBeyond", "(LOneBitLoop$Twin;J)Z"⟩, 6) := ⟨⟨by decide +kernel, by decide +kernel⟩, List.mem_of_getElem? (i := 177) (by decide +kernel), List.mem_of_getElem? (i := 666) (by decide +kernel), List.mem_of_getElem? (i := 667) (by decide +kernel)⟩
theorem lw_p18 : lw_okq (⟨"OneBitLoop$Reaching", "tellRow", "(IJ)V"⟩, 6) := ⟨⟨by decide +kernel, by decide +kernel⟩, List.mem_of_getElem? (i := 177) (by decide +kernel), List.mem_of_getElem? (i := 670) (by decide +kernel), List.mem_of_getElem? (i := 671) (by decide +kernel)⟩
theorem lw_p19 : lw_okq (⟨"OneBitLoop$Worst", "goOn", "(IIIJJ)Z"⟩, 8) := ⟨⟨by decide +kernel, by decide +kernel⟩, List.mem_of_getElem? (i := 204) (by decide +kernel), List.mem_of_getElem? (i := 692) (by decide +kernel), List.mem_of_getElem? (i := 693) (by decide +kernel)⟩
theorem lw_p20 : lw_okq (⟨"OneBitLoopModel", "meets", "(I)I"⟩, 40) := ⟨⟨by decide +kernel, by decide +kernel⟩, List.mem_of_getElem? (i := 720) (by decide +kernel), List.mem_of_getElem? (i := 860) (by decide +kernel), List.mem_of_getElem? (i := 861) (by decide +kernel)⟩
theorem lw_p21 : lw_okq (⟨"OneBitLoopModel", "lacks", "(III)I"⟩, 40) := ⟨⟨by decide +kernel, by decide +kernel⟩, List.mem_of_getElem? (i := 720) (by decide +kernel), List.mem_of_getElem? (i := 872) (by decide +kernel), List.mem_of_getElem? (i := 873) (by decide +kernel)⟩
theorem lw_p22 : lw_okq (⟨"OneBitLoopModel", "sampleOf", "(II)J"⟩, 40) := ⟨⟨by decide +kernel, by decide +kernel⟩, List.mem_of_getElem? (i := 720) (by decide +kernel), List.mem_of_getElem? (i := 897) (by decide +kernel), List.mem_of_getElem? (i := 898) (by decide +kernel)⟩
theorem lw_p23 : lw_okq (⟨"OneBitLoopModel", "does", "(J)I"⟩, 40) := ⟨⟨by decide +kernel, by decide +kernel⟩, List.mem_of_getElem? (i := 720) (by decide +kernel), List.mem_of_getElem? (i := 940) (by decide +kernel), List.mem_of_getElem? (i := 941) (by decide +kernel)⟩
theorem lw_p24 : lw_okq (⟨"OneBitLoopModel", "take", "()V"⟩, 40) := ⟨⟨by decide +kernel, by decide +kernel⟩, List.mem_of_getElem? (i := 720) (by decide +kernel), List.mem_of_getElem? (i := 944) (by decide +kernel), List.mem_of_getElem? (i := 945) (by decide +kernel)⟩
theorem lw_p25 : lw_okq (⟨"OneBitLoopModel", "tries", "(J)Z"⟩, 40) := ⟨⟨by decide +kernel, by decide +kernel⟩, List.mem_of_getElem? (i := 720) (by decide +kernel), List.mem_of_getElem? (i := 948) (by decide +kernel), List.mem_of_getElem? (i := 949) (by decide +kernel)⟩
theorem lw_p26 : lw_okq (⟨"OneBitLoopModel", "nearest", "(J)I"⟩, 40) := ⟨⟨by decide +kernel, by decide +kernel⟩, List.mem_of_getElem? (i := 720) (by decide +kernel), List.mem_of_getElem? (i := 954) (by decide +kernel), List.mem_of_getElem? (i := 955) (by decide +kernel)⟩
theorem lw_p27 : lw_okq (⟨"OneBitLoopModel", "takes", "(IJJJ)V"⟩, 40) := ⟨⟨by decide +kernel, by decide +kernel⟩, List.mem_of_getElem? (i := 720) (by decide +kernel), List.mem_of_getElem? (i := 958) (by decide +kernel), List.mem_of_getElem? (i := 959) (by decide +kernel)⟩
theorem lw_p28 : lw_okq (⟨"OneBitLoopModel", "plain", "(IJJ)V"⟩, 40) := ⟨⟨by decide +kernel, by decide +kernel⟩, List.mem_of_getElem? (i := 720) (by decide +kernel), List.mem_of_getElem? (i := 962) (by decide +kernel), List.mem_of_getElem? (i := 963) (by decide +kernel)⟩
theorem lw_p29 : lw_okq (⟨"OneBitLoopModel", "writes", "(I)V"⟩, 40) := ⟨⟨by decide +kernel, by decide +kernel⟩, List.mem_of_getElem? (i := 720) (by decide +kernel), List.mem_of_getElem? (i := 966) (by decide +kernel), List.mem_of_getElem? (i := 967) (by decide +kernel)⟩
theorem lw_p30 : lw_okq (⟨"OneBitLoopModel", "leaky", "(IJJ)V"⟩, 40) := ⟨⟨by decide +kernel, by decide +kernel⟩, List.mem_of_getElem? (i := 720) (by decide +kernel), List.mem_of_getElem? (i := 970) (by decide +kernel), List.mem_of_getElem? (i := 971) (by decide +kernel)⟩
theorem lw_p31 : lw_okq (⟨"OneBitLoopModel", "bounded", "(IJJ)V"⟩, 40) := ⟨⟨by decide +kernel, by decide +kernel⟩, List.mem_of_getElem? (i := 720) (by decide +kernel), List.mem_of_getElem? (i := 974) (by decide +kernel), List.mem_of_getElem? (i := 975) (by decide +kernel)⟩
def lw_privs_2 : List (MethodName × Nat) := [(⟨"OneBitLoop$Reaching", "tryFrom", "(ILOneBitLoop$Twin;JJ)I"⟩, 6), (⟨"OneBitLoop$Reaching", "isBeyond", "(LOneBitLoop$Twin;J)Z"⟩, 6), (⟨"OneBitLoop$Reaching", "tellRow", "(IJ)V"⟩, 6), (⟨"OneBitLoop$Worst", "goOn", "(IIIJJ)Z"⟩, 8), (⟨"OneBitLoopModel", "meets", "(I)I"⟩, 40), (⟨"OneBitLoopModel", "lacks", "(III)I"⟩, 40), (⟨"OneBitLoopModel", "sampleOf", "(II)J"⟩, 40), (⟨"OneBitLoopModel", "does", "(J)I"⟩, 40), (⟨"OneBitLoopModel", "take", "()V"⟩, 40), (⟨"OneBitLoopModel", "tries", "(J)Z"⟩, 40), (⟨"OneBitLoopModel", "nearest", "(J)I"⟩, 40), (⟨"OneBitLoopModel", "takes", "(IJJJ)V"⟩, 40), (⟨"OneBitLoopModel", "plain", "(IJJ)V"⟩, 40), (⟨"OneBitLoopModel", "writes", "(I)V"⟩, 40), (⟨"OneBitLoopModel", "leaky", "(IJJ)V"⟩, 40), (⟨"OneBitLoopModel", "bounded", "(IJJ)V"⟩, 40)]
theorem lw_r2 : ∀ q ∈ lw_privs_2, lw_okq q := List.forall_mem_cons.mpr ⟨lw_p16, List.forall_mem_cons.mpr ⟨lw_p17, List.forall_mem_cons.mpr ⟨lw_p18, List.forall_mem_cons.mpr ⟨lw_p19, List.forall_mem_cons.mpr ⟨lw_p20, List.forall_mem_cons.mpr ⟨lw_p21, List.forall_mem_cons.mpr ⟨lw_p22, List.forall_mem_cons.mpr ⟨lw_p23, List.forall_mem_cons.mpr ⟨lw_p24, List.forall_mem_cons.mpr ⟨lw_p25, List.forall_mem_cons.mpr ⟨lw_p26, List.forall_mem_cons.mpr ⟨lw_p27, List.forall_mem_cons.mpr ⟨lw_p28, List.forall_mem_cons.mpr ⟨lw_p29, List.forall_mem_cons.mpr ⟨lw_p30, List.forall_mem_cons.mpr ⟨lw_p31, fun _ h => absurd h List.not_mem_nil⟩⟩⟩⟩⟩⟩⟩⟩⟩⟩⟩⟩⟩⟩⟩⟩
theorem lw_p32 : lw_okq (⟨"OneBitLoopModel", "lay", "()V"⟩, 40) := ⟨⟨by decide +kernel, by decide +kernel⟩, List.mem_of_getElem? (i := 720) (by decide +kernel), List.mem_of_getElem? (i := 980) (by decide +kernel), List.mem_of_getElem? (i := 981) (by decide +kernel)⟩
theorem lw_p33 : lw_okq (⟨"OneBitLoopModel", "rest", "()V"⟩, 40) := ⟨⟨by decide +kernel, by decide +kernel⟩, List.mem_of_getElem? (i := 720) (by decide +kernel), List.mem_of_getElem? (i := 993) (by decide +kernel), List.mem_of_getElem? (i := 994) (by decide +kernel)⟩
theorem lw_p34 : lw_okq (⟨"OneBitLoopModel", "isRecord", "(II)Z"⟩, 40) := ⟨⟨by decide +kernel, by decide +kernel⟩, List.mem_of_getElem? (i := 720) (by decide +kernel), List.mem_of_getElem? (i := 1015) (by decide +kernel), List.mem_of_getElem? (i := 1016) (by decide +kernel)⟩
theorem lw_p35 : lw_okq (⟨"OneBitLoopModel", "stands", "(I)V"⟩, 40) := ⟨⟨by decide +kernel, by decide +kernel⟩, List.mem_of_getElem? (i := 720) (by decide +kernel), List.mem_of_getElem? (i := 1051) (by decide +kernel), List.mem_of_getElem? (i := 1052) (by decide +kernel)⟩
theorem lw_p36 : lw_okq (⟨"OneBitLoopModel", "isAlike", "(II)Z"⟩, 40) := ⟨⟨by decide +kernel, by decide +kernel⟩, List.mem_of_getElem? (i := 720) (by decide +kernel), List.mem_of_getElem? (i := 1055) (by decide +kernel), List.mem_of_getElem? (i := 1056) (by decide +kernel)⟩
theorem lw_p37 : lw_okq (⟨"OneBitLoopModel", "mayReach", "()Z"⟩, 40) := ⟨⟨by decide +kernel, by decide +kernel⟩, List.mem_of_getElem? (i := 720) (by decide +kernel), List.mem_of_getElem? (i := 1067) (by decide +kernel), List.mem_of_getElem? (i := 1068) (by decide +kernel)⟩
theorem lw_p38 : lw_okq (⟨"OneBitLoopModel", "tellRow", "(IJ)V"⟩, 40) := ⟨⟨by decide +kernel, by decide +kernel⟩, List.mem_of_getElem? (i := 720) (by decide +kernel), List.mem_of_getElem? (i := 1071) (by decide +kernel), List.mem_of_getElem? (i := 1072) (by decide +kernel)⟩
theorem lw_p39 : lw_okq (⟨"OneBitLoopModel", "refuses", "(I)J"⟩, 40) := ⟨⟨by decide +kernel, by decide +kernel⟩, List.mem_of_getElem? (i := 720) (by decide +kernel), List.mem_of_getElem? (i := 1084) (by decide +kernel), List.mem_of_getElem? (i := 1085) (by decide +kernel)⟩
def lw_privs_3 : List (MethodName × Nat) := [(⟨"OneBitLoopModel", "lay", "()V"⟩, 40), (⟨"OneBitLoopModel", "rest", "()V"⟩, 40), (⟨"OneBitLoopModel", "isRecord", "(II)Z"⟩, 40), (⟨"OneBitLoopModel", "stands", "(I)V"⟩, 40), (⟨"OneBitLoopModel", "isAlike", "(II)Z"⟩, 40), (⟨"OneBitLoopModel", "mayReach", "()Z"⟩, 40), (⟨"OneBitLoopModel", "tellRow", "(IJ)V"⟩, 40), (⟨"OneBitLoopModel", "refuses", "(I)J"⟩, 40)]
theorem lw_r3 : ∀ q ∈ lw_privs_3, lw_okq q := List.forall_mem_cons.mpr ⟨lw_p32, List.forall_mem_cons.mpr ⟨lw_p33, List.forall_mem_cons.mpr ⟨lw_p34, List.forall_mem_cons.mpr ⟨lw_p35, List.forall_mem_cons.mpr ⟨lw_p36, List.forall_mem_cons.mpr ⟨lw_p37, List.forall_mem_cons.mpr ⟨lw_p38, List.forall_mem_cons.mpr ⟨lw_p39, fun _ h => absurd h List.not_mem_nil⟩⟩⟩⟩⟩⟩⟩⟩
def lw_privs : List (MethodName × Nat) := lw_privs_1 ++ (lw_privs_2 ++ (lw_privs_3))
def lw_tbl : List Cond := k2_sels lw_privs ++ tables_1
theorem lw_privs_ok : ∀ q ∈ lw_privs, lw_okq q := by
  show ∀ q ∈ lw_privs_1 ++ (lw_privs_2 ++ (lw_privs_3)), lw_okq q
  exact List.forall_mem_append.mpr ⟨lw_r1, List.forall_mem_append.mpr ⟨lw_r2, lw_r3⟩⟩
/-- the streams that the claim lets the run draw from -/
abbrev lw_cs : List Choice := [Jvm.Choice.named "NaN.copy"]
end
section
def RX0 : String := "OneBitLoop$Holding"
def TX0 : u_T := fun k => match k with
  | 0 => ("OneBitLoop$Holding", "shape", "LOneBitLoop$Shape;", true)
  | 1 => ("OneBitLoop$Holding", "seen", "LOneBitLoop$Seen;", true)
  | 2 => ("OneBitLoop$Holding", "sumAhead", "[J", true)
  | 3 => ("OneBitLoop$Holding", "comes", "I", false)
  | 4 => ("OneBitLoop$Holding", "round", "I", false)
  | _ => ("OneBitLoop$Holding", "sum", "J", false)
def tyX0 : Nat → FieldType := fun k => match k with
  | 0 => .object "OneBitLoop$Shape"
  | 1 => .object "OneBitLoop$Seen"
  | 2 => .array .long
  | 3 => .int
  | 4 => .int
  | _ => .long
theorem nmX0 : ∀ a, a < 6 → ∀ b, b < 6 → a ≠ b → (TX0 a).2.1 ≠ (TX0 b).2.1 := by decide +kernel
theorem tyX0_ok : ∀ k, k < 6 → parseFieldDescriptor (TX0 k).2.2.1 = some (tyX0 k) := by decide +kernel
abbrev cX0_init : ByteArray := prog_2_method_1_code
def yX0_init : MethodName := ⟨RX0, "<init>", "(LOneBitLoop$Shape;LOneBitLoop$Seen;)V"⟩
abbrev cX0_goRound : ByteArray := prog_2_method_2_code
def yX0_goRound : MethodName := ⟨RX0, "goRound", "(LOneBitLoop$Twin;JI)I"⟩
def RX1 : String := "OneBitLoop$Log"
def TX1 : u_T := fun k => match k with
  | 0 => ("OneBitLoop$Log", "numbers", "[J", true)
  | 1 => ("OneBitLoop$Log", "made", "[J", true)
  | _ => ("OneBitLoop$Log", "steps", "I", false)
def tyX1 : Nat → FieldType := fun k => match k with
  | 0 => .array .long
  | 1 => .array .long
  | _ => .int
theorem nmX1 : ∀ a, a < 3 → ∀ b, b < 3 → a ≠ b → (TX1 a).2.1 ≠ (TX1 b).2.1 := by decide +kernel
theorem tyX1_ok : ∀ k, k < 3 → parseFieldDescriptor (TX1 k).2.2.1 = some (tyX1 k) := by decide +kernel
abbrev cX1_init : ByteArray := prog_3_method_1_code
def yX1_init : MethodName := ⟨RX1, "<init>", "()V"⟩
abbrev cX1_hasStep : ByteArray := prog_3_method_2_code
def yX1_hasStep : MethodName := ⟨RX1, "hasStep", "(I)Z"⟩
abbrev cX1_levelOf : ByteArray := prog_3_method_3_code
def yX1_levelOf : MethodName := ⟨RX1, "levelOf", "(I)J"⟩
abbrev cX1_latestMade : ByteArray := prog_3_method_4_code
def yX1_latestMade : MethodName := ⟨RX1, "latestMade", "()J"⟩
abbrev cX1_write : ByteArray := prog_3_method_5_code
def yX1_write : MethodName := ⟨RX1, "write", "(JLOneBitLoop$Twin;)V"⟩
abbrev cX1_agrees : ByteArray := prog_3_method_6_code
def yX1_agrees : MethodName := ⟨RX1, "agrees", "(ILOneBitLoop$Twin;)Z"⟩
abbrev cX1_runningSum : ByteArray := prog_3_method_7_code
def yX1_runningSum : MethodName := ⟨RX1, "runningSum", "(II)J"⟩
def RX2 : String := "OneBitLoop$Reaching"
def TX2 : u_T := fun k => match k with
  | 0 => ("OneBitLoop$Reaching", "shape", "LOneBitLoop$Shape;", true)
  | 1 => ("OneBitLoop$Reaching", "seen", "LOneBitLoop$Seen;", true)
  | 2 => ("OneBitLoop$Reaching", "ahead", "[I", true)
  | 3 => ("OneBitLoop$Reaching", "by", "[J", true)
  | 4 => ("OneBitLoop$Reaching", "row", "[J", true)
  | _ => ("OneBitLoop$Reaching", "rowSize", "I", false)
def tyX2 : Nat → FieldType := fun k => match k with
  | 0 => .object "OneBitLoop$Shape"
  | 1 => .object "OneBitLoop$Seen"
  | 2 => .array .int
  | 3 => .array .long
  | 4 => .array .long
  | _ => .int
theorem nmX2 : ∀ a, a < 6 → ∀ b, b < 6 → a ≠ b → (TX2 a).2.1 ≠ (TX2 b).2.1 := by decide +kernel
theorem tyX2_ok : ∀ k, k < 6 → parseFieldDescriptor (TX2 k).2.2.1 = some (tyX2 k) := by decide +kernel
abbrev cX2_init : ByteArray := prog_4_method_1_code
def yX2_init : MethodName := ⟨RX2, "<init>", "(LOneBitLoop$Shape;LOneBitLoop$Seen;)V"⟩
abbrev cX2_findStands : ByteArray := prog_4_method_2_code
def yX2_findStands : MethodName := ⟨RX2, "findStands", "(LOneBitLoop$Twin;JJJ)I"⟩
abbrev cX2_tryFrom : ByteArray := prog_4_method_3_code
def yX2_tryFrom : MethodName := ⟨RX2, "tryFrom", "(ILOneBitLoop$Twin;JJ)I"⟩
abbrev cX2_isBeyond : ByteArray := prog_4_method_4_code
def yX2_isBeyond : MethodName := ⟨RX2, "isBeyond", "(LOneBitLoop$Twin;J)Z"⟩
abbrev cX2_tellRow : ByteArray := prog_4_method_5_code
def yX2_tellRow : MethodName := ⟨RX2, "tellRow", "(IJ)V"⟩
def RX3 : String := "OneBitLoop$Reel"
def TX3 : u_T := fun k => match k with
  | 0 => ("OneBitLoop$Reel", "items", "[J", true)
  | 1 => ("OneBitLoop$Reel", "lost", "Z", false)
  | 2 => ("OneBitLoop$Reel", "form", "I", false)
  | _ => ("OneBitLoop$Reel", "size", "I", false)
def tyX3 : Nat → FieldType := fun k => match k with
  | 0 => .array .long
  | 1 => .boolean
  | 2 => .int
  | _ => .int
theorem nmX3 : ∀ a, a < 4 → ∀ b, b < 4 → a ≠ b → (TX3 a).2.1 ≠ (TX3 b).2.1 := by decide +kernel
theorem tyX3_ok : ∀ k, k < 4 → parseFieldDescriptor (TX3 k).2.2.1 = some (tyX3 k) := by decide +kernel
abbrev cX3_init : ByteArray := prog_5_method_1_code
def yX3_init : MethodName := ⟨RX3, "<init>", "()V"⟩
abbrev cX3_renew : ByteArray := prog_5_method_2_code
def yX3_renew : MethodName := ⟨RX3, "renew", "(II)V"⟩
abbrev cX3_hasItem : ByteArray := prog_5_method_3_code
def yX3_hasItem : MethodName := ⟨RX3, "hasItem", "(J)Z"⟩
abbrev cX3_hasRow : ByteArray := prog_5_method_4_code
def yX3_hasRow : MethodName := ⟨RX3, "hasRow", "(II)Z"⟩
abbrev cX3_sampleOf : ByteArray := prog_5_method_5_code
def yX3_sampleOf : MethodName := ⟨RX3, "sampleOf", "(IJ)J"⟩
def RX4 : String := "OneBitLoop$Seen"
def TX4 : u_T := fun k => match k with
  | 0 => ("OneBitLoop$Seen", "rows", "[J", true)
  | 1 => ("OneBitLoop$Seen", "slots", "[I", true)
  | 2 => ("OneBitLoop$Seen", "asked", "[J", true)
  | 3 => ("OneBitLoop$Seen", "freeSlot", "I", false)
  | 4 => ("OneBitLoop$Seen", "width", "I", false)
  | _ => ("OneBitLoop$Seen", "size", "I", false)
def tyX4 : Nat → FieldType := fun k => match k with
  | 0 => .array .long
  | 1 => .array .int
  | 2 => .array .long
  | 3 => .int
  | 4 => .int
  | _ => .int
theorem nmX4 : ∀ a, a < 6 → ∀ b, b < 6 → a ≠ b → (TX4 a).2.1 ≠ (TX4 b).2.1 := by decide +kernel
theorem tyX4_ok : ∀ k, k < 6 → parseFieldDescriptor (TX4 k).2.2.1 = some (tyX4 k) := by decide +kernel
abbrev cX4_init : ByteArray := prog_6_method_1_code
def yX4_init : MethodName := ⟨RX4, "<init>", "()V"⟩
abbrev cX4_empty : ByteArray := prog_6_method_2_code
def yX4_empty : MethodName := ⟨RX4, "empty", "()V"⟩
abbrev cX4_find : ByteArray := prog_6_method_3_code
def yX4_find : MethodName := ⟨RX4, "find", "(LOneBitLoop$Twin;)I"⟩
abbrev cX4_addAsked : ByteArray := prog_6_method_4_code
def yX4_addAsked : MethodName := ⟨RX4, "addAsked", "()V"⟩
abbrev cX4_restore : ByteArray := prog_6_method_5_code
def yX4_restore : MethodName := ⟨RX4, "restore", "(ILOneBitLoop$Twin;)V"⟩
abbrev cX4_ask : ByteArray := prog_6_method_6_code
def yX4_ask : MethodName := ⟨RX4, "ask", "(LOneBitLoop$Twin;)V"⟩
abbrev cX4_hashOfAsked : ByteArray := prog_6_method_7_code
def yX4_hashOfAsked : MethodName := ⟨RX4, "hashOfAsked", "()I"⟩
abbrev cX4_isAsked : ByteArray := prog_6_method_8_code
def yX4_isAsked : MethodName := ⟨RX4, "isAsked", "(I)Z"⟩
def RX5 : String := "OneBitLoop$Shape"
def TX5 : u_T := fun k => match k with
  | 0 => ("OneBitLoop$Shape", "kinds", "[I", true)
  | 1 => ("OneBitLoop$Shape", "firsts", "[J", true)
  | 2 => ("OneBitLoop$Shape", "seconds", "[I", true)
  | 3 => ("OneBitLoop$Shape", "levels", "[J", true)
  | 4 => ("OneBitLoop$Shape", "stages", "I", false)
  | 5 => ("OneBitLoop$Shape", "levelCount", "I", false)
  | 6 => ("OneBitLoop$Shape", "span", "I", false)
  | _ => ("OneBitLoop$Shape", "firstSeed", "J", false)
def tyX5 : Nat → FieldType := fun k => match k with
  | 0 => .array .int
  | 1 => .array .long
  | 2 => .array .int
  | 3 => .array .long
  | 4 => .int
  | 5 => .int
  | 6 => .int
  | _ => .long
theorem nmX5 : ∀ a, a < 8 → ∀ b, b < 8 → a ≠ b → (TX5 a).2.1 ≠ (TX5 b).2.1 := by decide +kernel
theorem tyX5_ok : ∀ k, k < 8 → parseFieldDescriptor (TX5 k).2.2.1 = some (tyX5 k) := by decide +kernel
abbrev cX5_init : ByteArray := prog_7_method_1_code
def yX5_init : MethodName := ⟨RX5, "<init>", "()V"⟩
abbrev cX5_addStage : ByteArray := prog_7_method_2_code
def yX5_addStage : MethodName := ⟨RX5, "addStage", "(IJI)I"⟩
abbrev cX5_layLevels : ByteArray := prog_7_method_3_code
def yX5_layLevels : MethodName := ⟨RX5, "layLevels", "(IJJ)V"⟩
abbrev cX5_hasStage : ByteArray := prog_7_method_4_code
def yX5_hasStage : MethodName := ⟨RX5, "hasStage", "(I)Z"⟩
abbrev cX5_hasLevel : ByteArray := prog_7_method_5_code
def yX5_hasLevel : MethodName := ⟨RX5, "hasLevel", "(I)Z"⟩
abbrev cX5_wouldRise : ByteArray := prog_7_method_6_code
def yX5_wouldRise : MethodName := ⟨RX5, "wouldRise", "(IJ)Z"⟩
abbrev cX5_nearestTo : ByteArray := prog_7_method_7_code
def yX5_nearestTo : MethodName := ⟨RX5, "nearestTo", "(J)I"⟩
def RX6 : String := "OneBitLoop$Twin"
def TX6 : u_T := fun k => match k with
  | 0 => ("OneBitLoop$Twin", "shape", "LOneBitLoop$Shape;", true)
  | 1 => ("OneBitLoop$Twin", "numbers", "[J", true)
  | 2 => ("OneBitLoop$Twin", "marks", "[I", true)
  | 3 => ("OneBitLoop$Twin", "traced", "I", false)
  | 4 => ("OneBitLoop$Twin", "seed", "J", false)
  | _ => ("OneBitLoop$Twin", "told", "I", false)
def tyX6 : Nat → FieldType := fun k => match k with
  | 0 => .object "OneBitLoop$Shape"
  | 1 => .array .long
  | 2 => .array .int
  | 3 => .int
  | 4 => .long
  | _ => .int
theorem nmX6 : ∀ a, a < 6 → ∀ b, b < 6 → a ≠ b → (TX6 a).2.1 ≠ (TX6 b).2.1 := by decide +kernel
theorem tyX6_ok : ∀ k, k < 6 → parseFieldDescriptor (TX6 k).2.2.1 = some (tyX6 k) := by decide +kernel
abbrev cX6_init : ByteArray := prog_8_method_1_code
def yX6_init : MethodName := ⟨RX6, "<init>", "(LOneBitLoop$Shape;)V"⟩
abbrev cX6_beginAgain : ByteArray := prog_8_method_2_code
def yX6_beginAgain : MethodName := ⟨RX6, "beginAgain", "()V"⟩
abbrev cX6_becomeLike : ByteArray := prog_8_method_3_code
def yX6_becomeLike : MethodName := ⟨RX6, "becomeLike", "(LOneBitLoop$Twin;)V"⟩
abbrev cX6_makeStep : ByteArray := prog_8_method_4_code
def yX6_makeStep : MethodName := ⟨RX6, "makeStep", "(J)Z"⟩
abbrev cX6_drawLot : ByteArray := prog_8_method_5_code
def yX6_drawLot : MethodName := ⟨RX6, "drawLot", "()J"⟩
abbrev cX6_takeStage : ByteArray := prog_8_method_6_code
def yX6_takeStage : MethodName := ⟨RX6, "takeStage", "(IJJJ)V"⟩
abbrev cX6_addUp : ByteArray := prog_8_method_7_code
def yX6_addUp : MethodName := ⟨RX6, "addUp", "(IJJ)V"⟩
abbrev cX6_leak : ByteArray := prog_8_method_8_code
def yX6_leak : MethodName := ⟨RX6, "leak", "(I)V"⟩
abbrev cX6_cutToBound : ByteArray := prog_8_method_9_code
def yX6_cutToBound : MethodName := ⟨RX6, "cutToBound", "(I)V"⟩
abbrev cX6_turnedBy : ByteArray := prog_8_method_10_code
def yX6_turnedBy : MethodName := ⟨RX6, "turnedBy", "(II)J"⟩
abbrev cX6_mark : ByteArray := prog_8_method_11_code
def yX6_mark : MethodName := ⟨RX6, "mark", "(I)V"⟩
abbrev cX6_isGreat : ByteArray := prog_8_method_12_code
def yX6_isGreat : MethodName := ⟨RX6, "isGreat", "(J)Z"⟩
def RX7 : String := "OneBitLoop$Worst"
def TX7 : u_T := fun k => match k with
  | 0 => ("OneBitLoop$Worst", "shape", "LOneBitLoop$Shape;", true)
  | 1 => ("OneBitLoop$Worst", "twins", "[LOneBitLoop$Twin;", true)
  | 2 => ("OneBitLoop$Worst", "refusal", "I", false)
  | 3 => ("OneBitLoop$Worst", "size", "J", false)
  | 4 => ("OneBitLoop$Worst", "length", "I", false)
  | 5 => ("OneBitLoop$Worst", "rowNumber", "I", false)
  | 6 => ("OneBitLoop$Worst", "zero", "J", false)
  | _ => ("OneBitLoop$Worst", "one", "J", false)
def tyX7 : Nat → FieldType := fun k => match k with
  | 0 => .object "OneBitLoop$Shape"
  | 1 => .array (.object "OneBitLoop$Twin")
  | 2 => .int
  | 3 => .long
  | 4 => .int
  | 5 => .int
  | 6 => .long
  | _ => .long
theorem nmX7 : ∀ a, a < 8 → ∀ b, b < 8 → a ≠ b → (TX7 a).2.1 ≠ (TX7 b).2.1 := by decide +kernel
theorem tyX7_ok : ∀ k, k < 8 → parseFieldDescriptor (TX7 k).2.2.1 = some (tyX7 k) := by decide +kernel
abbrev cX7_init : ByteArray := prog_9_method_1_code
def yX7_init : MethodName := ⟨RX7, "<init>", "(LOneBitLoop$Shape;)V"⟩
abbrev cX7_goThroughAll : ByteArray := prog_9_method_2_code
def yX7_goThroughAll : MethodName := ⟨RX7, "goThroughAll", "(IJJ)Z"⟩
abbrev cX7_goOn : ByteArray := prog_9_method_3_code
def yX7_goOn : MethodName := ⟨RX7, "goOn", "(IIIJJ)Z"⟩
abbrev cX7_isOne : ByteArray := prog_9_method_4_code
def yX7_isOne : MethodName := ⟨RX7, "isOne", "(III)Z"⟩
abbrev cX7_sampleOf : ByteArray := prog_9_method_5_code
def yX7_sampleOf : MethodName := ⟨RX7, "sampleOf", "(I)J"⟩
def RX8 : String := "OneBitLoop"
def TX8 : u_T := fun k => match k with
  | 0 => ("OneBitLoop", "reels", "[LOneBitLoop$Reel;", true)
  | 1 => ("OneBitLoop", "shape", "LOneBitLoop$Shape;", true)
  | 2 => ("OneBitLoop", "log", "LOneBitLoop$Log;", true)
  | 3 => ("OneBitLoop", "holding", "LOneBitLoop$Holding;", true)
  | 4 => ("OneBitLoop", "reaching", "LOneBitLoop$Reaching;", true)
  | 5 => ("OneBitLoop", "worstRow", "LOneBitLoop$Worst;", true)
  | 6 => ("OneBitLoop", "weights", "[I", true)
  | 7 => ("OneBitLoop", "now", "LOneBitLoop$Twin;", false)
  | 8 => ("OneBitLoop", "next", "LOneBitLoop$Twin;", false)
  | _ => ("OneBitLoop", "finding", "I", false)
def tyX8 : Nat → FieldType := fun k => match k with
  | 0 => .array (.object "OneBitLoop$Reel")
  | 1 => .object "OneBitLoop$Shape"
  | 2 => .object "OneBitLoop$Log"
  | 3 => .object "OneBitLoop$Holding"
  | 4 => .object "OneBitLoop$Reaching"
  | 5 => .object "OneBitLoop$Worst"
  | 6 => .array .int
  | 7 => .object "OneBitLoop$Twin"
  | 8 => .object "OneBitLoop$Twin"
  | _ => .int
theorem nmX8 : ∀ a, a < 10 → ∀ b, b < 10 → a ≠ b → (TX8 a).2.1 ≠ (TX8 b).2.1 := by decide +kernel
theorem tyX8_ok : ∀ k, k < 10 → parseFieldDescriptor (TX8 k).2.2.1 = some (tyX8 k) := by decide +kernel
abbrev cX8_init : ByteArray := prog_1_method_1_code
def yX8_init : MethodName := ⟨RX8, "<init>", "()V"⟩
abbrev cX8_reel : ByteArray := prog_1_method_2_code
def yX8_reel : MethodName := ⟨RX8, "reel", "(III)I"⟩
abbrev cX8_lose : ByteArray := prog_1_method_3_code
def yX8_lose : MethodName := ⟨RX8, "lose", "(I)I"⟩
abbrev cX8_put : ByteArray := prog_1_method_4_code
def yX8_put : MethodName := ⟨RX8, "put", "(IIIJ)I"⟩
abbrev cX8_get : ByteArray := prog_1_method_5_code
def yX8_get : MethodName := ⟨RX8, "get", "(III)J"⟩
abbrev cX8_copy : ByteArray := prog_1_method_6_code
def yX8_copy : MethodName := ⟨RX8, "copy", "(IIIII)I"⟩
abbrev cX8_sample : ByteArray := prog_1_method_7_code
def yX8_sample : MethodName := ⟨RX8, "sample", "(II)J"⟩
abbrev cX8_stage : ByteArray := prog_1_method_8_code
def yX8_stage : MethodName := ⟨RX8, "stage", "(IJI)I"⟩
abbrev cX8_levels : ByteArray := prog_1_method_9_code
def yX8_levels : MethodName := ⟨RX8, "levels", "(IJJ)I"⟩
abbrev cX8_level : ByteArray := prog_1_method_10_code
def yX8_level : MethodName := ⟨RX8, "level", "(IJ)I"⟩
abbrev cX8_lot : ByteArray := prog_1_method_11_code
def yX8_lot : MethodName := ⟨RX8, "lot", "(IJ)I"⟩
abbrev cX8_step : ByteArray := prog_1_method_12_code
def yX8_step : MethodName := ⟨RX8, "step", "(J)I"⟩
abbrev cX8_run : ByteArray := prog_1_method_13_code
def yX8_run : MethodName := ⟨RX8, "run", "(III)I"⟩
abbrev cX8_undo : ByteArray := prog_1_method_14_code
def yX8_undo : MethodName := ⟨RX8, "undo", "(I)I"⟩
abbrev cX8_clear : ByteArray := prog_1_method_15_code
def yX8_clear : MethodName := ⟨RX8, "clear", "()I"⟩
abbrev cX8_stageAt : ByteArray := prog_1_method_16_code
def yX8_stageAt : MethodName := ⟨RX8, "stageAt", "(II)J"⟩
abbrev cX8_levelAt : ByteArray := prog_1_method_17_code
def yX8_levelAt : MethodName := ⟨RX8, "levelAt", "(I)J"⟩
abbrev cX8_record : ByteArray := prog_1_method_18_code
def yX8_record : MethodName := ⟨RX8, "record", "(II)J"⟩
abbrev cX8_forge : ByteArray := prog_1_method_19_code
def yX8_forge : MethodName := ⟨RX8, "forge", "(IIJ)I"⟩
abbrev cX8_check : ByteArray := prog_1_method_20_code
def yX8_check : MethodName := ⟨RX8, "check", "()I"⟩
abbrev cX8_read : ByteArray := prog_1_method_21_code
def yX8_read : MethodName := ⟨RX8, "read", "(I)J"⟩
abbrev cX8_weight : ByteArray := prog_1_method_22_code
def yX8_weight : MethodName := ⟨RX8, "weight", "(II)I"⟩
abbrev cX8_sums : ByteArray := prog_1_method_23_code
def yX8_sums : MethodName := ⟨RX8, "sums", "(II)J"⟩
abbrev cX8_trace : ByteArray := prog_1_method_24_code
def yX8_trace : MethodName := ⟨RX8, "trace", "(I)I"⟩
abbrev cX8_hold : ByteArray := prog_1_method_25_code
def yX8_hold : MethodName := ⟨RX8, "hold", "(JI)I"⟩
abbrev cX8_held : ByteArray := prog_1_method_26_code
def yX8_held : MethodName := ⟨RX8, "held", "(I)J"⟩
abbrev cX8_reach : ByteArray := prog_1_method_27_code
def yX8_reach : MethodName := ⟨RX8, "reach", "(JJJ)I"⟩
abbrev cX8_leaving : ByteArray := prog_1_method_28_code
def yX8_leaving : MethodName := ⟨RX8, "leaving", "(I)J"⟩
abbrev cX8_worst : ByteArray := prog_1_method_29_code
def yX8_worst : MethodName := ⟨RX8, "worst", "(IJJ)J"⟩
abbrev cX8_worstAt : ByteArray := prog_1_method_30_code
def yX8_worstAt : MethodName := ⟨RX8, "worstAt", "(I)J"⟩
abbrev cX8_count : ByteArray := prog_1_method_31_code
def yX8_count : MethodName := ⟨RX8, "count", "(I)I"⟩
abbrev cX8_digest : ByteArray := prog_1_method_32_code
def yX8_digest : MethodName := ⟨RX8, "digest", "()J"⟩
abbrev cX8_found : ByteArray := prog_1_method_33_code
def yX8_found : MethodName := ⟨RX8, "found", "(I)I"⟩
abbrev cX8_refuseItem : ByteArray := prog_1_method_34_code
def yX8_refuseItem : MethodName := ⟨RX8, "refuseItem", "(III)I"⟩
abbrev cX8_refuseSample : ByteArray := prog_1_method_35_code
def yX8_refuseSample : MethodName := ⟨RX8, "refuseSample", "(IJ)I"⟩
abbrev cX8_makeOne : ByteArray := prog_1_method_36_code
def yX8_makeOne : MethodName := ⟨RX8, "makeOne", "(J)I"⟩
abbrev cX8_isRecorded : ByteArray := prog_1_method_37_code
def yX8_isRecorded : MethodName := ⟨RX8, "isRecorded", "(II)Z"⟩
abbrev cX8_isReachable : ByteArray := prog_1_method_38_code
def yX8_isReachable : MethodName := ⟨RX8, "isReachable", "()Z"⟩
abbrev cX8_isReel : ByteArray := prog_1_method_39_code
def yX8_isReel : MethodName := ⟨RX8, "isReel", "(I)Z"⟩
abbrev cX8_isForm : ByteArray := prog_1_method_40_code
def yX8_isForm : MethodName := ⟨RX8, "isForm", "(I)Z"⟩
abbrev cX8_isSample : ByteArray := prog_1_method_41_code
def yX8_isSample : MethodName := ⟨RX8, "isSample", "(J)Z"⟩
abbrev cX8_isStageAsTold : ByteArray := prog_1_method_42_code
def yX8_isStageAsTold : MethodName := ⟨RX8, "isStageAsTold", "(IJI)Z"⟩
abbrev cX8_bitsAsHeld : ByteArray := prog_1_method_43_code
def yX8_bitsAsHeld : MethodName := ⟨RX8, "bitsAsHeld", "(IJ)J"⟩
abbrev cX8_isNoNumber : ByteArray := prog_1_method_44_code
def yX8_isNoNumber : MethodName := ⟨RX8, "isNoNumber", "(IJ)Z"⟩
abbrev cX8_cutToSample : ByteArray := prog_1_method_45_code
def yX8_cutToSample : MethodName := ⟨RX8, "cutToSample", "(IJ)J"⟩
abbrev cX8_sizeOfParts : ByteArray := prog_1_method_46_code
def yX8_sizeOfParts : MethodName := ⟨RX8, "sizeOfParts", "(JJII)J"⟩
def RX9 : String := "OneBitLoopModel"
def TX9 : u_T := fun k => match k with
  | 0 => ("OneBitLoopModel", "isThere", "[Z", true)
  | 1 => ("OneBitLoopModel", "forms", "[I", true)
  | 2 => ("OneBitLoopModel", "sizes", "[I", true)
  | 3 => ("OneBitLoopModel", "items", "[J", true)
  | 4 => ("OneBitLoopModel", "moved", "[J", true)
  | 5 => ("OneBitLoopModel", "finding", "I", false)
  | 6 => ("OneBitLoopModel", "stages", "I", false)
  | 7 => ("OneBitLoopModel", "kinds", "[I", true)
  | 8 => ("OneBitLoopModel", "first", "[J", true)
  | 9 => ("OneBitLoopModel", "second", "[I", true)
  | 10 => ("OneBitLoopModel", "levelMany", "I", false)
  | 11 => ("OneBitLoopModel", "levels", "[J", true)
  | 12 => ("OneBitLoopModel", "span", "I", false)
  | 13 => ("OneBitLoopModel", "seedTold", "J", false)
  | 14 => ("OneBitLoopModel", "has", "[J", true)
  | 15 => ("OneBitLoopModel", "seed", "J", false)
  | 16 => ("OneBitLoopModel", "steps", "I", false)
  | 17 => ("OneBitLoopModel", "made", "[J", true)
  | 18 => ("OneBitLoopModel", "record", "[J", true)
  | 19 => ("OneBitLoopModel", "traced", "I", false)
  | 20 => ("OneBitLoopModel", "trace", "[I", true)
  | 21 => ("OneBitLoopModel", "now", "[J", true)
  | 22 => ("OneBitLoopModel", "seedNow", "J", false)
  | 23 => ("OneBitLoopModel", "levelNow", "I", false)
  | 24 => ("OneBitLoopModel", "tracedNow", "I", false)
  | 25 => ("OneBitLoopModel", "traceNow", "[I", true)
  | 26 => ("OneBitLoopModel", "weights", "[I", true)
  | 27 => ("OneBitLoopModel", "running", "[J", true)
  | 28 => ("OneBitLoopModel", "stood", "[J", true)
  | 29 => ("OneBitLoopModel", "held", "[J", true)
  | 30 => ("OneBitLoopModel", "stands", "I", false)
  | 31 => ("OneBitLoopModel", "standOne", "[J", true)
  | 32 => ("OneBitLoopModel", "standTwo", "[J", true)
  | 33 => ("OneBitLoopModel", "cameFrom", "[I", true)
  | 34 => ("OneBitLoopModel", "cameBy", "[J", true)
  | 35 => ("OneBitLoopModel", "leaves", "I", false)
  | 36 => ("OneBitLoopModel", "leaving", "[J", true)
  | 37 => ("OneBitLoopModel", "worstWhy", "I", false)
  | 38 => ("OneBitLoopModel", "worstMany", "I", false)
  | _ => ("OneBitLoopModel", "worst", "[J", true)
def tyX9 : Nat → FieldType := fun k => match k with
  | 0 => .array .boolean
  | 1 => .array .int
  | 2 => .array .int
  | 3 => .array .long
  | 4 => .array .long
  | 5 => .int
  | 6 => .int
  | 7 => .array .int
  | 8 => .array .long
  | 9 => .array .int
  | 10 => .int
  | 11 => .array .long
  | 12 => .int
  | 13 => .long
  | 14 => .array .long
  | 15 => .long
  | 16 => .int
  | 17 => .array .long
  | 18 => .array .long
  | 19 => .int
  | 20 => .array .int
  | 21 => .array .long
  | 22 => .long
  | 23 => .int
  | 24 => .int
  | 25 => .array .int
  | 26 => .array .int
  | 27 => .array .long
  | 28 => .array .long
  | 29 => .array .long
  | 30 => .int
  | 31 => .array .long
  | 32 => .array .long
  | 33 => .array .int
  | 34 => .array .long
  | 35 => .int
  | 36 => .array .long
  | 37 => .int
  | 38 => .int
  | _ => .array .long
theorem nmX9 : ∀ a, a < 40 → ∀ b, b < 40 → a ≠ b → (TX9 a).2.1 ≠ (TX9 b).2.1 := by decide +kernel
theorem tyX9_ok : ∀ k, k < 40 → parseFieldDescriptor (TX9 k).2.2.1 = some (tyX9 k) := by decide +kernel
abbrev cX9_init : ByteArray := prog_11_method_1_code
def yX9_init : MethodName := ⟨RX9, "<init>", "()V"⟩
abbrev cX9_in : ByteArray := prog_11_method_3_code
def yX9_in : MethodName := ⟨RX9, "in", "(JJJ)Z"⟩
abbrev cX9_meets : ByteArray := prog_11_method_4_code
def yX9_meets : MethodName := ⟨RX9, "meets", "(I)I"⟩
abbrev cX9_isReel : ByteArray := prog_11_method_5_code
def yX9_isReel : MethodName := ⟨RX9, "isReel", "(I)Z"⟩
abbrev cX9_reel : ByteArray := prog_11_method_6_code
def yX9_reel : MethodName := ⟨RX9, "reel", "(III)I"⟩
abbrev cX9_lose : ByteArray := prog_11_method_7_code
def yX9_lose : MethodName := ⟨RX9, "lose", "(I)I"⟩
abbrev cX9_laid : ByteArray := prog_11_method_8_code
def yX9_laid : MethodName := ⟨RX9, "laid", "(IJ)J"⟩
abbrev cX9_lacks : ByteArray := prog_11_method_9_code
def yX9_lacks : MethodName := ⟨RX9, "lacks", "(III)I"⟩
abbrev cX9_put : ByteArray := prog_11_method_10_code
def yX9_put : MethodName := ⟨RX9, "put", "(IIIJ)I"⟩
abbrev cX9_get : ByteArray := prog_11_method_11_code
def yX9_get : MethodName := ⟨RX9, "get", "(III)J"⟩
abbrev cX9_copy : ByteArray := prog_11_method_12_code
def yX9_copy : MethodName := ⟨RX9, "copy", "(IIIII)I"⟩
abbrev cX9_sampleOf : ByteArray := prog_11_method_13_code
def yX9_sampleOf : MethodName := ⟨RX9, "sampleOf", "(II)J"⟩
abbrev cX9_sample : ByteArray := prog_11_method_14_code
def yX9_sample : MethodName := ⟨RX9, "sample", "(II)J"⟩
abbrev cX9_stage : ByteArray := prog_11_method_15_code
def yX9_stage : MethodName := ⟨RX9, "stage", "(IJI)I"⟩
abbrev cX9_isSample : ByteArray := prog_11_method_16_code
def yX9_isSample : MethodName := ⟨RX9, "isSample", "(J)Z"⟩
abbrev cX9_levels : ByteArray := prog_11_method_17_code
def yX9_levels : MethodName := ⟨RX9, "levels", "(IJJ)I"⟩
abbrev cX9_level : ByteArray := prog_11_method_18_code
def yX9_level : MethodName := ⟨RX9, "level", "(IJ)I"⟩
abbrev cX9_lot : ByteArray := prog_11_method_19_code
def yX9_lot : MethodName := ⟨RX9, "lot", "(IJ)I"⟩
abbrev cX9_take : ByteArray := prog_11_method_20_code
def yX9_take : MethodName := ⟨RX9, "take", "()V"⟩
abbrev cX9_rest : ByteArray := prog_11_method_21_code
def yX9_rest : MethodName := ⟨RX9, "rest", "()V"⟩
abbrev cX9_lay : ByteArray := prog_11_method_22_code
def yX9_lay : MethodName := ⟨RX9, "lay", "()V"⟩
abbrev cX9_writes : ByteArray := prog_11_method_23_code
def yX9_writes : MethodName := ⟨RX9, "writes", "(I)V"⟩
abbrev cX9_plain : ByteArray := prog_11_method_24_code
def yX9_plain : MethodName := ⟨RX9, "plain", "(IJJ)V"⟩
abbrev cX9_leaky : ByteArray := prog_11_method_25_code
def yX9_leaky : MethodName := ⟨RX9, "leaky", "(IJJ)V"⟩
abbrev cX9_bounded : ByteArray := prog_11_method_26_code
def yX9_bounded : MethodName := ⟨RX9, "bounded", "(IJJ)V"⟩
abbrev cX9_takes : ByteArray := prog_11_method_27_code
def yX9_takes : MethodName := ⟨RX9, "takes", "(IJJJ)V"⟩
abbrev cX9_nearest : ByteArray := prog_11_method_28_code
def yX9_nearest : MethodName := ⟨RX9, "nearest", "(J)I"⟩
abbrev cX9_tries : ByteArray := prog_11_method_29_code
def yX9_tries : MethodName := ⟨RX9, "tries", "(J)Z"⟩
abbrev cX9_does : ByteArray := prog_11_method_30_code
def yX9_does : MethodName := ⟨RX9, "does", "(J)I"⟩
abbrev cX9_step : ByteArray := prog_11_method_31_code
def yX9_step : MethodName := ⟨RX9, "step", "(J)I"⟩
abbrev cX9_run : ByteArray := prog_11_method_32_code
def yX9_run : MethodName := ⟨RX9, "run", "(III)I"⟩
abbrev cX9_undo : ByteArray := prog_11_method_33_code
def yX9_undo : MethodName := ⟨RX9, "undo", "(I)I"⟩
abbrev cX9_clear : ByteArray := prog_11_method_34_code
def yX9_clear : MethodName := ⟨RX9, "clear", "()I"⟩
abbrev cX9_stageAt : ByteArray := prog_11_method_35_code
def yX9_stageAt : MethodName := ⟨RX9, "stageAt", "(II)J"⟩
abbrev cX9_levelAt : ByteArray := prog_11_method_36_code
def yX9_levelAt : MethodName := ⟨RX9, "levelAt", "(I)J"⟩
abbrev cX9_isRecord : ByteArray := prog_11_method_37_code
def yX9_isRecord : MethodName := ⟨RX9, "isRecord", "(II)Z"⟩
abbrev cX9_record : ByteArray := prog_11_method_38_code
def yX9_record : MethodName := ⟨RX9, "record", "(II)J"⟩
abbrev cX9_forge : ByteArray := prog_11_method_39_code
def yX9_forge : MethodName := ⟨RX9, "forge", "(IIJ)I"⟩
abbrev cX9_check : ByteArray := prog_11_method_40_code
def yX9_check : MethodName := ⟨RX9, "check", "()I"⟩
abbrev cX9_read : ByteArray := prog_11_method_41_code
def yX9_read : MethodName := ⟨RX9, "read", "(I)J"⟩
abbrev cX9_weight : ByteArray := prog_11_method_42_code
def yX9_weight : MethodName := ⟨RX9, "weight", "(II)I"⟩
abbrev cX9_sums : ByteArray := prog_11_method_43_code
def yX9_sums : MethodName := ⟨RX9, "sums", "(II)J"⟩
abbrev cX9_trace : ByteArray := prog_11_method_44_code
def yX9_trace : MethodName := ⟨RX9, "trace", "(I)I"⟩
abbrev cX9_stands : ByteArray := prog_11_method_45_code
def yX9_stands : MethodName := ⟨RX9, "stands", "(I)V"⟩
abbrev cX9_isAlike : ByteArray := prog_11_method_46_code
def yX9_isAlike : MethodName := ⟨RX9, "isAlike", "(II)Z"⟩
abbrev cX9_hold : ByteArray := prog_11_method_47_code
def yX9_hold : MethodName := ⟨RX9, "hold", "(JI)I"⟩
abbrev cX9_held : ByteArray := prog_11_method_48_code
def yX9_held : MethodName := ⟨RX9, "held", "(I)J"⟩
abbrev cX9_tellRow : ByteArray := prog_11_method_49_code
def yX9_tellRow : MethodName := ⟨RX9, "tellRow", "(IJ)V"⟩
abbrev cX9_mayReach : ByteArray := prog_11_method_50_code
def yX9_mayReach : MethodName := ⟨RX9, "mayReach", "()Z"⟩
abbrev cX9_reach : ByteArray := prog_11_method_51_code
def yX9_reach : MethodName := ⟨RX9, "reach", "(JJJ)I"⟩
abbrev cX9_leaving : ByteArray := prog_11_method_52_code
def yX9_leaving : MethodName := ⟨RX9, "leaving", "(I)J"⟩
abbrev cX9_refuses : ByteArray := prog_11_method_53_code
def yX9_refuses : MethodName := ⟨RX9, "refuses", "(I)J"⟩
abbrev cX9_worst : ByteArray := prog_11_method_54_code
def yX9_worst : MethodName := ⟨RX9, "worst", "(IJJ)J"⟩
abbrev cX9_worstAt : ByteArray := prog_11_method_55_code
def yX9_worstAt : MethodName := ⟨RX9, "worstAt", "(I)J"⟩
abbrev cX9_count : ByteArray := prog_11_method_56_code
def yX9_count : MethodName := ⟨RX9, "count", "(I)I"⟩
abbrev cX9_digest : ByteArray := prog_11_method_57_code
def yX9_digest : MethodName := ⟨RX9, "digest", "()J"⟩
def RJxe99ae : String := "java/lang/Double"
def RJxf58ca : String := "java/lang/Float"
def RJ6 : String := "java/lang/Integer"
abbrev cJ6_numberOfTrailingZeros_0f7a4 : ByteArray := prog_14_method_48_code
def yJ6_numberOfTrailingZeros_0f7a4 : MethodName := ⟨RJ6, "numberOfTrailingZeros", "(I)I"⟩
def RJ9 : String := "java/lang/Math"
abbrev cJ9_abs_067f4 : ByteArray := prog_15_method_61_code
def yJ9_abs_067f4 : MethodName := ⟨RJ9, "abs", "(J)J"⟩
abbrev cJ9_max_f86c9 : ByteArray := prog_15_method_66_code
def yJ9_max_f86c9 : MethodName := ⟨RJ9, "max", "(JJ)J"⟩
abbrev cJ9_min_f86c9 : ByteArray := prog_15_method_70_code
def yJ9_min_f86c9 : MethodName := ⟨RJ9, "min", "(JJ)J"⟩
def RJ10 : String := "java/lang/System"
def RJ7 : String := "java/util/Arrays"
abbrev cJ7_fill_d0a16 : ByteArray := prog_17_method_101_code
def yJ7_fill_d0a16 : MethodName := ⟨RJ7, "fill", "([JJ)V"⟩
abbrev cJ7_fill_53178 : ByteArray := prog_17_method_103_code
def yJ7_fill_53178 : MethodName := ⟨RJ7, "fill", "([II)V"⟩
def RL : String := "OneBitLoopLaw"
abbrev cL_law : ByteArray := code
def yL_law : MethodName := ⟨RL, "law", "([I)Z"⟩
abbrev vwCl : List vw_C := [(RX0, TX0, 6), (RX1, TX1, 3), (RX2, TX2, 6), (RX3, TX3, 4), (RX4, TX4, 6), (RX5, TX5, 8), (RX6, TX6, 6), (RX7, TX7, 8), (RX8, TX8, 10), (RX9, TX9, 40)]
end
section
theorem dX0_init_0 : decode cX0_init 0 = .ok (.aload_n 0, 1) := by decide +kernel
theorem dX0_init_1 : decode cX0_init 1 = .ok (.invokespecial 3, 3) := by decide +kernel
theorem dX0_init_4 : decode cX0_init 4 = .ok (.aload_n 0, 1) := by decide +kernel
theorem dX0_init_5 : decode cX0_init 5 = .ok (.sipush 400, 3) := by decide +kernel
theorem dX0_init_8 : decode cX0_init 8 = .ok (.newarray .long, 2) := by decide +kernel
theorem dX0_init_10 : decode cX0_init 10 = .ok (.putfield 9, 3) := by decide +kernel
theorem dX0_init_13 : decode cX0_init 13 = .ok (.aload_n 0, 1) := by decide +kernel
theorem dX0_init_14 : decode cX0_init 14 = .ok (.iconst 0, 1) := by decide +kernel
theorem dX0_init_15 : decode cX0_init 15 = .ok (.putfield 15, 3) := by decide +kernel
theorem dX0_init_18 : decode cX0_init 18 = .ok (.aload_n 0, 1) := by decide +kernel
theorem dX0_init_19 : decode cX0_init 19 = .ok (.iconst 0, 1) := by decide +kernel
theorem dX0_init_20 : decode cX0_init 20 = .ok (.putfield 19, 3) := by decide +kernel
theorem dX0_init_23 : decode cX0_init 23 = .ok (.aload_n 0, 1) := by decide +kernel
theorem dX0_init_24 : decode cX0_init 24 = .ok (.lconst 0, 1) := by decide +kernel
theorem dX0_init_25 : decode cX0_init 25 = .ok (.putfield 22, 3) := by decide +kernel
theorem dX0_init_28 : decode cX0_init 28 = .ok (.aload_n 0, 1) := by decide +kernel
theorem dX0_init_29 : decode cX0_init 29 = .ok (.aload_n 1, 1) := by decide +kernel
theorem dX0_init_30 : decode cX0_init 30 = .ok (.putfield 26, 3) := by decide +kernel
theorem dX0_init_33 : decode cX0_init 33 = .ok (.aload_n 0, 1) := by decide +kernel
theorem dX0_init_34 : decode cX0_init 34 = .ok (.aload_n 2, 1) := by decide +kernel
theorem dX0_init_35 : decode cX0_init 35 = .ok (.putfield 30, 3) := by decide +kernel
theorem dX0_init_38 : decode cX0_init 38 = .ok (.return_, 1) := by decide +kernel
theorem dX0_goRound_0 : decode cX0_goRound 0 = .ok (.aload_n 0, 1) := by decide +kernel
theorem dX0_goRound_1 : decode cX0_goRound 1 = .ok (.getfield 30, 3) := by decide +kernel
theorem dX0_goRound_4 : decode cX0_goRound 4 = .ok (.invokevirtual 34, 3) := by decide +kernel
theorem dX0_goRound_7 : decode cX0_goRound 7 = .ok (.aload_n 0, 1) := by decide +kernel
theorem dX0_goRound_8 : decode cX0_goRound 8 = .ok (.getfield 30, 3) := by decide +kernel
theorem dX0_goRound_11 : decode cX0_goRound 11 = .ok (.aload_n 1, 1) := by decide +kernel
theorem dX0_goRound_12 : decode cX0_goRound 12 = .ok (.invokevirtual 39, 3) := by decide +kernel
theorem dX0_goRound_15 : decode cX0_goRound 15 = .ok (.pop, 1) := by decide +kernel
theorem dX0_goRound_16 : decode cX0_goRound 16 = .ok (.lconst 0, 1) := by decide +kernel
theorem dX0_goRound_17 : decode cX0_goRound 17 = .ok (.lstore 5, 2) := by decide +kernel
theorem dX0_goRound_19 : decode cX0_goRound 19 = .ok (.iconst 0, 1) := by decide +kernel
theorem dX0_goRound_20 : decode cX0_goRound 20 = .ok (.istore 7, 2) := by decide +kernel
theorem dX0_goRound_22 : decode cX0_goRound 22 = .ok (.iload 7, 2) := by decide +kernel
theorem dX0_goRound_24 : decode cX0_goRound 24 = .ok (.iload 4, 2) := by decide +kernel
theorem dX0_goRound_26 : decode cX0_goRound 26 = .ok (.if_icmp .ge 112, 3) := by decide +kernel
theorem dX0_goRound_29 : decode cX0_goRound 29 = .ok (.iload 7, 2) := by decide +kernel
theorem dX0_goRound_31 : decode cX0_goRound 31 = .ok (.sipush 400, 3) := by decide +kernel
theorem dX0_goRound_34 : decode cX0_goRound 34 = .ok (.if_icmp .ge 104, 3) := by decide +kernel
theorem dX0_goRound_37 : decode cX0_goRound 37 = .ok (.aload_n 0, 1) := by decide +kernel
theorem dX0_goRound_38 : decode cX0_goRound 38 = .ok (.getfield 30, 3) := by decide +kernel
theorem dX0_goRound_41 : decode cX0_goRound 41 = .ok (.invokevirtual 43, 3) := by decide +kernel
theorem dX0_goRound_44 : decode cX0_goRound 44 = .ok (.aload_n 0, 1) := by decide +kernel
theorem dX0_goRound_45 : decode cX0_goRound 45 = .ok (.getfield 9, 3) := by decide +kernel
theorem dX0_goRound_48 : decode cX0_goRound 48 = .ok (.iload 7, 2) := by decide +kernel
theorem dX0_goRound_50 : decode cX0_goRound 50 = .ok (.lload 5, 2) := by decide +kernel
theorem dX0_goRound_52 : decode cX0_goRound 52 = .ok (.lastore, 1) := by decide +kernel
theorem dX0_goRound_53 : decode cX0_goRound 53 = .ok (.aload_n 1, 1) := by decide +kernel
theorem dX0_goRound_54 : decode cX0_goRound 54 = .ok (.lload_n 2, 1) := by decide +kernel
theorem dX0_goRound_55 : decode cX0_goRound 55 = .ok (.invokevirtual 46, 3) := by decide +kernel
theorem dX0_goRound_58 : decode cX0_goRound 58 = .ok (.ifCond .ne 6, 3) := by decide +kernel
theorem dX0_goRound_61 : decode cX0_goRound 61 = .ok (.bipush (-6), 2) := by decide +kernel
theorem dX0_goRound_63 : decode cX0_goRound 63 = .ok (.ireturn, 1) := by decide +kernel
theorem dX0_goRound_64 : decode cX0_goRound 64 = .ok (.lload 5, 2) := by decide +kernel
theorem dX0_goRound_66 : decode cX0_goRound 66 = .ok (.aload_n 0, 1) := by decide +kernel
theorem dX0_goRound_67 : decode cX0_goRound 67 = .ok (.getfield 26, 3) := by decide +kernel
theorem dX0_goRound_70 : decode cX0_goRound 70 = .ok (.getfield 52, 3) := by decide +kernel
theorem dX0_goRound_73 : decode cX0_goRound 73 = .ok (.aload_n 1, 1) := by decide +kernel
theorem dX0_goRound_74 : decode cX0_goRound 74 = .ok (.getfield 57, 3) := by decide +kernel
theorem dX0_goRound_77 : decode cX0_goRound 77 = .ok (.laload, 1) := by decide +kernel
theorem dX0_goRound_78 : decode cX0_goRound 78 = .ok (.ladd, 1) := by decide +kernel
theorem dX0_goRound_79 : decode cX0_goRound 79 = .ok (.lstore 5, 2) := by decide +kernel
theorem dX0_goRound_81 : decode cX0_goRound 81 = .ok (.aload_n 0, 1) := by decide +kernel
theorem dX0_goRound_82 : decode cX0_goRound 82 = .ok (.getfield 30, 3) := by decide +kernel
theorem dX0_goRound_85 : decode cX0_goRound 85 = .ok (.aload_n 1, 1) := by decide +kernel
theorem dX0_goRound_86 : decode cX0_goRound 86 = .ok (.invokevirtual 39, 3) := by decide +kernel
theorem dX0_goRound_89 : decode cX0_goRound 89 = .ok (.istore 8, 2) := by decide +kernel
theorem dX0_goRound_91 : decode cX0_goRound 91 = .ok (.iload 8, 2) := by decide +kernel
theorem dX0_goRound_93 : decode cX0_goRound 93 = .ok (.ifCond .lt 39, 3) := by decide +kernel
theorem dX0_goRound_96 : decode cX0_goRound 96 = .ok (.aload_n 0, 1) := by decide +kernel
theorem dX0_goRound_97 : decode cX0_goRound 97 = .ok (.iload 8, 2) := by decide +kernel
theorem dX0_goRound_99 : decode cX0_goRound 99 = .ok (.putfield 15, 3) := by decide +kernel
theorem dX0_goRound_102 : decode cX0_goRound 102 = .ok (.aload_n 0, 1) := by decide +kernel
theorem dX0_goRound_103 : decode cX0_goRound 103 = .ok (.iload 7, 2) := by decide +kernel
theorem dX0_goRound_105 : decode cX0_goRound 105 = .ok (.iconst 1, 1) := by decide +kernel
theorem dX0_goRound_106 : decode cX0_goRound 106 = .ok (.iadd, 1) := by decide +kernel
theorem dX0_goRound_107 : decode cX0_goRound 107 = .ok (.iload 8, 2) := by decide +kernel
theorem dX0_goRound_109 : decode cX0_goRound 109 = .ok (.isub, 1) := by decide +kernel
theorem dX0_goRound_110 : decode cX0_goRound 110 = .ok (.putfield 19, 3) := by decide +kernel
theorem dX0_goRound_113 : decode cX0_goRound 113 = .ok (.aload_n 0, 1) := by decide +kernel
theorem dX0_goRound_114 : decode cX0_goRound 114 = .ok (.lload 5, 2) := by decide +kernel
theorem dX0_goRound_116 : decode cX0_goRound 116 = .ok (.aload_n 0, 1) := by decide +kernel
theorem dX0_goRound_117 : decode cX0_goRound 117 = .ok (.getfield 9, 3) := by decide +kernel
theorem dX0_goRound_120 : decode cX0_goRound 120 = .ok (.iload 8, 2) := by decide +kernel
theorem dX0_goRound_122 : decode cX0_goRound 122 = .ok (.laload, 1) := by decide +kernel
theorem dX0_goRound_123 : decode cX0_goRound 123 = .ok (.lsub, 1) := by decide +kernel
theorem dX0_goRound_124 : decode cX0_goRound 124 = .ok (.putfield 22, 3) := by decide +kernel
theorem dX0_goRound_127 : decode cX0_goRound 127 = .ok (.aload_n 0, 1) := by decide +kernel
theorem dX0_goRound_128 : decode cX0_goRound 128 = .ok (.getfield 15, 3) := by decide +kernel
theorem dX0_goRound_131 : decode cX0_goRound 131 = .ok (.ireturn, 1) := by decide +kernel
theorem dX0_goRound_132 : decode cX0_goRound 132 = .ok (.iinc 7 1, 3) := by decide +kernel
theorem dX0_goRound_135 : decode cX0_goRound 135 = .ok (.goto (-113), 3) := by decide +kernel
theorem dX0_goRound_138 : decode cX0_goRound 138 = .ok (.bipush (-5), 2) := by decide +kernel
theorem dX0_goRound_140 : decode cX0_goRound 140 = .ok (.ireturn, 1) := by decide +kernel
theorem dX1_init_0 : decode cX1_init 0 = .ok (.aload_n 0, 1) := by decide +kernel
theorem dX1_init_1 : decode cX1_init 1 = .ok (.invokespecial 3, 3) := by decide +kernel
theorem dX1_init_4 : decode cX1_init 4 = .ok (.aload_n 0, 1) := by decide +kernel
theorem dX1_init_5 : decode cX1_init 5 = .ok (.sipush 2100, 3) := by decide +kernel
theorem dX1_init_8 : decode cX1_init 8 = .ok (.newarray .long, 2) := by decide +kernel
theorem dX1_init_10 : decode cX1_init 10 = .ok (.putfield 9, 3) := by decide +kernel
theorem dX1_init_13 : decode cX1_init 13 = .ok (.aload_n 0, 1) := by decide +kernel
theorem dX1_init_14 : decode cX1_init 14 = .ok (.sipush 300, 3) := by decide +kernel
theorem dX1_init_17 : decode cX1_init 17 = .ok (.newarray .long, 2) := by decide +kernel
theorem dX1_init_19 : decode cX1_init 19 = .ok (.putfield 15, 3) := by decide +kernel
theorem dX1_init_22 : decode cX1_init 22 = .ok (.aload_n 0, 1) := by decide +kernel
theorem dX1_init_23 : decode cX1_init 23 = .ok (.iconst 0, 1) := by decide +kernel
theorem dX1_init_24 : decode cX1_init 24 = .ok (.putfield 18, 3) := by decide +kernel
theorem dX1_init_27 : decode cX1_init 27 = .ok (.return_, 1) := by decide +kernel
theorem dX1_hasStep_0 : decode cX1_hasStep 0 = .ok (.iload_n 1, 1) := by decide +kernel
theorem dX1_hasStep_1 : decode cX1_hasStep 1 = .ok (.ifCond .lt 15, 3) := by decide +kernel
theorem dX1_hasStep_4 : decode cX1_hasStep 4 = .ok (.iload_n 1, 1) := by decide +kernel
theorem dX1_hasStep_5 : decode cX1_hasStep 5 = .ok (.aload_n 0, 1) := by decide +kernel
theorem dX1_hasStep_6 : decode cX1_hasStep 6 = .ok (.getfield 18, 3) := by decide +kernel
theorem dX1_hasStep_9 : decode cX1_hasStep 9 = .ok (.if_icmp .ge 7, 3) := by decide +kernel
theorem dX1_hasStep_12 : decode cX1_hasStep 12 = .ok (.iconst 1, 1) := by decide +kernel
theorem dX1_hasStep_13 : decode cX1_hasStep 13 = .ok (.goto 4, 3) := by decide +kernel
theorem dX1_hasStep_16 : decode cX1_hasStep 16 = .ok (.iconst 0, 1) := by decide +kernel
theorem dX1_hasStep_17 : decode cX1_hasStep 17 = .ok (.ireturn, 1) := by decide +kernel
theorem dX1_levelOf_0 : decode cX1_levelOf 0 = .ok (.aload_n 0, 1) := by decide +kernel
theorem dX1_levelOf_1 : decode cX1_levelOf 1 = .ok (.getfield 9, 3) := by decide +kernel
theorem dX1_levelOf_4 : decode cX1_levelOf 4 = .ok (.iload_n 1, 1) := by decide +kernel
theorem dX1_levelOf_5 : decode cX1_levelOf 5 = .ok (.bipush 7, 2) := by decide +kernel
theorem dX1_levelOf_7 : decode cX1_levelOf 7 = .ok (.imul, 1) := by decide +kernel
theorem dX1_levelOf_8 : decode cX1_levelOf 8 = .ok (.iconst 1, 1) := by decide +kernel
theorem dX1_levelOf_9 : decode cX1_levelOf 9 = .ok (.iadd, 1) := by decide +kernel
theorem dX1_levelOf_10 : decode cX1_levelOf 10 = .ok (.laload, 1) := by decide +kernel
theorem dX1_levelOf_11 : decode cX1_levelOf 11 = .ok (.lreturn, 1) := by decide +kernel
theorem dX1_latestMade_0 : decode cX1_latestMade 0 = .ok (.aload_n 0, 1) := by decide +kernel
theorem dX1_latestMade_1 : decode cX1_latestMade 1 = .ok (.getfield 18, 3) := by decide +kernel
theorem dX1_latestMade_4 : decode cX1_latestMade 4 = .ok (.ifCond .le 17, 3) := by decide +kernel
theorem dX1_latestMade_7 : decode cX1_latestMade 7 = .ok (.aload_n 0, 1) := by decide +kernel
theorem dX1_latestMade_8 : decode cX1_latestMade 8 = .ok (.getfield 15, 3) := by decide +kernel
theorem dX1_latestMade_11 : decode cX1_latestMade 11 = .ok (.aload_n 0, 1) := by decide +kernel
theorem dX1_latestMade_12 : decode cX1_latestMade 12 = .ok (.getfield 18, 3) := by decide +kernel
theorem dX1_latestMade_15 : decode cX1_latestMade 15 = .ok (.iconst 1, 1) := by decide +kernel
theorem dX1_latestMade_16 : decode cX1_latestMade 16 = .ok (.isub, 1) := by decide +kernel
theorem dX1_latestMade_17 : decode cX1_latestMade 17 = .ok (.laload, 1) := by decide +kernel
theorem dX1_latestMade_18 : decode cX1_latestMade 18 = .ok (.goto 4, 3) := by decide +kernel
theorem dX1_latestMade_21 : decode cX1_latestMade 21 = .ok (.lconst 0, 1) := by decide +kernel
theorem dX1_latestMade_22 : decode cX1_latestMade 22 = .ok (.lreturn, 1) := by decide +kernel
theorem dX1_write_0 : decode cX1_write 0 = .ok (.aload_n 0, 1) := by decide +kernel
theorem dX1_write_1 : decode cX1_write 1 = .ok (.getfield 15, 3) := by decide +kernel
theorem dX1_write_4 : decode cX1_write 4 = .ok (.aload_n 0, 1) := by decide +kernel
theorem dX1_write_5 : decode cX1_write 5 = .ok (.getfield 18, 3) := by decide +kernel
theorem dX1_write_8 : decode cX1_write 8 = .ok (.lload_n 1, 1) := by decide +kernel
theorem dX1_write_9 : decode cX1_write 9 = .ok (.lastore, 1) := by decide +kernel
theorem dX1_write_10 : decode cX1_write 10 = .ok (.aload_n 0, 1) := by decide +kernel
theorem dX1_write_11 : decode cX1_write 11 = .ok (.getfield 18, 3) := by decide +kernel
theorem dX1_write_14 : decode cX1_write 14 = .ok (.bipush 7, 2) := by decide +kernel
theorem dX1_write_16 : decode cX1_write 16 = .ok (.imul, 1) := by decide +kernel
theorem dX1_write_17 : decode cX1_write 17 = .ok (.istore 4, 2) := by decide +kernel
theorem dX1_write_19 : decode cX1_write 19 = .ok (.aload_n 0, 1) := by decide +kernel
theorem dX1_write_20 : decode cX1_write 20 = .ok (.getfield 9, 3) := by decide +kernel
theorem dX1_write_23 : decode cX1_write 23 = .ok (.iload 4, 2) := by decide +kernel
theorem dX1_write_25 : decode cX1_write 25 = .ok (.iconst 0, 1) := by decide +kernel
theorem dX1_write_26 : decode cX1_write 26 = .ok (.iadd, 1) := by decide +kernel
theorem dX1_write_27 : decode cX1_write 27 = .ok (.lload_n 1, 1) := by decide +kernel
theorem dX1_write_28 : decode cX1_write 28 = .ok (.lastore, 1) := by decide +kernel
theorem dX1_write_29 : decode cX1_write 29 = .ok (.aload_n 0, 1) := by decide +kernel
theorem dX1_write_30 : decode cX1_write 30 = .ok (.getfield 9, 3) := by decide +kernel
theorem dX1_write_33 : decode cX1_write 33 = .ok (.iload 4, 2) := by decide +kernel
theorem dX1_write_35 : decode cX1_write 35 = .ok (.iconst 1, 1) := by decide +kernel
theorem dX1_write_36 : decode cX1_write 36 = .ok (.iadd, 1) := by decide +kernel
theorem dX1_write_37 : decode cX1_write 37 = .ok (.aload_n 3, 1) := by decide +kernel
theorem dX1_write_38 : decode cX1_write 38 = .ok (.getfield 22, 3) := by decide +kernel
theorem dX1_write_41 : decode cX1_write 41 = .ok (.getfield 28, 3) := by decide +kernel
theorem dX1_write_44 : decode cX1_write 44 = .ok (.aload_n 3, 1) := by decide +kernel
theorem dX1_write_45 : decode cX1_write 45 = .ok (.getfield 33, 3) := by decide +kernel
theorem dX1_write_48 : decode cX1_write 48 = .ok (.laload, 1) := by decide +kernel
theorem dX1_write_49 : decode cX1_write 49 = .ok (.lastore, 1) := by decide +kernel
theorem dX1_write_50 : decode cX1_write 50 = .ok (.iconst 0, 1) := by decide +kernel
theorem dX1_write_51 : decode cX1_write 51 = .ok (.istore 5, 2) := by decide +kernel
theorem dX1_write_53 : decode cX1_write 53 = .ok (.iload 5, 2) := by decide +kernel
theorem dX1_write_55 : decode cX1_write 55 = .ok (.aload_n 3, 1) := by decide +kernel
theorem dX1_write_56 : decode cX1_write 56 = .ok (.getfield 22, 3) := by decide +kernel
theorem dX1_write_59 : decode cX1_write 59 = .ok (.getfield 36, 3) := by decide +kernel
theorem dX1_write_62 : decode cX1_write 62 = .ok (.if_icmp .ge 33, 3) := by decide +kernel
theorem dX1_write_65 : decode cX1_write 65 = .ok (.aload_n 0, 1) := by decide +kernel
theorem dX1_write_66 : decode cX1_write 66 = .ok (.getfield 9, 3) := by decide +kernel
theorem dX1_write_69 : decode cX1_write 69 = .ok (.iload 4, 2) := by decide +kernel
theorem dX1_write_71 : decode cX1_write 71 = .ok (.iconst 2, 1) := by decide +kernel
theorem dX1_write_72 : decode cX1_write 72 = .ok (.iadd, 1) := by decide +kernel
theorem dX1_write_73 : decode cX1_write 73 = .ok (.iload 5, 2) := by decide +kernel
theorem dX1_write_75 : decode cX1_write 75 = .ok (.iadd, 1) := by decide +kernel
theorem dX1_write_76 : decode cX1_write 76 = .ok (.aload_n 3, 1) := by decide +kernel
theorem dX1_write_77 : decode cX1_write 77 = .ok (.getfield 39, 3) := by decide +kernel
theorem dX1_write_80 : decode cX1_write 80 = .ok (.iload 5, 2) := by decide +kernel
theorem dX1_write_82 : decode cX1_write 82 = .ok (.bipush 6, 2) := by decide +kernel
theorem dX1_write_84 : decode cX1_write 84 = .ok (.imul, 1) := by decide +kernel
theorem dX1_write_85 : decode cX1_write 85 = .ok (.iconst 0, 1) := by decide +kernel
theorem dX1_write_86 : decode cX1_write 86 = .ok (.iadd, 1) := by decide +kernel
theorem dX1_write_87 : decode cX1_write 87 = .ok (.laload, 1) := by decide +kernel
theorem dX1_write_88 : decode cX1_write 88 = .ok (.lastore, 1) := by decide +kernel
theorem dX1_write_89 : decode cX1_write 89 = .ok (.iinc 5 1, 3) := by decide +kernel
theorem dX1_write_92 : decode cX1_write 92 = .ok (.goto (-39), 3) := by decide +kernel
theorem dX1_write_95 : decode cX1_write 95 = .ok (.aload_n 0, 1) := by decide +kernel
theorem dX1_write_96 : decode cX1_write 96 = .ok (.dup, 1) := by decide +kernel
theorem dX1_write_97 : decode cX1_write 97 = .ok (.getfield 18, 3) := by decide +kernel
theorem dX1_write_100 : decode cX1_write 100 = .ok (.iconst 1, 1) := by decide +kernel
theorem dX1_write_101 : decode cX1_write 101 = .ok (.iadd, 1) := by decide +kernel
theorem dX1_write_102 : decode cX1_write 102 = .ok (.putfield 18, 3) := by decide +kernel
theorem dX1_write_105 : decode cX1_write 105 = .ok (.return_, 1) := by decide +kernel
theorem dX1_agrees_0 : decode cX1_agrees 0 = .ok (.aload_n 0, 1) := by decide +kernel
theorem dX1_agrees_1 : decode cX1_agrees 1 = .ok (.iload_n 1, 1) := by decide +kernel
theorem dX1_agrees_2 : decode cX1_agrees 2 = .ok (.invokevirtual 40, 3) := by decide +kernel
theorem dX1_agrees_5 : decode cX1_agrees 5 = .ok (.aload_n 2, 1) := by decide +kernel
theorem dX1_agrees_6 : decode cX1_agrees 6 = .ok (.getfield 22, 3) := by decide +kernel
theorem dX1_agrees_9 : decode cX1_agrees 9 = .ok (.getfield 28, 3) := by decide +kernel
theorem dX1_agrees_12 : decode cX1_agrees 12 = .ok (.aload_n 2, 1) := by decide +kernel
theorem dX1_agrees_13 : decode cX1_agrees 13 = .ok (.getfield 33, 3) := by decide +kernel
theorem dX1_agrees_16 : decode cX1_agrees 16 = .ok (.laload, 1) := by decide +kernel
theorem dX1_agrees_17 : decode cX1_agrees 17 = .ok (.lcmp, 1) := by decide +kernel
theorem dX1_agrees_18 : decode cX1_agrees 18 = .ok (.ifCond .eq 5, 3) := by decide +kernel
theorem dX1_agrees_21 : decode cX1_agrees 21 = .ok (.iconst 0, 1) := by decide +kernel
theorem dX1_agrees_22 : decode cX1_agrees 22 = .ok (.ireturn, 1) := by decide +kernel
theorem dX1_agrees_23 : decode cX1_agrees 23 = .ok (.iconst 0, 1) := by decide +kernel
theorem dX1_agrees_24 : decode cX1_agrees 24 = .ok (.istore_n 3, 1) := by decide +kernel
theorem dX1_agrees_25 : decode cX1_agrees 25 = .ok (.iload_n 3, 1) := by decide +kernel
theorem dX1_agrees_26 : decode cX1_agrees 26 = .ok (.aload_n 2, 1) := by decide +kernel
theorem dX1_agrees_27 : decode cX1_agrees 27 = .ok (.getfield 22, 3) := by decide +kernel
theorem dX1_agrees_30 : decode cX1_agrees 30 = .ok (.getfield 36, 3) := by decide +kernel
theorem dX1_agrees_33 : decode cX1_agrees 33 = .ok (.if_icmp .ge 39, 3) := by decide +kernel
theorem dX1_agrees_36 : decode cX1_agrees 36 = .ok (.aload_n 0, 1) := by decide +kernel
theorem dX1_agrees_37 : decode cX1_agrees 37 = .ok (.getfield 9, 3) := by decide +kernel
theorem dX1_agrees_40 : decode cX1_agrees 40 = .ok (.iload_n 1, 1) := by decide +kernel
theorem dX1_agrees_41 : decode cX1_agrees 41 = .ok (.bipush 7, 2) := by decide +kernel
theorem dX1_agrees_43 : decode cX1_agrees 43 = .ok (.imul, 1) := by decide +kernel
theorem dX1_agrees_44 : decode cX1_agrees 44 = .ok (.iconst 2, 1) := by decide +kernel
theorem dX1_agrees_45 : decode cX1_agrees 45 = .ok (.iadd, 1) := by decide +kernel
theorem dX1_agrees_46 : decode cX1_agrees 46 = .ok (.iload_n 3, 1) := by decide +kernel
theorem dX1_agrees_47 : decode cX1_agrees 47 = .ok (.iadd, 1) := by decide +kernel
theorem dX1_agrees_48 : decode cX1_agrees 48 = .ok (.laload, 1) := by decide +kernel
theorem dX1_agrees_49 : decode cX1_agrees 49 = .ok (.aload_n 2, 1) := by decide +kernel
theorem dX1_agrees_50 : decode cX1_agrees 50 = .ok (.getfield 39, 3) := by decide +kernel
theorem dX1_agrees_53 : decode cX1_agrees 53 = .ok (.iload_n 3, 1) := by decide +kernel
theorem dX1_agrees_54 : decode cX1_agrees 54 = .ok (.bipush 6, 2) := by decide +kernel
theorem dX1_agrees_56 : decode cX1_agrees 56 = .ok (.imul, 1) := by decide +kernel
theorem dX1_agrees_57 : decode cX1_agrees 57 = .ok (.iconst 0, 1) := by decide +kernel
theorem dX1_agrees_58 : decode cX1_agrees 58 = .ok (.iadd, 1) := by decide +kernel
theorem dX1_agrees_59 : decode cX1_agrees 59 = .ok (.laload, 1) := by decide +kernel
theorem dX1_agrees_60 : decode cX1_agrees 60 = .ok (.lcmp, 1) := by decide +kernel
theorem dX1_agrees_61 : decode cX1_agrees 61 = .ok (.ifCond .eq 5, 3) := by decide +kernel
theorem dX1_agrees_64 : decode cX1_agrees 64 = .ok (.iconst 0, 1) := by decide +kernel
theorem dX1_agrees_65 : decode cX1_agrees 65 = .ok (.ireturn, 1) := by decide +kernel
theorem dX1_agrees_66 : decode cX1_agrees 66 = .ok (.iinc 3 1, 3) := by decide +kernel
theorem dX1_agrees_69 : decode cX1_agrees 69 = .ok (.goto (-44), 3) := by decide +kernel
theorem dX1_agrees_72 : decode cX1_agrees 72 = .ok (.iconst 1, 1) := by decide +kernel
theorem dX1_agrees_73 : decode cX1_agrees 73 = .ok (.ireturn, 1) := by decide +kernel
theorem dX1_runningSum_0 : decode cX1_runningSum 0 = .ok (.lconst 0, 1) := by decide +kernel
theorem dX1_runningSum_1 : decode cX1_runningSum 1 = .ok (.lstore_n 3, 1) := by decide +kernel
theorem dX1_runningSum_2 : decode cX1_runningSum 2 = .ok (.lconst 0, 1) := by decide +kernel
theorem dX1_runningSum_3 : decode cX1_runningSum 3 = .ok (.lstore 5, 2) := by decide +kernel
theorem dX1_runningSum_5 : decode cX1_runningSum 5 = .ok (.lconst 0, 1) := by decide +kernel
theorem dX1_runningSum_6 : decode cX1_runningSum 6 = .ok (.lstore 7, 2) := by decide +kernel
theorem dX1_runningSum_8 : decode cX1_runningSum 8 = .ok (.lconst 0, 1) := by decide +kernel
theorem dX1_runningSum_9 : decode cX1_runningSum 9 = .ok (.lstore 9, 2) := by decide +kernel
theorem dX1_runningSum_11 : decode cX1_runningSum 11 = .ok (.iconst 0, 1) := by decide +kernel
theorem dX1_runningSum_12 : decode cX1_runningSum 12 = .ok (.istore 11, 2) := by decide +kernel
theorem dX1_runningSum_14 : decode cX1_runningSum 14 = .ok (.iload 11, 2) := by decide +kernel
theorem dX1_runningSum_16 : decode cX1_runningSum 16 = .ok (.iload_n 2, 1) := by decide +kernel
theorem dX1_runningSum_17 : decode cX1_runningSum 17 = .ok (.if_icmp .gt 38, 3) := by decide +kernel
theorem dX1_runningSum_20 : decode cX1_runningSum 20 = .ok (.lload_n 3, 1) := by decide +kernel
theorem dX1_runningSum_21 : decode cX1_runningSum 21 = .ok (.aload_n 0, 1) := by decide +kernel
theorem dX1_runningSum_22 : decode cX1_runningSum 22 = .ok (.iload 11, 2) := by decide +kernel
theorem dX1_runningSum_24 : decode cX1_runningSum 24 = .ok (.invokevirtual 40, 3) := by decide +kernel
theorem dX1_runningSum_27 : decode cX1_runningSum 27 = .ok (.ladd, 1) := by decide +kernel
theorem dX1_runningSum_28 : decode cX1_runningSum 28 = .ok (.lstore_n 3, 1) := by decide +kernel
theorem dX1_runningSum_29 : decode cX1_runningSum 29 = .ok (.lload 5, 2) := by decide +kernel
theorem dX1_runningSum_31 : decode cX1_runningSum 31 = .ok (.lload_n 3, 1) := by decide +kernel
theorem dX1_runningSum_32 : decode cX1_runningSum 32 = .ok (.ladd, 1) := by decide +kernel
theorem dX1_runningSum_33 : decode cX1_runningSum 33 = .ok (.lstore 5, 2) := by decide +kernel
theorem dX1_runningSum_35 : decode cX1_runningSum 35 = .ok (.lload 7, 2) := by decide +kernel
theorem dX1_runningSum_37 : decode cX1_runningSum 37 = .ok (.lload 5, 2) := by decide +kernel
theorem dX1_runningSum_39 : decode cX1_runningSum 39 = .ok (.ladd, 1) := by decide +kernel
theorem dX1_runningSum_40 : decode cX1_runningSum 40 = .ok (.lstore 7, 2) := by decide +kernel
theorem dX1_runningSum_42 : decode cX1_runningSum 42 = .ok (.lload 9, 2) := by decide +kernel
theorem dX1_runningSum_44 : decode cX1_runningSum 44 = .ok (.lload 7, 2) := by decide +kernel
theorem dX1_runningSum_46 : decode cX1_runningSum 46 = .ok (.ladd, 1) := by decide +kernel
theorem dX1_runningSum_47 : decode cX1_runningSum 47 = .ok (.lstore 9, 2) := by decide +kernel
theorem dX1_runningSum_49 : decode cX1_runningSum 49 = .ok (.iinc 11 1, 3) := by decide +kernel
theorem dX1_runningSum_52 : decode cX1_runningSum 52 = .ok (.goto (-38), 3) := by decide +kernel
theorem dX1_runningSum_55 : decode cX1_runningSum 55 = .ok (.iload_n 1, 1) := by decide +kernel
theorem dX1_runningSum_56 : decode cX1_runningSum 56 = .ok (.tableswitch 36 1 3 #[28, 30, 33], 28) := by decide +kernel
theorem dX1_runningSum_84 : decode cX1_runningSum 84 = .ok (.lload_n 3, 1) := by decide +kernel
theorem dX1_runningSum_85 : decode cX1_runningSum 85 = .ok (.lreturn, 1) := by decide +kernel
theorem dX1_runningSum_86 : decode cX1_runningSum 86 = .ok (.lload 5, 2) := by decide +kernel
theorem dX1_runningSum_88 : decode cX1_runningSum 88 = .ok (.lreturn, 1) := by decide +kernel
theorem dX1_runningSum_89 : decode cX1_runningSum 89 = .ok (.lload 7, 2) := by decide +kernel
theorem dX1_runningSum_91 : decode cX1_runningSum 91 = .ok (.lreturn, 1) := by decide +kernel
theorem dX1_runningSum_92 : decode cX1_runningSum 92 = .ok (.lload 9, 2) := by decide +kernel
theorem dX1_runningSum_94 : decode cX1_runningSum 94 = .ok (.lreturn, 1) := by decide +kernel
theorem dX2_init_0 : decode cX2_init 0 = .ok (.aload_n 0, 1) := by decide +kernel
theorem dX2_init_1 : decode cX2_init 1 = .ok (.invokespecial 3, 3) := by decide +kernel
theorem dX2_init_4 : decode cX2_init 4 = .ok (.aload_n 0, 1) := by decide +kernel
theorem dX2_init_5 : decode cX2_init 5 = .ok (.sipush 500, 3) := by decide +kernel
theorem dX2_init_8 : decode cX2_init 8 = .ok (.newarray .int, 2) := by decide +kernel
theorem dX2_init_10 : decode cX2_init 10 = .ok (.putfield 9, 3) := by decide +kernel
theorem dX2_init_13 : decode cX2_init 13 = .ok (.aload_n 0, 1) := by decide +kernel
theorem dX2_init_14 : decode cX2_init 14 = .ok (.sipush 500, 3) := by decide +kernel
theorem dX2_init_17 : decode cX2_init 17 = .ok (.newarray .long, 2) := by decide +kernel
theorem dX2_init_19 : decode cX2_init 19 = .ok (.putfield 15, 3) := by decide +kernel
theorem dX2_init_22 : decode cX2_init 22 = .ok (.aload_n 0, 1) := by decide +kernel
theorem dX2_init_23 : decode cX2_init 23 = .ok (.sipush 500, 3) := by decide +kernel
theorem dX2_init_26 : decode cX2_init 26 = .ok (.newarray .long, 2) := by decide +kernel
theorem dX2_init_28 : decode cX2_init 28 = .ok (.putfield 19, 3) := by decide +kernel
theorem dX2_init_31 : decode cX2_init 31 = .ok (.aload_n 0, 1) := by decide +kernel
theorem dX2_init_32 : decode cX2_init 32 = .ok (.iconst 0, 1) := by decide +kernel
theorem dX2_init_33 : decode cX2_init 33 = .ok (.putfield 22, 3) := by decide +kernel
theorem dX2_init_36 : decode cX2_init 36 = .ok (.aload_n 0, 1) := by decide +kernel
theorem dX2_init_37 : decode cX2_init 37 = .ok (.aload_n 1, 1) := by decide +kernel
theorem dX2_init_38 : decode cX2_init 38 = .ok (.putfield 26, 3) := by decide +kernel
theorem dX2_init_41 : decode cX2_init 41 = .ok (.aload_n 0, 1) := by decide +kernel
theorem dX2_init_42 : decode cX2_init 42 = .ok (.aload_n 2, 1) := by decide +kernel
theorem dX2_init_43 : decode cX2_init 43 = .ok (.putfield 30, 3) := by decide +kernel
theorem dX2_init_46 : decode cX2_init 46 = .ok (.return_, 1) := by decide +kernel
theorem dX2_findStands_0 : decode cX2_findStands 0 = .ok (.aload_n 0, 1) := by decide +kernel
theorem dX2_findStands_1 : decode cX2_findStands 1 = .ok (.iconst 0, 1) := by decide +kernel
theorem dX2_findStands_2 : decode cX2_findStands 2 = .ok (.putfield 22, 3) := by decide +kernel
theorem dX2_findStands_5 : decode cX2_findStands 5 = .ok (.aload_n 0, 1) := by decide +kernel
theorem dX2_findStands_6 : decode cX2_findStands 6 = .ok (.getfield 30, 3) := by decide +kernel
theorem dX2_findStands_9 : decode cX2_findStands 9 = .ok (.invokevirtual 34, 3) := by decide +kernel
theorem dX2_findStands_12 : decode cX2_findStands 12 = .ok (.aload_n 0, 1) := by decide +kernel
theorem dX2_findStands_13 : decode cX2_findStands 13 = .ok (.getfield 30, 3) := by decide +kernel
theorem dX2_findStands_16 : decode cX2_findStands 16 = .ok (.aload_n 1, 1) := by decide +kernel
theorem dX2_findStands_17 : decode cX2_findStands 17 = .ok (.invokevirtual 39, 3) := by decide +kernel
theorem dX2_findStands_20 : decode cX2_findStands 20 = .ok (.pop, 1) := by decide +kernel
theorem dX2_findStands_21 : decode cX2_findStands 21 = .ok (.aload_n 0, 1) := by decide +kernel
theorem dX2_findStands_22 : decode cX2_findStands 22 = .ok (.getfield 30, 3) := by decide +kernel
theorem dX2_findStands_25 : decode cX2_findStands 25 = .ok (.invokevirtual 43, 3) := by decide +kernel
theorem dX2_findStands_28 : decode cX2_findStands 28 = .ok (.iconst 0, 1) := by decide +kernel
theorem dX2_findStands_29 : decode cX2_findStands 29 = .ok (.istore 8, 2) := by decide +kernel
theorem dX2_findStands_31 : decode cX2_findStands 31 = .ok (.iload 8, 2) := by decide +kernel
theorem dX2_findStands_33 : decode cX2_findStands 33 = .ok (.sipush 500, 3) := by decide +kernel
theorem dX2_findStands_36 : decode cX2_findStands 36 = .ok (.if_icmp .ge 62, 3) := by decide +kernel
theorem dX2_findStands_39 : decode cX2_findStands 39 = .ok (.iload 8, 2) := by decide +kernel
theorem dX2_findStands_41 : decode cX2_findStands 41 = .ok (.aload_n 0, 1) := by decide +kernel
theorem dX2_findStands_42 : decode cX2_findStands 42 = .ok (.getfield 30, 3) := by decide +kernel
theorem dX2_findStands_45 : decode cX2_findStands 45 = .ok (.getfield 46, 3) := by decide +kernel
theorem dX2_findStands_48 : decode cX2_findStands 48 = .ok (.if_icmp .ge 50, 3) := by decide +kernel
theorem dX2_findStands_51 : decode cX2_findStands 51 = .ok (.lload_n 2, 1) := by decide +kernel
theorem dX2_findStands_52 : decode cX2_findStands 52 = .ok (.lstore 9, 2) := by decide +kernel
theorem dX2_findStands_54 : decode cX2_findStands 54 = .ok (.lload 9, 2) := by decide +kernel
theorem dX2_findStands_56 : decode cX2_findStands 56 = .ok (.lload 4, 2) := by decide +kernel
theorem dX2_findStands_58 : decode cX2_findStands 58 = .ok (.lcmp, 1) := by decide +kernel
theorem dX2_findStands_59 : decode cX2_findStands 59 = .ok (.ifCond .gt 33, 3) := by decide +kernel
theorem dX2_findStands_62 : decode cX2_findStands 62 = .ok (.aload_n 0, 1) := by decide +kernel
theorem dX2_findStands_63 : decode cX2_findStands 63 = .ok (.iload 8, 2) := by decide +kernel
theorem dX2_findStands_65 : decode cX2_findStands 65 = .ok (.aload_n 1, 1) := by decide +kernel
theorem dX2_findStands_66 : decode cX2_findStands 66 = .ok (.lload 9, 2) := by decide +kernel
theorem dX2_findStands_68 : decode cX2_findStands 68 = .ok (.lload 6, 2) := by decide +kernel
theorem dX2_findStands_70 : decode cX2_findStands 70 = .ok (.invokevirtual 49, 3) := by decide +kernel
theorem dX2_findStands_73 : decode cX2_findStands 73 = .ok (.istore 11, 2) := by decide +kernel
theorem dX2_findStands_75 : decode cX2_findStands 75 = .ok (.iload 11, 2) := by decide +kernel
theorem dX2_findStands_77 : decode cX2_findStands 77 = .ok (.ifCond .eq 6, 3) := by decide +kernel
theorem dX2_findStands_80 : decode cX2_findStands 80 = .ok (.iload 11, 2) := by decide +kernel
theorem dX2_findStands_82 : decode cX2_findStands 82 = .ok (.ireturn, 1) := by decide +kernel
theorem dX2_findStands_83 : decode cX2_findStands 83 = .ok (.lload 9, 2) := by decide +kernel
theorem dX2_findStands_85 : decode cX2_findStands 85 = .ok (.lconst 1, 1) := by decide +kernel
theorem dX2_findStands_86 : decode cX2_findStands 86 = .ok (.ladd, 1) := by decide +kernel
theorem dX2_findStands_87 : decode cX2_findStands 87 = .ok (.lstore 9, 2) := by decide +kernel
theorem dX2_findStands_89 : decode cX2_findStands 89 = .ok (.goto (-35), 3) := by decide +kernel
theorem dX2_findStands_92 : decode cX2_findStands 92 = .ok (.iinc 8 1, 3) := by decide +kernel
theorem dX2_findStands_95 : decode cX2_findStands 95 = .ok (.goto (-64), 3) := by decide +kernel
theorem dX2_findStands_98 : decode cX2_findStands 98 = .ok (.aload_n 0, 1) := by decide +kernel
theorem dX2_findStands_99 : decode cX2_findStands 99 = .ok (.getfield 30, 3) := by decide +kernel
theorem dX2_findStands_102 : decode cX2_findStands 102 = .ok (.getfield 46, 3) := by decide +kernel
theorem dX2_findStands_105 : decode cX2_findStands 105 = .ok (.ireturn, 1) := by decide +kernel
theorem dX2_tryFrom_0 : decode cX2_tryFrom 0 = .ok (.aload_n 0, 1) := by decide +kernel
theorem dX2_tryFrom_1 : decode cX2_tryFrom 1 = .ok (.getfield 30, 3) := by decide +kernel
theorem dX2_tryFrom_4 : decode cX2_tryFrom 4 = .ok (.iload_n 1, 1) := by decide +kernel
theorem dX2_tryFrom_5 : decode cX2_tryFrom 5 = .ok (.aload_n 2, 1) := by decide +kernel
theorem dX2_tryFrom_6 : decode cX2_tryFrom 6 = .ok (.invokevirtual 53, 3) := by decide +kernel
theorem dX2_tryFrom_9 : decode cX2_tryFrom 9 = .ok (.aload_n 2, 1) := by decide +kernel
theorem dX2_tryFrom_10 : decode cX2_tryFrom 10 = .ok (.lload_n 3, 1) := by decide +kernel
theorem dX2_tryFrom_11 : decode cX2_tryFrom 11 = .ok (.invokevirtual 57, 3) := by decide +kernel
theorem dX2_tryFrom_14 : decode cX2_tryFrom 14 = .ok (.ifCond .ne 6, 3) := by decide +kernel
theorem dX2_tryFrom_17 : decode cX2_tryFrom 17 = .ok (.bipush (-6), 2) := by decide +kernel
theorem dX2_tryFrom_19 : decode cX2_tryFrom 19 = .ok (.ireturn, 1) := by decide +kernel
theorem dX2_tryFrom_20 : decode cX2_tryFrom 20 = .ok (.aload_n 0, 1) := by decide +kernel
theorem dX2_tryFrom_21 : decode cX2_tryFrom 21 = .ok (.aload_n 2, 1) := by decide +kernel
theorem dX2_tryFrom_22 : decode cX2_tryFrom 22 = .ok (.lload 5, 2) := by decide +kernel
theorem dX2_tryFrom_24 : decode cX2_tryFrom 24 = .ok (.invokevirtual 63, 3) := by decide +kernel
theorem dX2_tryFrom_27 : decode cX2_tryFrom 27 = .ok (.ifCond .eq 17, 3) := by decide +kernel
theorem dX2_tryFrom_30 : decode cX2_tryFrom 30 = .ok (.aload_n 0, 1) := by decide +kernel
theorem dX2_tryFrom_31 : decode cX2_tryFrom 31 = .ok (.iload_n 1, 1) := by decide +kernel
theorem dX2_tryFrom_32 : decode cX2_tryFrom 32 = .ok (.lload_n 3, 1) := by decide +kernel
theorem dX2_tryFrom_33 : decode cX2_tryFrom 33 = .ok (.invokevirtual 67, 3) := by decide +kernel
theorem dX2_tryFrom_36 : decode cX2_tryFrom 36 = .ok (.bipush (-100), 2) := by decide +kernel
theorem dX2_tryFrom_38 : decode cX2_tryFrom 38 = .ok (.aload_n 0, 1) := by decide +kernel
theorem dX2_tryFrom_39 : decode cX2_tryFrom 39 = .ok (.getfield 22, 3) := by decide +kernel
theorem dX2_tryFrom_42 : decode cX2_tryFrom 42 = .ok (.isub, 1) := by decide +kernel
theorem dX2_tryFrom_43 : decode cX2_tryFrom 43 = .ok (.ireturn, 1) := by decide +kernel
theorem dX2_tryFrom_44 : decode cX2_tryFrom 44 = .ok (.aload_n 0, 1) := by decide +kernel
theorem dX2_tryFrom_45 : decode cX2_tryFrom 45 = .ok (.getfield 30, 3) := by decide +kernel
theorem dX2_tryFrom_48 : decode cX2_tryFrom 48 = .ok (.aload_n 2, 1) := by decide +kernel
theorem dX2_tryFrom_49 : decode cX2_tryFrom 49 = .ok (.invokevirtual 39, 3) := by decide +kernel
theorem dX2_tryFrom_52 : decode cX2_tryFrom 52 = .ok (.ifCond .lt 5, 3) := by decide +kernel
theorem dX2_tryFrom_55 : decode cX2_tryFrom 55 = .ok (.iconst 0, 1) := by decide +kernel
theorem dX2_tryFrom_56 : decode cX2_tryFrom 56 = .ok (.ireturn, 1) := by decide +kernel
theorem dX2_tryFrom_57 : decode cX2_tryFrom 57 = .ok (.aload_n 0, 1) := by decide +kernel
theorem dX2_tryFrom_58 : decode cX2_tryFrom 58 = .ok (.getfield 30, 3) := by decide +kernel
theorem dX2_tryFrom_61 : decode cX2_tryFrom 61 = .ok (.getfield 46, 3) := by decide +kernel
theorem dX2_tryFrom_64 : decode cX2_tryFrom 64 = .ok (.sipush 500, 3) := by decide +kernel
theorem dX2_tryFrom_67 : decode cX2_tryFrom 67 = .ok (.if_icmp .lt 6, 3) := by decide +kernel
theorem dX2_tryFrom_70 : decode cX2_tryFrom 70 = .ok (.bipush (-5), 2) := by decide +kernel
theorem dX2_tryFrom_72 : decode cX2_tryFrom 72 = .ok (.ireturn, 1) := by decide +kernel
theorem dX2_tryFrom_73 : decode cX2_tryFrom 73 = .ok (.aload_n 0, 1) := by decide +kernel
theorem dX2_tryFrom_74 : decode cX2_tryFrom 74 = .ok (.getfield 9, 3) := by decide +kernel
theorem dX2_tryFrom_77 : decode cX2_tryFrom 77 = .ok (.aload_n 0, 1) := by decide +kernel
theorem dX2_tryFrom_78 : decode cX2_tryFrom 78 = .ok (.getfield 30, 3) := by decide +kernel
theorem dX2_tryFrom_81 : decode cX2_tryFrom 81 = .ok (.getfield 46, 3) := by decide +kernel
theorem dX2_tryFrom_84 : decode cX2_tryFrom 84 = .ok (.iload_n 1, 1) := by decide +kernel
theorem dX2_tryFrom_85 : decode cX2_tryFrom 85 = .ok (.iastore, 1) := by decide +kernel
theorem dX2_tryFrom_86 : decode cX2_tryFrom 86 = .ok (.aload_n 0, 1) := by decide +kernel
theorem dX2_tryFrom_87 : decode cX2_tryFrom 87 = .ok (.getfield 15, 3) := by decide +kernel
theorem dX2_tryFrom_90 : decode cX2_tryFrom 90 = .ok (.aload_n 0, 1) := by decide +kernel
theorem dX2_tryFrom_91 : decode cX2_tryFrom 91 = .ok (.getfield 30, 3) := by decide +kernel
theorem dX2_tryFrom_94 : decode cX2_tryFrom 94 = .ok (.getfield 46, 3) := by decide +kernel
theorem dX2_tryFrom_97 : decode cX2_tryFrom 97 = .ok (.lload_n 3, 1) := by decide +kernel
theorem dX2_tryFrom_98 : decode cX2_tryFrom 98 = .ok (.lastore, 1) := by decide +kernel
theorem dX2_tryFrom_99 : decode cX2_tryFrom 99 = .ok (.aload_n 0, 1) := by decide +kernel
theorem dX2_tryFrom_100 : decode cX2_tryFrom 100 = .ok (.getfield 30, 3) := by decide +kernel
theorem dX2_tryFrom_103 : decode cX2_tryFrom 103 = .ok (.invokevirtual 43, 3) := by decide +kernel
theorem dX2_tryFrom_106 : decode cX2_tryFrom 106 = .ok (.iconst 0, 1) := by decide +kernel
theorem dX2_tryFrom_107 : decode cX2_tryFrom 107 = .ok (.ireturn, 1) := by decide +kernel
theorem dX2_isBeyond_0 : decode cX2_isBeyond 0 = .ok (.iconst 0, 1) := by decide +kernel
theorem dX2_isBeyond_1 : decode cX2_isBeyond 1 = .ok (.istore 4, 2) := by decide +kernel
theorem dX2_isBeyond_3 : decode cX2_isBeyond 3 = .ok (.iload 4, 2) := by decide +kernel
theorem dX2_isBeyond_5 : decode cX2_isBeyond 5 = .ok (.aload_n 0, 1) := by decide +kernel
theorem dX2_isBeyond_6 : decode cX2_isBeyond 6 = .ok (.getfield 26, 3) := by decide +kernel
theorem dX2_isBeyond_9 : decode cX2_isBeyond 9 = .ok (.getfield 71, 3) := by decide +kernel
theorem dX2_isBeyond_12 : decode cX2_isBeyond 12 = .ok (.if_icmp .ge 40, 3) := by decide +kernel
theorem dX2_isBeyond_15 : decode cX2_isBeyond 15 = .ok (.aload_n 1, 1) := by decide +kernel
theorem dX2_isBeyond_16 : decode cX2_isBeyond 16 = .ok (.getfield 76, 3) := by decide +kernel
theorem dX2_isBeyond_19 : decode cX2_isBeyond 19 = .ok (.iload 4, 2) := by decide +kernel
theorem dX2_isBeyond_21 : decode cX2_isBeyond 21 = .ok (.bipush 6, 2) := by decide +kernel
theorem dX2_isBeyond_23 : decode cX2_isBeyond 23 = .ok (.imul, 1) := by decide +kernel
theorem dX2_isBeyond_24 : decode cX2_isBeyond 24 = .ok (.iconst 0, 1) := by decide +kernel
theorem dX2_isBeyond_25 : decode cX2_isBeyond 25 = .ok (.iadd, 1) := by decide +kernel
theorem dX2_isBeyond_26 : decode cX2_isBeyond 26 = .ok (.laload, 1) := by decide +kernel
theorem dX2_isBeyond_27 : decode cX2_isBeyond 27 = .ok (.lstore 5, 2) := by decide +kernel
theorem dX2_isBeyond_29 : decode cX2_isBeyond 29 = .ok (.lload 5, 2) := by decide +kernel
theorem dX2_isBeyond_31 : decode cX2_isBeyond 31 = .ok (.lload_n 2, 1) := by decide +kernel
theorem dX2_isBeyond_32 : decode cX2_isBeyond 32 = .ok (.lcmp, 1) := by decide +kernel
theorem dX2_isBeyond_33 : decode cX2_isBeyond 33 = .ok (.ifCond .gt 11, 3) := by decide +kernel
theorem dX2_isBeyond_36 : decode cX2_isBeyond 36 = .ok (.lload 5, 2) := by decide +kernel
theorem dX2_isBeyond_38 : decode cX2_isBeyond 38 = .ok (.lload_n 2, 1) := by decide +kernel
theorem dX2_isBeyond_39 : decode cX2_isBeyond 39 = .ok (.lneg, 1) := by decide +kernel
theorem dX2_isBeyond_40 : decode cX2_isBeyond 40 = .ok (.lcmp, 1) := by decide +kernel
theorem dX2_isBeyond_41 : decode cX2_isBeyond 41 = .ok (.ifCond .ge 5, 3) := by decide +kernel
theorem dX2_isBeyond_44 : decode cX2_isBeyond 44 = .ok (.iconst 1, 1) := by decide +kernel
theorem dX2_isBeyond_45 : decode cX2_isBeyond 45 = .ok (.ireturn, 1) := by decide +kernel
theorem dX2_isBeyond_46 : decode cX2_isBeyond 46 = .ok (.iinc 4 1, 3) := by decide +kernel
theorem dX2_isBeyond_49 : decode cX2_isBeyond 49 = .ok (.goto (-46), 3) := by decide +kernel
theorem dX2_isBeyond_52 : decode cX2_isBeyond 52 = .ok (.iconst 0, 1) := by decide +kernel
theorem dX2_isBeyond_53 : decode cX2_isBeyond 53 = .ok (.ireturn, 1) := by decide +kernel
theorem dX2_tellRow_0 : decode cX2_tellRow 0 = .ok (.iconst 1, 1) := by decide +kernel
theorem dX2_tellRow_1 : decode cX2_tellRow 1 = .ok (.istore 4, 2) := by decide +kernel
theorem dX2_tellRow_3 : decode cX2_tellRow 3 = .ok (.iload_n 1, 1) := by decide +kernel
theorem dX2_tellRow_4 : decode cX2_tellRow 4 = .ok (.istore 5, 2) := by decide +kernel
theorem dX2_tellRow_6 : decode cX2_tellRow 6 = .ok (.iload 5, 2) := by decide +kernel
theorem dX2_tellRow_8 : decode cX2_tellRow 8 = .ok (.ifCond .le 26, 3) := by decide +kernel
theorem dX2_tellRow_11 : decode cX2_tellRow 11 = .ok (.iload 4, 2) := by decide +kernel
theorem dX2_tellRow_13 : decode cX2_tellRow 13 = .ok (.sipush 500, 3) := by decide +kernel
theorem dX2_tellRow_16 : decode cX2_tellRow 16 = .ok (.if_icmp .ge 18, 3) := by decide +kernel
theorem dX2_tellRow_19 : decode cX2_tellRow 19 = .ok (.iinc 4 1, 3) := by decide +kernel
theorem dX2_tellRow_22 : decode cX2_tellRow 22 = .ok (.aload_n 0, 1) := by decide +kernel
theorem dX2_tellRow_23 : decode cX2_tellRow 23 = .ok (.getfield 9, 3) := by decide +kernel
theorem dX2_tellRow_26 : decode cX2_tellRow 26 = .ok (.iload 5, 2) := by decide +kernel
theorem dX2_tellRow_28 : decode cX2_tellRow 28 = .ok (.iaload, 1) := by decide +kernel
theorem dX2_tellRow_29 : decode cX2_tellRow 29 = .ok (.istore 5, 2) := by decide +kernel
theorem dX2_tellRow_31 : decode cX2_tellRow 31 = .ok (.goto (-25), 3) := by decide +kernel
theorem dX2_tellRow_34 : decode cX2_tellRow 34 = .ok (.aload_n 0, 1) := by decide +kernel
theorem dX2_tellRow_35 : decode cX2_tellRow 35 = .ok (.iload 4, 2) := by decide +kernel
theorem dX2_tellRow_37 : decode cX2_tellRow 37 = .ok (.putfield 22, 3) := by decide +kernel
theorem dX2_tellRow_40 : decode cX2_tellRow 40 = .ok (.aload_n 0, 1) := by decide +kernel
theorem dX2_tellRow_41 : decode cX2_tellRow 41 = .ok (.getfield 19, 3) := by decide +kernel
theorem dX2_tellRow_44 : decode cX2_tellRow 44 = .ok (.iload 4, 2) := by decide +kernel
theorem dX2_tellRow_46 : decode cX2_tellRow 46 = .ok (.iconst 1, 1) := by decide +kernel
theorem dX2_tellRow_47 : decode cX2_tellRow 47 = .ok (.isub, 1) := by decide +kernel
theorem dX2_tellRow_48 : decode cX2_tellRow 48 = .ok (.lload_n 2, 1) := by decide +kernel
theorem dX2_tellRow_49 : decode cX2_tellRow 49 = .ok (.lastore, 1) := by decide +kernel
theorem dX2_tellRow_50 : decode cX2_tellRow 50 = .ok (.iload 4, 2) := by decide +kernel
theorem dX2_tellRow_52 : decode cX2_tellRow 52 = .ok (.iconst 2, 1) := by decide +kernel
theorem dX2_tellRow_53 : decode cX2_tellRow 53 = .ok (.isub, 1) := by decide +kernel
theorem dX2_tellRow_54 : decode cX2_tellRow 54 = .ok (.istore 5, 2) := by decide +kernel
theorem dX2_tellRow_56 : decode cX2_tellRow 56 = .ok (.iload_n 1, 1) := by decide +kernel
theorem dX2_tellRow_57 : decode cX2_tellRow 57 = .ok (.istore 6, 2) := by decide +kernel
theorem dX2_tellRow_59 : decode cX2_tellRow 59 = .ok (.iload 6, 2) := by decide +kernel
theorem dX2_tellRow_61 : decode cX2_tellRow 61 = .ok (.ifCond .le 37, 3) := by decide +kernel
theorem dX2_tellRow_64 : decode cX2_tellRow 64 = .ok (.iload 5, 2) := by decide +kernel
theorem dX2_tellRow_66 : decode cX2_tellRow 66 = .ok (.ifCond .lt 32, 3) := by decide +kernel
theorem dX2_tellRow_69 : decode cX2_tellRow 69 = .ok (.aload_n 0, 1) := by decide +kernel
theorem dX2_tellRow_70 : decode cX2_tellRow 70 = .ok (.getfield 19, 3) := by decide +kernel
theorem dX2_tellRow_73 : decode cX2_tellRow 73 = .ok (.iload 5, 2) := by decide +kernel
theorem dX2_tellRow_75 : decode cX2_tellRow 75 = .ok (.aload_n 0, 1) := by decide +kernel
theorem dX2_tellRow_76 : decode cX2_tellRow 76 = .ok (.getfield 15, 3) := by decide +kernel
theorem dX2_tellRow_79 : decode cX2_tellRow 79 = .ok (.iload 6, 2) := by decide +kernel
theorem dX2_tellRow_81 : decode cX2_tellRow 81 = .ok (.laload, 1) := by decide +kernel
theorem dX2_tellRow_82 : decode cX2_tellRow 82 = .ok (.lastore, 1) := by decide +kernel
theorem dX2_tellRow_83 : decode cX2_tellRow 83 = .ok (.iinc 5 (-1), 3) := by decide +kernel
theorem dX2_tellRow_86 : decode cX2_tellRow 86 = .ok (.aload_n 0, 1) := by decide +kernel
theorem dX2_tellRow_87 : decode cX2_tellRow 87 = .ok (.getfield 9, 3) := by decide +kernel
theorem dX2_tellRow_90 : decode cX2_tellRow 90 = .ok (.iload 6, 2) := by decide +kernel
theorem dX2_tellRow_92 : decode cX2_tellRow 92 = .ok (.iaload, 1) := by decide +kernel
theorem dX2_tellRow_93 : decode cX2_tellRow 93 = .ok (.istore 6, 2) := by decide +kernel
theorem dX2_tellRow_95 : decode cX2_tellRow 95 = .ok (.goto (-36), 3) := by decide +kernel
theorem dX2_tellRow_98 : decode cX2_tellRow 98 = .ok (.return_, 1) := by decide +kernel
theorem dX3_init_0 : decode cX3_init 0 = .ok (.aload_n 0, 1) := by decide +kernel
theorem dX3_init_1 : decode cX3_init 1 = .ok (.invokespecial 3, 3) := by decide +kernel
theorem dX3_init_4 : decode cX3_init 4 = .ok (.aload_n 0, 1) := by decide +kernel
theorem dX3_init_5 : decode cX3_init 5 = .ok (.bipush 60, 2) := by decide +kernel
theorem dX3_init_7 : decode cX3_init 7 = .ok (.newarray .long, 2) := by decide +kernel
theorem dX3_init_9 : decode cX3_init 9 = .ok (.putfield 9, 3) := by decide +kernel
theorem dX3_init_12 : decode cX3_init 12 = .ok (.aload_n 0, 1) := by decide +kernel
theorem dX3_init_13 : decode cX3_init 13 = .ok (.iconst 1, 1) := by decide +kernel
theorem dX3_init_14 : decode cX3_init 14 = .ok (.putfield 15, 3) := by decide +kernel
theorem dX3_init_17 : decode cX3_init 17 = .ok (.aload_n 0, 1) := by decide +kernel
theorem dX3_init_18 : decode cX3_init 18 = .ok (.iconst 0, 1) := by decide +kernel
theorem dX3_init_19 : decode cX3_init 19 = .ok (.putfield 19, 3) := by decide +kernel
theorem dX3_init_22 : decode cX3_init 22 = .ok (.aload_n 0, 1) := by decide +kernel
theorem dX3_init_23 : decode cX3_init 23 = .ok (.iconst 0, 1) := by decide +kernel
theorem dX3_init_24 : decode cX3_init 24 = .ok (.putfield 23, 3) := by decide +kernel
theorem dX3_init_27 : decode cX3_init 27 = .ok (.return_, 1) := by decide +kernel
theorem dX3_renew_0 : decode cX3_renew 0 = .ok (.aload_n 0, 1) := by decide +kernel
theorem dX3_renew_1 : decode cX3_renew 1 = .ok (.iconst 0, 1) := by decide +kernel
theorem dX3_renew_2 : decode cX3_renew 2 = .ok (.putfield 15, 3) := by decide +kernel
theorem dX3_renew_5 : decode cX3_renew 5 = .ok (.aload_n 0, 1) := by decide +kernel
theorem dX3_renew_6 : decode cX3_renew 6 = .ok (.iload_n 1, 1) := by decide +kernel
theorem dX3_renew_7 : decode cX3_renew 7 = .ok (.putfield 19, 3) := by decide +kernel
theorem dX3_renew_10 : decode cX3_renew 10 = .ok (.aload_n 0, 1) := by decide +kernel
theorem dX3_renew_11 : decode cX3_renew 11 = .ok (.iload_n 2, 1) := by decide +kernel
theorem dX3_renew_12 : decode cX3_renew 12 = .ok (.putfield 23, 3) := by decide +kernel
theorem dX3_renew_15 : decode cX3_renew 15 = .ok (.aload_n 0, 1) := by decide +kernel
theorem dX3_renew_16 : decode cX3_renew 16 = .ok (.getfield 9, 3) := by decide +kernel
theorem dX3_renew_19 : decode cX3_renew 19 = .ok (.lconst 0, 1) := by decide +kernel
theorem dX3_renew_20 : decode cX3_renew 20 = .ok (.invokestatic 26, 3) := by decide +kernel
theorem dX3_renew_23 : decode cX3_renew 23 = .ok (.return_, 1) := by decide +kernel
theorem dX3_hasItem_0 : decode cX3_hasItem 0 = .ok (.lload_n 1, 1) := by decide +kernel
theorem dX3_hasItem_1 : decode cX3_hasItem 1 = .ok (.lconst 0, 1) := by decide +kernel
theorem dX3_hasItem_2 : decode cX3_hasItem 2 = .ok (.lcmp, 1) := by decide +kernel
theorem dX3_hasItem_3 : decode cX3_hasItem 3 = .ok (.ifCond .lt 17, 3) := by decide +kernel
theorem dX3_hasItem_6 : decode cX3_hasItem 6 = .ok (.lload_n 1, 1) := by decide +kernel
theorem dX3_hasItem_7 : decode cX3_hasItem 7 = .ok (.aload_n 0, 1) := by decide +kernel
theorem dX3_hasItem_8 : decode cX3_hasItem 8 = .ok (.getfield 23, 3) := by decide +kernel
theorem dX3_hasItem_11 : decode cX3_hasItem 11 = .ok (.i2l, 1) := by decide +kernel
theorem dX3_hasItem_12 : decode cX3_hasItem 12 = .ok (.lcmp, 1) := by decide +kernel
theorem dX3_hasItem_13 : decode cX3_hasItem 13 = .ok (.ifCond .ge 7, 3) := by decide +kernel
theorem dX3_hasItem_16 : decode cX3_hasItem 16 = .ok (.iconst 1, 1) := by decide +kernel
theorem dX3_hasItem_17 : decode cX3_hasItem 17 = .ok (.goto 4, 3) := by decide +kernel
theorem dX3_hasItem_20 : decode cX3_hasItem 20 = .ok (.iconst 0, 1) := by decide +kernel
theorem dX3_hasItem_21 : decode cX3_hasItem 21 = .ok (.ireturn, 1) := by decide +kernel
theorem dX3_hasRow_0 : decode cX3_hasRow 0 = .ok (.iload_n 1, 1) := by decide +kernel
theorem dX3_hasRow_1 : decode cX3_hasRow 1 = .ok (.ifCond .lt 29, 3) := by decide +kernel
theorem dX3_hasRow_4 : decode cX3_hasRow 4 = .ok (.iload_n 2, 1) := by decide +kernel
theorem dX3_hasRow_5 : decode cX3_hasRow 5 = .ok (.ifCond .lt 25, 3) := by decide +kernel
theorem dX3_hasRow_8 : decode cX3_hasRow 8 = .ok (.iload_n 1, 1) := by decide +kernel
theorem dX3_hasRow_9 : decode cX3_hasRow 9 = .ok (.aload_n 0, 1) := by decide +kernel
theorem dX3_hasRow_10 : decode cX3_hasRow 10 = .ok (.getfield 23, 3) := by decide +kernel
theorem dX3_hasRow_13 : decode cX3_hasRow 13 = .ok (.if_icmp .gt 17, 3) := by decide +kernel
theorem dX3_hasRow_16 : decode cX3_hasRow 16 = .ok (.iload_n 2, 1) := by decide +kernel
theorem dX3_hasRow_17 : decode cX3_hasRow 17 = .ok (.aload_n 0, 1) := by decide +kernel
theorem dX3_hasRow_18 : decode cX3_hasRow 18 = .ok (.getfield 23, 3) := by decide +kernel
theorem dX3_hasRow_21 : decode cX3_hasRow 21 = .ok (.iload_n 1, 1) := by decide +kernel
theorem dX3_hasRow_22 : decode cX3_hasRow 22 = .ok (.isub, 1) := by decide +kernel
theorem dX3_hasRow_23 : decode cX3_hasRow 23 = .ok (.if_icmp .gt 7, 3) := by decide +kernel
theorem dX3_hasRow_26 : decode cX3_hasRow 26 = .ok (.iconst 1, 1) := by decide +kernel
theorem dX3_hasRow_27 : decode cX3_hasRow 27 = .ok (.goto 4, 3) := by decide +kernel
theorem dX3_hasRow_30 : decode cX3_hasRow 30 = .ok (.iconst 0, 1) := by decide +kernel
theorem dX3_hasRow_31 : decode cX3_hasRow 31 = .ok (.ireturn, 1) := by decide +kernel
theorem dX3_sampleOf_0 : decode cX3_sampleOf 0 = .ok (.aload_n 0, 1) := by decide +kernel
theorem dX3_sampleOf_1 : decode cX3_sampleOf 1 = .ok (.getfield 19, 3) := by decide +kernel
theorem dX3_sampleOf_4 : decode cX3_sampleOf 4 = .ok (.aload_n 0, 1) := by decide +kernel
theorem dX3_sampleOf_5 : decode cX3_sampleOf 5 = .ok (.getfield 9, 3) := by decide +kernel
theorem dX3_sampleOf_8 : decode cX3_sampleOf 8 = .ok (.iload_n 1, 1) := by decide +kernel
theorem dX3_sampleOf_9 : decode cX3_sampleOf 9 = .ok (.laload, 1) := by decide +kernel
theorem dX3_sampleOf_10 : decode cX3_sampleOf 10 = .ok (.invokestatic 32, 3) := by decide +kernel
theorem dX3_sampleOf_13 : decode cX3_sampleOf 13 = .ok (.ifCond .eq 7, 3) := by decide +kernel
theorem dX3_sampleOf_16 : decode cX3_sampleOf 16 = .ok (.lload_n 2, 1) := by decide +kernel
theorem dX3_sampleOf_17 : decode cX3_sampleOf 17 = .ok (.goto 16, 3) := by decide +kernel
theorem dX3_sampleOf_20 : decode cX3_sampleOf 20 = .ok (.aload_n 0, 1) := by decide +kernel
theorem dX3_sampleOf_21 : decode cX3_sampleOf 21 = .ok (.getfield 19, 3) := by decide +kernel
theorem dX3_sampleOf_24 : decode cX3_sampleOf 24 = .ok (.aload_n 0, 1) := by decide +kernel
theorem dX3_sampleOf_25 : decode cX3_sampleOf 25 = .ok (.getfield 9, 3) := by decide +kernel
theorem dX3_sampleOf_28 : decode cX3_sampleOf 28 = .ok (.iload_n 1, 1) := by decide +kernel
theorem dX3_sampleOf_29 : decode cX3_sampleOf 29 = .ok (.laload, 1) := by decide +kernel
theorem dX3_sampleOf_30 : decode cX3_sampleOf 30 = .ok (.invokestatic 36, 3) := by decide +kernel
theorem dX3_sampleOf_33 : decode cX3_sampleOf 33 = .ok (.lreturn, 1) := by decide +kernel
theorem dX4_init_0 : decode cX4_init 0 = .ok (.aload_n 0, 1) := by decide +kernel
theorem dX4_init_1 : decode cX4_init 1 = .ok (.invokespecial 3, 3) := by decide +kernel
theorem dX4_init_4 : decode cX4_init 4 = .ok (.aload_n 0, 1) := by decide +kernel
theorem dX4_init_5 : decode cX4_init 5 = .ok (.sipush 4400, 3) := by decide +kernel
theorem dX4_init_8 : decode cX4_init 8 = .ok (.newarray .long, 2) := by decide +kernel
theorem dX4_init_10 : decode cX4_init 10 = .ok (.putfield 9, 3) := by decide +kernel
theorem dX4_init_13 : decode cX4_init 13 = .ok (.aload_n 0, 1) := by decide +kernel
theorem dX4_init_14 : decode cX4_init 14 = .ok (.sipush 1024, 3) := by decide +kernel
theorem dX4_init_17 : decode cX4_init 17 = .ok (.newarray .int, 2) := by decide +kernel
theorem dX4_init_19 : decode cX4_init 19 = .ok (.putfield 15, 3) := by decide +kernel
theorem dX4_init_22 : decode cX4_init 22 = .ok (.aload_n 0, 1) := by decide +kernel
theorem dX4_init_23 : decode cX4_init 23 = .ok (.bipush 11, 2) := by decide +kernel
theorem dX4_init_25 : decode cX4_init 25 = .ok (.newarray .long, 2) := by decide +kernel
theorem dX4_init_27 : decode cX4_init 27 = .ok (.putfield 19, 3) := by decide +kernel
theorem dX4_init_30 : decode cX4_init 30 = .ok (.aload_n 0, 1) := by decide +kernel
theorem dX4_init_31 : decode cX4_init 31 = .ok (.iconst 0, 1) := by decide +kernel
theorem dX4_init_32 : decode cX4_init 32 = .ok (.putfield 22, 3) := by decide +kernel
theorem dX4_init_35 : decode cX4_init 35 = .ok (.aload_n 0, 1) := by decide +kernel
theorem dX4_init_36 : decode cX4_init 36 = .ok (.iconst 0, 1) := by decide +kernel
theorem dX4_init_37 : decode cX4_init 37 = .ok (.putfield 26, 3) := by decide +kernel
theorem dX4_init_40 : decode cX4_init 40 = .ok (.aload_n 0, 1) := by decide +kernel
theorem dX4_init_41 : decode cX4_init 41 = .ok (.iconst 0, 1) := by decide +kernel
theorem dX4_init_42 : decode cX4_init 42 = .ok (.putfield 29, 3) := by decide +kernel
theorem dX4_init_45 : decode cX4_init 45 = .ok (.return_, 1) := by decide +kernel
theorem dX4_empty_0 : decode cX4_empty 0 = .ok (.aload_n 0, 1) := by decide +kernel
theorem dX4_empty_1 : decode cX4_empty 1 = .ok (.getfield 15, 3) := by decide +kernel
theorem dX4_empty_4 : decode cX4_empty 4 = .ok (.iconst 0, 1) := by decide +kernel
theorem dX4_empty_5 : decode cX4_empty 5 = .ok (.invokestatic 32, 3) := by decide +kernel
theorem dX4_empty_8 : decode cX4_empty 8 = .ok (.aload_n 0, 1) := by decide +kernel
theorem dX4_empty_9 : decode cX4_empty 9 = .ok (.iconst 0, 1) := by decide +kernel
theorem dX4_empty_10 : decode cX4_empty 10 = .ok (.putfield 29, 3) := by decide +kernel
theorem dX4_empty_13 : decode cX4_empty 13 = .ok (.return_, 1) := by decide +kernel
theorem dX4_find_0 : decode cX4_find 0 = .ok (.aload_n 0, 1) := by decide +kernel
theorem dX4_find_1 : decode cX4_find 1 = .ok (.aload_n 1, 1) := by decide +kernel
theorem dX4_find_2 : decode cX4_find 2 = .ok (.invokevirtual 38, 3) := by decide +kernel
theorem dX4_find_5 : decode cX4_find 5 = .ok (.aload_n 0, 1) := by decide +kernel
theorem dX4_find_6 : decode cX4_find 6 = .ok (.invokevirtual 42, 3) := by decide +kernel
theorem dX4_find_9 : decode cX4_find 9 = .ok (.istore_n 2, 1) := by decide +kernel
theorem dX4_find_10 : decode cX4_find 10 = .ok (.iconst 0, 1) := by decide +kernel
theorem dX4_find_11 : decode cX4_find 11 = .ok (.istore_n 3, 1) := by decide +kernel
theorem dX4_find_12 : decode cX4_find 12 = .ok (.iload_n 3, 1) := by decide +kernel
theorem dX4_find_13 : decode cX4_find 13 = .ok (.sipush 1024, 3) := by decide +kernel
theorem dX4_find_16 : decode cX4_find 16 = .ok (.if_icmp .ge 50, 3) := by decide +kernel
theorem dX4_find_19 : decode cX4_find 19 = .ok (.aload_n 0, 1) := by decide +kernel
theorem dX4_find_20 : decode cX4_find 20 = .ok (.getfield 15, 3) := by decide +kernel
theorem dX4_find_23 : decode cX4_find 23 = .ok (.iload_n 2, 1) := by decide +kernel
theorem dX4_find_24 : decode cX4_find 24 = .ok (.iaload, 1) := by decide +kernel
theorem dX4_find_25 : decode cX4_find 25 = .ok (.ifCond .eq 41, 3) := by decide +kernel
theorem dX4_find_28 : decode cX4_find 28 = .ok (.aload_n 0, 1) := by decide +kernel
theorem dX4_find_29 : decode cX4_find 29 = .ok (.aload_n 0, 1) := by decide +kernel
theorem dX4_find_30 : decode cX4_find 30 = .ok (.getfield 15, 3) := by decide +kernel
theorem dX4_find_33 : decode cX4_find 33 = .ok (.iload_n 2, 1) := by decide +kernel
theorem dX4_find_34 : decode cX4_find 34 = .ok (.iaload, 1) := by decide +kernel
theorem dX4_find_35 : decode cX4_find 35 = .ok (.iconst 1, 1) := by decide +kernel
theorem dX4_find_36 : decode cX4_find 36 = .ok (.isub, 1) := by decide +kernel
theorem dX4_find_37 : decode cX4_find 37 = .ok (.invokevirtual 46, 3) := by decide +kernel
theorem dX4_find_40 : decode cX4_find 40 = .ok (.ifCond .eq 12, 3) := by decide +kernel
theorem dX4_find_43 : decode cX4_find 43 = .ok (.aload_n 0, 1) := by decide +kernel
theorem dX4_find_44 : decode cX4_find 44 = .ok (.getfield 15, 3) := by decide +kernel
theorem dX4_find_47 : decode cX4_find 47 = .ok (.iload_n 2, 1) := by decide +kernel
theorem dX4_find_48 : decode cX4_find 48 = .ok (.iaload, 1) := by decide +kernel
theorem dX4_find_49 : decode cX4_find 49 = .ok (.iconst 1, 1) := by decide +kernel
theorem dX4_find_50 : decode cX4_find 50 = .ok (.isub, 1) := by decide +kernel
theorem dX4_find_51 : decode cX4_find 51 = .ok (.ireturn, 1) := by decide +kernel
theorem dX4_find_52 : decode cX4_find 52 = .ok (.iload_n 2, 1) := by decide +kernel
theorem dX4_find_53 : decode cX4_find 53 = .ok (.iconst 1, 1) := by decide +kernel
theorem dX4_find_54 : decode cX4_find 54 = .ok (.iadd, 1) := by decide +kernel
theorem dX4_find_55 : decode cX4_find 55 = .ok (.sipush 1023, 3) := by decide +kernel
theorem dX4_find_58 : decode cX4_find 58 = .ok (.iand, 1) := by decide +kernel
theorem dX4_find_59 : decode cX4_find 59 = .ok (.istore_n 2, 1) := by decide +kernel
theorem dX4_find_60 : decode cX4_find 60 = .ok (.iinc 3 1, 3) := by decide +kernel
theorem dX4_find_63 : decode cX4_find 63 = .ok (.goto (-51), 3) := by decide +kernel
theorem dX4_find_66 : decode cX4_find 66 = .ok (.aload_n 0, 1) := by decide +kernel
theorem dX4_find_67 : decode cX4_find 67 = .ok (.iload_n 2, 1) := by decide +kernel
theorem dX4_find_68 : decode cX4_find 68 = .ok (.putfield 22, 3) := by decide +kernel
theorem dX4_find_71 : decode cX4_find 71 = .ok (.iconst (-1), 1) := by decide +kernel
theorem dX4_find_72 : decode cX4_find 72 = .ok (.ireturn, 1) := by decide +kernel
theorem dX4_addAsked_0 : decode cX4_addAsked 0 = .ok (.aload_n 0, 1) := by decide +kernel
theorem dX4_addAsked_1 : decode cX4_addAsked 1 = .ok (.getfield 29, 3) := by decide +kernel
theorem dX4_addAsked_4 : decode cX4_addAsked 4 = .ok (.iconst 1, 1) := by decide +kernel
theorem dX4_addAsked_5 : decode cX4_addAsked 5 = .ok (.iadd, 1) := by decide +kernel
theorem dX4_addAsked_6 : decode cX4_addAsked 6 = .ok (.aload_n 0, 1) := by decide +kernel
theorem dX4_addAsked_7 : decode cX4_addAsked 7 = .ok (.getfield 26, 3) := by decide +kernel
theorem dX4_addAsked_10 : decode cX4_addAsked 10 = .ok (.imul, 1) := by decide +kernel
theorem dX4_addAsked_11 : decode cX4_addAsked 11 = .ok (.aload_n 0, 1) := by decide +kernel
theorem dX4_addAsked_12 : decode cX4_addAsked 12 = .ok (.getfield 9, 3) := by decide +kernel
theorem dX4_addAsked_15 : decode cX4_addAsked 15 = .ok (.arraylength, 1) := by decide +kernel
theorem dX4_addAsked_16 : decode cX4_addAsked 16 = .ok (.if_icmp .gt 51, 3) := by decide +kernel
theorem dX4_addAsked_19 : decode cX4_addAsked 19 = .ok (.aload_n 0, 1) := by decide +kernel
theorem dX4_addAsked_20 : decode cX4_addAsked 20 = .ok (.getfield 19, 3) := by decide +kernel
theorem dX4_addAsked_23 : decode cX4_addAsked 23 = .ok (.iconst 0, 1) := by decide +kernel
theorem dX4_addAsked_24 : decode cX4_addAsked 24 = .ok (.aload_n 0, 1) := by decide +kernel
theorem dX4_addAsked_25 : decode cX4_addAsked 25 = .ok (.getfield 9, 3) := by decide +kernel
theorem dX4_addAsked_28 : decode cX4_addAsked 28 = .ok (.aload_n 0, 1) := by decide +kernel
theorem dX4_addAsked_29 : decode cX4_addAsked 29 = .ok (.getfield 29, 3) := by decide +kernel
theorem dX4_addAsked_32 : decode cX4_addAsked 32 = .ok (.aload_n 0, 1) := by decide +kernel
theorem dX4_addAsked_33 : decode cX4_addAsked 33 = .ok (.getfield 26, 3) := by decide +kernel
theorem dX4_addAsked_36 : decode cX4_addAsked 36 = .ok (.imul, 1) := by decide +kernel
theorem dX4_addAsked_37 : decode cX4_addAsked 37 = .ok (.aload_n 0, 1) := by decide +kernel
theorem dX4_addAsked_38 : decode cX4_addAsked 38 = .ok (.getfield 26, 3) := by decide +kernel
theorem dX4_addAsked_41 : decode cX4_addAsked 41 = .ok (.invokestatic 50, 3) := by decide +kernel
theorem dX4_addAsked_44 : decode cX4_addAsked 44 = .ok (.aload_n 0, 1) := by decide +kernel
theorem dX4_addAsked_45 : decode cX4_addAsked 45 = .ok (.dup, 1) := by decide +kernel
theorem dX4_addAsked_46 : decode cX4_addAsked 46 = .ok (.getfield 29, 3) := by decide +kernel
theorem dX4_addAsked_49 : decode cX4_addAsked 49 = .ok (.iconst 1, 1) := by decide +kernel
theorem dX4_addAsked_50 : decode cX4_addAsked 50 = .ok (.iadd, 1) := by decide +kernel
theorem dX4_addAsked_51 : decode cX4_addAsked 51 = .ok (.putfield 29, 3) := by decide +kernel
theorem dX4_addAsked_54 : decode cX4_addAsked 54 = .ok (.aload_n 0, 1) := by decide +kernel
theorem dX4_addAsked_55 : decode cX4_addAsked 55 = .ok (.getfield 15, 3) := by decide +kernel
theorem dX4_addAsked_58 : decode cX4_addAsked 58 = .ok (.aload_n 0, 1) := by decide +kernel
theorem dX4_addAsked_59 : decode cX4_addAsked 59 = .ok (.getfield 22, 3) := by decide +kernel
theorem dX4_addAsked_62 : decode cX4_addAsked 62 = .ok (.aload_n 0, 1) := by decide +kernel
theorem dX4_addAsked_63 : decode cX4_addAsked 63 = .ok (.getfield 29, 3) := by decide +kernel
theorem dX4_addAsked_66 : decode cX4_addAsked 66 = .ok (.iastore, 1) := by decide +kernel
theorem dX4_addAsked_67 : decode cX4_addAsked 67 = .ok (.return_, 1) := by decide +kernel
theorem dX4_restore_0 : decode cX4_restore 0 = .ok (.iconst 0, 1) := by decide +kernel
theorem dX4_restore_1 : decode cX4_restore 1 = .ok (.istore_n 3, 1) := by decide +kernel
theorem dX4_restore_2 : decode cX4_restore 2 = .ok (.iload_n 3, 1) := by decide +kernel
theorem dX4_restore_3 : decode cX4_restore 3 = .ok (.aload_n 2, 1) := by decide +kernel
theorem dX4_restore_4 : decode cX4_restore 4 = .ok (.getfield 56, 3) := by decide +kernel
theorem dX4_restore_7 : decode cX4_restore 7 = .ok (.getfield 62, 3) := by decide +kernel
theorem dX4_restore_10 : decode cX4_restore 10 = .ok (.if_icmp .ge 63, 3) := by decide +kernel
theorem dX4_restore_13 : decode cX4_restore 13 = .ok (.aload_n 2, 1) := by decide +kernel
theorem dX4_restore_14 : decode cX4_restore 14 = .ok (.getfield 67, 3) := by decide +kernel
theorem dX4_restore_17 : decode cX4_restore 17 = .ok (.iload_n 3, 1) := by decide +kernel
theorem dX4_restore_18 : decode cX4_restore 18 = .ok (.bipush 6, 2) := by decide +kernel
theorem dX4_restore_20 : decode cX4_restore 20 = .ok (.imul, 1) := by decide +kernel
theorem dX4_restore_21 : decode cX4_restore 21 = .ok (.iconst 0, 1) := by decide +kernel
theorem dX4_restore_22 : decode cX4_restore 22 = .ok (.iadd, 1) := by decide +kernel
theorem dX4_restore_23 : decode cX4_restore 23 = .ok (.aload_n 0, 1) := by decide +kernel
theorem dX4_restore_24 : decode cX4_restore 24 = .ok (.getfield 9, 3) := by decide +kernel
theorem dX4_restore_27 : decode cX4_restore 27 = .ok (.iload_n 1, 1) := by decide +kernel
theorem dX4_restore_28 : decode cX4_restore 28 = .ok (.aload_n 0, 1) := by decide +kernel
theorem dX4_restore_29 : decode cX4_restore 29 = .ok (.getfield 26, 3) := by decide +kernel
theorem dX4_restore_32 : decode cX4_restore 32 = .ok (.imul, 1) := by decide +kernel
theorem dX4_restore_33 : decode cX4_restore 33 = .ok (.iconst 2, 1) := by decide +kernel
theorem dX4_restore_34 : decode cX4_restore 34 = .ok (.iload_n 3, 1) := by decide +kernel
theorem dX4_restore_35 : decode cX4_restore 35 = .ok (.imul, 1) := by decide +kernel
theorem dX4_restore_36 : decode cX4_restore 36 = .ok (.iadd, 1) := by decide +kernel
theorem dX4_restore_37 : decode cX4_restore 37 = .ok (.laload, 1) := by decide +kernel
theorem dX4_restore_38 : decode cX4_restore 38 = .ok (.lastore, 1) := by decide +kernel
theorem dX4_restore_39 : decode cX4_restore 39 = .ok (.aload_n 2, 1) := by decide +kernel
theorem dX4_restore_40 : decode cX4_restore 40 = .ok (.getfield 67, 3) := by decide +kernel
theorem dX4_restore_43 : decode cX4_restore 43 = .ok (.iload_n 3, 1) := by decide +kernel
theorem dX4_restore_44 : decode cX4_restore 44 = .ok (.bipush 6, 2) := by decide +kernel
theorem dX4_restore_46 : decode cX4_restore 46 = .ok (.imul, 1) := by decide +kernel
theorem dX4_restore_47 : decode cX4_restore 47 = .ok (.iconst 1, 1) := by decide +kernel
theorem dX4_restore_48 : decode cX4_restore 48 = .ok (.iadd, 1) := by decide +kernel
theorem dX4_restore_49 : decode cX4_restore 49 = .ok (.aload_n 0, 1) := by decide +kernel
theorem dX4_restore_50 : decode cX4_restore 50 = .ok (.getfield 9, 3) := by decide +kernel
theorem dX4_restore_53 : decode cX4_restore 53 = .ok (.iload_n 1, 1) := by decide +kernel
theorem dX4_restore_54 : decode cX4_restore 54 = .ok (.aload_n 0, 1) := by decide +kernel
theorem dX4_restore_55 : decode cX4_restore 55 = .ok (.getfield 26, 3) := by decide +kernel
theorem dX4_restore_58 : decode cX4_restore 58 = .ok (.imul, 1) := by decide +kernel
theorem dX4_restore_59 : decode cX4_restore 59 = .ok (.iconst 2, 1) := by decide +kernel
theorem dX4_restore_60 : decode cX4_restore 60 = .ok (.iload_n 3, 1) := by decide +kernel
theorem dX4_restore_61 : decode cX4_restore 61 = .ok (.imul, 1) := by decide +kernel
theorem dX4_restore_62 : decode cX4_restore 62 = .ok (.iadd, 1) := by decide +kernel
theorem dX4_restore_63 : decode cX4_restore 63 = .ok (.iconst 1, 1) := by decide +kernel
theorem dX4_restore_64 : decode cX4_restore 64 = .ok (.iadd, 1) := by decide +kernel
theorem dX4_restore_65 : decode cX4_restore 65 = .ok (.laload, 1) := by decide +kernel
theorem dX4_restore_66 : decode cX4_restore 66 = .ok (.lastore, 1) := by decide +kernel
theorem dX4_restore_67 : decode cX4_restore 67 = .ok (.iinc 3 1, 3) := by decide +kernel
theorem dX4_restore_70 : decode cX4_restore 70 = .ok (.goto (-68), 3) := by decide +kernel
theorem dX4_restore_73 : decode cX4_restore 73 = .ok (.return_, 1) := by decide +kernel
theorem dX4_ask_0 : decode cX4_ask 0 = .ok (.aload_n 1, 1) := by decide +kernel
theorem dX4_ask_1 : decode cX4_ask 1 = .ok (.getfield 56, 3) := by decide +kernel
theorem dX4_ask_4 : decode cX4_ask 4 = .ok (.getfield 62, 3) := by decide +kernel
theorem dX4_ask_7 : decode cX4_ask 7 = .ok (.istore_n 2, 1) := by decide +kernel
theorem dX4_ask_8 : decode cX4_ask 8 = .ok (.iconst 0, 1) := by decide +kernel
theorem dX4_ask_9 : decode cX4_ask 9 = .ok (.istore_n 3, 1) := by decide +kernel
theorem dX4_ask_10 : decode cX4_ask 10 = .ok (.iload_n 3, 1) := by decide +kernel
theorem dX4_ask_11 : decode cX4_ask 11 = .ok (.iload_n 2, 1) := by decide +kernel
theorem dX4_ask_12 : decode cX4_ask 12 = .ok (.if_icmp .ge 49, 3) := by decide +kernel
theorem dX4_ask_15 : decode cX4_ask 15 = .ok (.aload_n 0, 1) := by decide +kernel
theorem dX4_ask_16 : decode cX4_ask 16 = .ok (.getfield 19, 3) := by decide +kernel
theorem dX4_ask_19 : decode cX4_ask 19 = .ok (.iconst 2, 1) := by decide +kernel
theorem dX4_ask_20 : decode cX4_ask 20 = .ok (.iload_n 3, 1) := by decide +kernel
theorem dX4_ask_21 : decode cX4_ask 21 = .ok (.imul, 1) := by decide +kernel
theorem dX4_ask_22 : decode cX4_ask 22 = .ok (.aload_n 1, 1) := by decide +kernel
theorem dX4_ask_23 : decode cX4_ask 23 = .ok (.getfield 67, 3) := by decide +kernel
theorem dX4_ask_26 : decode cX4_ask 26 = .ok (.iload_n 3, 1) := by decide +kernel
theorem dX4_ask_27 : decode cX4_ask 27 = .ok (.bipush 6, 2) := by decide +kernel
theorem dX4_ask_29 : decode cX4_ask 29 = .ok (.imul, 1) := by decide +kernel
theorem dX4_ask_30 : decode cX4_ask 30 = .ok (.iconst 0, 1) := by decide +kernel
theorem dX4_ask_31 : decode cX4_ask 31 = .ok (.iadd, 1) := by decide +kernel
theorem dX4_ask_32 : decode cX4_ask 32 = .ok (.laload, 1) := by decide +kernel
theorem dX4_ask_33 : decode cX4_ask 33 = .ok (.lastore, 1) := by decide +kernel
theorem dX4_ask_34 : decode cX4_ask 34 = .ok (.aload_n 0, 1) := by decide +kernel
theorem dX4_ask_35 : decode cX4_ask 35 = .ok (.getfield 19, 3) := by decide +kernel
theorem dX4_ask_38 : decode cX4_ask 38 = .ok (.iconst 2, 1) := by decide +kernel
theorem dX4_ask_39 : decode cX4_ask 39 = .ok (.iload_n 3, 1) := by decide +kernel
theorem dX4_ask_40 : decode cX4_ask 40 = .ok (.imul, 1) := by decide +kernel
theorem dX4_ask_41 : decode cX4_ask 41 = .ok (.iconst 1, 1) := by decide +kernel
theorem dX4_ask_42 : decode cX4_ask 42 = .ok (.iadd, 1) := by decide +kernel
theorem dX4_ask_43 : decode cX4_ask 43 = .ok (.aload_n 1, 1) := by decide +kernel
theorem dX4_ask_44 : decode cX4_ask 44 = .ok (.getfield 67, 3) := by decide +kernel
theorem dX4_ask_47 : decode cX4_ask 47 = .ok (.iload_n 3, 1) := by decide +kernel
theorem dX4_ask_48 : decode cX4_ask 48 = .ok (.bipush 6, 2) := by decide +kernel
theorem dX4_ask_50 : decode cX4_ask 50 = .ok (.imul, 1) := by decide +kernel
theorem dX4_ask_51 : decode cX4_ask 51 = .ok (.iconst 1, 1) := by decide +kernel
theorem dX4_ask_52 : decode cX4_ask 52 = .ok (.iadd, 1) := by decide +kernel
theorem dX4_ask_53 : decode cX4_ask 53 = .ok (.laload, 1) := by decide +kernel
theorem dX4_ask_54 : decode cX4_ask 54 = .ok (.lastore, 1) := by decide +kernel
theorem dX4_ask_55 : decode cX4_ask 55 = .ok (.iinc 3 1, 3) := by decide +kernel
theorem dX4_ask_58 : decode cX4_ask 58 = .ok (.goto (-48), 3) := by decide +kernel
theorem dX4_ask_61 : decode cX4_ask 61 = .ok (.aload_n 0, 1) := by decide +kernel
theorem dX4_ask_62 : decode cX4_ask 62 = .ok (.iconst 2, 1) := by decide +kernel
theorem dX4_ask_63 : decode cX4_ask 63 = .ok (.iload_n 2, 1) := by decide +kernel
theorem dX4_ask_64 : decode cX4_ask 64 = .ok (.imul, 1) := by decide +kernel
theorem dX4_ask_65 : decode cX4_ask 65 = .ok (.putfield 26, 3) := by decide +kernel
theorem dX4_ask_68 : decode cX4_ask 68 = .ok (.aload_n 1, 1) := by decide +kernel
theorem dX4_ask_69 : decode cX4_ask 69 = .ok (.getfield 56, 3) := by decide +kernel
theorem dX4_ask_72 : decode cX4_ask 72 = .ok (.getfield 70, 3) := by decide +kernel
theorem dX4_ask_75 : decode cX4_ask 75 = .ok (.ifCond .eq 26, 3) := by decide +kernel
theorem dX4_ask_78 : decode cX4_ask 78 = .ok (.aload_n 0, 1) := by decide +kernel
theorem dX4_ask_79 : decode cX4_ask 79 = .ok (.getfield 19, 3) := by decide +kernel
theorem dX4_ask_82 : decode cX4_ask 82 = .ok (.aload_n 0, 1) := by decide +kernel
theorem dX4_ask_83 : decode cX4_ask 83 = .ok (.getfield 26, 3) := by decide +kernel
theorem dX4_ask_86 : decode cX4_ask 86 = .ok (.aload_n 1, 1) := by decide +kernel
theorem dX4_ask_87 : decode cX4_ask 87 = .ok (.getfield 73, 3) := by decide +kernel
theorem dX4_ask_90 : decode cX4_ask 90 = .ok (.lastore, 1) := by decide +kernel
theorem dX4_ask_91 : decode cX4_ask 91 = .ok (.aload_n 0, 1) := by decide +kernel
theorem dX4_ask_92 : decode cX4_ask 92 = .ok (.dup, 1) := by decide +kernel
theorem dX4_ask_93 : decode cX4_ask 93 = .ok (.getfield 26, 3) := by decide +kernel
theorem dX4_ask_96 : decode cX4_ask 96 = .ok (.iconst 1, 1) := by decide +kernel
theorem dX4_ask_97 : decode cX4_ask 97 = .ok (.iadd, 1) := by decide +kernel
theorem dX4_ask_98 : decode cX4_ask 98 = .ok (.putfield 26, 3) := by decide +kernel
theorem dX4_ask_101 : decode cX4_ask 101 = .ok (.return_, 1) := by decide +kernel
theorem dX4_hashOfAsked_0 : decode cX4_hashOfAsked 0 = .ok (.lconst 0, 1) := by decide +kernel
theorem dX4_hashOfAsked_1 : decode cX4_hashOfAsked 1 = .ok (.lstore_n 1, 1) := by decide +kernel
theorem dX4_hashOfAsked_2 : decode cX4_hashOfAsked 2 = .ok (.iconst 0, 1) := by decide +kernel
theorem dX4_hashOfAsked_3 : decode cX4_hashOfAsked 3 = .ok (.istore_n 3, 1) := by decide +kernel
theorem dX4_hashOfAsked_4 : decode cX4_hashOfAsked 4 = .ok (.iload_n 3, 1) := by decide +kernel
theorem dX4_hashOfAsked_5 : decode cX4_hashOfAsked 5 = .ok (.aload_n 0, 1) := by decide +kernel
theorem dX4_hashOfAsked_6 : decode cX4_hashOfAsked 6 = .ok (.getfield 26, 3) := by decide +kernel
theorem dX4_hashOfAsked_9 : decode cX4_hashOfAsked 9 = .ok (.if_icmp .ge 29, 3) := by decide +kernel
theorem dX4_hashOfAsked_12 : decode cX4_hashOfAsked 12 = .ok (.lload_n 1, 1) := by decide +kernel
theorem dX4_hashOfAsked_13 : decode cX4_hashOfAsked 13 = .ok (.aload_n 0, 1) := by decide +kernel
theorem dX4_hashOfAsked_14 : decode cX4_hashOfAsked 14 = .ok (.getfield 19, 3) := by decide +kernel
theorem dX4_hashOfAsked_17 : decode cX4_hashOfAsked 17 = .ok (.iload_n 3, 1) := by decide +kernel
theorem dX4_hashOfAsked_18 : decode cX4_hashOfAsked 18 = .ok (.laload, 1) := by decide +kernel
theorem dX4_hashOfAsked_19 : decode cX4_hashOfAsked 19 = .ok (.lxor, 1) := by decide +kernel
theorem dX4_hashOfAsked_20 : decode cX4_hashOfAsked 20 = .ok (.ldc2_w 77, 3) := by decide +kernel
theorem dX4_hashOfAsked_23 : decode cX4_hashOfAsked 23 = .ok (.lmul, 1) := by decide +kernel
theorem dX4_hashOfAsked_24 : decode cX4_hashOfAsked 24 = .ok (.lstore_n 1, 1) := by decide +kernel
theorem dX4_hashOfAsked_25 : decode cX4_hashOfAsked 25 = .ok (.lload_n 1, 1) := by decide +kernel
theorem dX4_hashOfAsked_26 : decode cX4_hashOfAsked 26 = .ok (.lload_n 1, 1) := by decide +kernel
theorem dX4_hashOfAsked_27 : decode cX4_hashOfAsked 27 = .ok (.bipush 32, 2) := by decide +kernel
theorem dX4_hashOfAsked_29 : decode cX4_hashOfAsked 29 = .ok (.lushr, 1) := by decide +kernel
theorem dX4_hashOfAsked_30 : decode cX4_hashOfAsked 30 = .ok (.lxor, 1) := by decide +kernel
theorem dX4_hashOfAsked_31 : decode cX4_hashOfAsked 31 = .ok (.lstore_n 1, 1) := by decide +kernel
theorem dX4_hashOfAsked_32 : decode cX4_hashOfAsked 32 = .ok (.iinc 3 1, 3) := by decide +kernel
theorem dX4_hashOfAsked_35 : decode cX4_hashOfAsked 35 = .ok (.goto (-31), 3) := by decide +kernel
theorem dX4_hashOfAsked_38 : decode cX4_hashOfAsked 38 = .ok (.lload_n 1, 1) := by decide +kernel
theorem dX4_hashOfAsked_39 : decode cX4_hashOfAsked 39 = .ok (.ldc2_w 79, 3) := by decide +kernel
theorem dX4_hashOfAsked_42 : decode cX4_hashOfAsked 42 = .ok (.land, 1) := by decide +kernel
theorem dX4_hashOfAsked_43 : decode cX4_hashOfAsked 43 = .ok (.l2i, 1) := by decide +kernel
theorem dX4_hashOfAsked_44 : decode cX4_hashOfAsked 44 = .ok (.ireturn, 1) := by decide +kernel
theorem dX4_isAsked_0 : decode cX4_isAsked 0 = .ok (.iconst 0, 1) := by decide +kernel
theorem dX4_isAsked_1 : decode cX4_isAsked 1 = .ok (.istore_n 2, 1) := by decide +kernel
theorem dX4_isAsked_2 : decode cX4_isAsked 2 = .ok (.iload_n 2, 1) := by decide +kernel
theorem dX4_isAsked_3 : decode cX4_isAsked 3 = .ok (.aload_n 0, 1) := by decide +kernel
theorem dX4_isAsked_4 : decode cX4_isAsked 4 = .ok (.getfield 26, 3) := by decide +kernel
theorem dX4_isAsked_7 : decode cX4_isAsked 7 = .ok (.if_icmp .ge 34, 3) := by decide +kernel
theorem dX4_isAsked_10 : decode cX4_isAsked 10 = .ok (.aload_n 0, 1) := by decide +kernel
theorem dX4_isAsked_11 : decode cX4_isAsked 11 = .ok (.getfield 9, 3) := by decide +kernel
theorem dX4_isAsked_14 : decode cX4_isAsked 14 = .ok (.iload_n 1, 1) := by decide +kernel
theorem dX4_isAsked_15 : decode cX4_isAsked 15 = .ok (.aload_n 0, 1) := by decide +kernel
theorem dX4_isAsked_16 : decode cX4_isAsked 16 = .ok (.getfield 26, 3) := by decide +kernel
theorem dX4_isAsked_19 : decode cX4_isAsked 19 = .ok (.imul, 1) := by decide +kernel
theorem dX4_isAsked_20 : decode cX4_isAsked 20 = .ok (.iload_n 2, 1) := by decide +kernel
theorem dX4_isAsked_21 : decode cX4_isAsked 21 = .ok (.iadd, 1) := by decide +kernel
theorem dX4_isAsked_22 : decode cX4_isAsked 22 = .ok (.laload, 1) := by decide +kernel
theorem dX4_isAsked_23 : decode cX4_isAsked 23 = .ok (.aload_n 0, 1) := by decide +kernel
theorem dX4_isAsked_24 : decode cX4_isAsked 24 = .ok (.getfield 19, 3) := by decide +kernel
theorem dX4_isAsked_27 : decode cX4_isAsked 27 = .ok (.iload_n 2, 1) := by decide +kernel
theorem dX4_isAsked_28 : decode cX4_isAsked 28 = .ok (.laload, 1) := by decide +kernel
theorem dX4_isAsked_29 : decode cX4_isAsked 29 = .ok (.lcmp, 1) := by decide +kernel
theorem dX4_isAsked_30 : decode cX4_isAsked 30 = .ok (.ifCond .eq 5, 3) := by decide +kernel
theorem dX4_isAsked_33 : decode cX4_isAsked 33 = .ok (.iconst 0, 1) := by decide +kernel
theorem dX4_isAsked_34 : decode cX4_isAsked 34 = .ok (.ireturn, 1) := by decide +kernel
theorem dX4_isAsked_35 : decode cX4_isAsked 35 = .ok (.iinc 2 1, 3) := by decide +kernel
theorem dX4_isAsked_38 : decode cX4_isAsked 38 = .ok (.goto (-36), 3) := by decide +kernel
theorem dX4_isAsked_41 : decode cX4_isAsked 41 = .ok (.iconst 1, 1) := by decide +kernel
theorem dX4_isAsked_42 : decode cX4_isAsked 42 = .ok (.ireturn, 1) := by decide +kernel
theorem dX5_init_0 : decode cX5_init 0 = .ok (.aload_n 0, 1) := by decide +kernel
theorem dX5_init_1 : decode cX5_init 1 = .ok (.invokespecial 3, 3) := by decide +kernel
theorem dX5_init_4 : decode cX5_init 4 = .ok (.aload_n 0, 1) := by decide +kernel
theorem dX5_init_5 : decode cX5_init 5 = .ok (.iconst 5, 1) := by decide +kernel
theorem dX5_init_6 : decode cX5_init 6 = .ok (.newarray .int, 2) := by decide +kernel
theorem dX5_init_8 : decode cX5_init 8 = .ok (.putfield 9, 3) := by decide +kernel
theorem dX5_init_11 : decode cX5_init 11 = .ok (.aload_n 0, 1) := by decide +kernel
theorem dX5_init_12 : decode cX5_init 12 = .ok (.iconst 5, 1) := by decide +kernel
theorem dX5_init_13 : decode cX5_init 13 = .ok (.newarray .long, 2) := by decide +kernel
theorem dX5_init_15 : decode cX5_init 15 = .ok (.putfield 15, 3) := by decide +kernel
theorem dX5_init_18 : decode cX5_init 18 = .ok (.aload_n 0, 1) := by decide +kernel
theorem dX5_init_19 : decode cX5_init 19 = .ok (.iconst 5, 1) := by decide +kernel
theorem dX5_init_20 : decode cX5_init 20 = .ok (.newarray .int, 2) := by decide +kernel
theorem dX5_init_22 : decode cX5_init 22 = .ok (.putfield 19, 3) := by decide +kernel
theorem dX5_init_25 : decode cX5_init 25 = .ok (.aload_n 0, 1) := by decide +kernel
theorem dX5_init_26 : decode cX5_init 26 = .ok (.bipush 16, 2) := by decide +kernel
theorem dX5_init_28 : decode cX5_init 28 = .ok (.newarray .long, 2) := by decide +kernel
theorem dX5_init_30 : decode cX5_init 30 = .ok (.putfield 22, 3) := by decide +kernel
theorem dX5_init_33 : decode cX5_init 33 = .ok (.aload_n 0, 1) := by decide +kernel
theorem dX5_init_34 : decode cX5_init 34 = .ok (.iconst 0, 1) := by decide +kernel
theorem dX5_init_35 : decode cX5_init 35 = .ok (.putfield 25, 3) := by decide +kernel
theorem dX5_init_38 : decode cX5_init 38 = .ok (.aload_n 0, 1) := by decide +kernel
theorem dX5_init_39 : decode cX5_init 39 = .ok (.iconst 2, 1) := by decide +kernel
theorem dX5_init_40 : decode cX5_init 40 = .ok (.putfield 29, 3) := by decide +kernel
theorem dX5_init_43 : decode cX5_init 43 = .ok (.aload_n 0, 1) := by decide +kernel
theorem dX5_init_44 : decode cX5_init 44 = .ok (.iconst 0, 1) := by decide +kernel
theorem dX5_init_45 : decode cX5_init 45 = .ok (.putfield 32, 3) := by decide +kernel
theorem dX5_init_48 : decode cX5_init 48 = .ok (.aload_n 0, 1) := by decide +kernel
theorem dX5_init_49 : decode cX5_init 49 = .ok (.lconst 0, 1) := by decide +kernel
theorem dX5_init_50 : decode cX5_init 50 = .ok (.putfield 35, 3) := by decide +kernel
theorem dX5_init_53 : decode cX5_init 53 = .ok (.aload_n 0, 1) := by decide +kernel
theorem dX5_init_54 : decode cX5_init 54 = .ok (.getfield 22, 3) := by decide +kernel
theorem dX5_init_57 : decode cX5_init 57 = .ok (.iconst 0, 1) := by decide +kernel
theorem dX5_init_58 : decode cX5_init 58 = .ok (.ldc2_w 39, 3) := by decide +kernel
theorem dX5_init_61 : decode cX5_init 61 = .ok (.lastore, 1) := by decide +kernel
theorem dX5_init_62 : decode cX5_init 62 = .ok (.aload_n 0, 1) := by decide +kernel
theorem dX5_init_63 : decode cX5_init 63 = .ok (.getfield 22, 3) := by decide +kernel
theorem dX5_init_66 : decode cX5_init 66 = .ok (.iconst 1, 1) := by decide +kernel
theorem dX5_init_67 : decode cX5_init 67 = .ok (.lconst 1, 1) := by decide +kernel
theorem dX5_init_68 : decode cX5_init 68 = .ok (.lastore, 1) := by decide +kernel
theorem dX5_init_69 : decode cX5_init 69 = .ok (.return_, 1) := by decide +kernel
theorem dX5_addStage_0 : decode cX5_addStage 0 = .ok (.aload_n 0, 1) := by decide +kernel
theorem dX5_addStage_1 : decode cX5_addStage 1 = .ok (.getfield 9, 3) := by decide +kernel
theorem dX5_addStage_4 : decode cX5_addStage 4 = .ok (.aload_n 0, 1) := by decide +kernel
theorem dX5_addStage_5 : decode cX5_addStage 5 = .ok (.getfield 25, 3) := by decide +kernel
theorem dX5_addStage_8 : decode cX5_addStage 8 = .ok (.iload_n 1, 1) := by decide +kernel
theorem dX5_addStage_9 : decode cX5_addStage 9 = .ok (.iastore, 1) := by decide +kernel
theorem dX5_addStage_10 : decode cX5_addStage 10 = .ok (.aload_n 0, 1) := by decide +kernel
theorem dX5_addStage_11 : decode cX5_addStage 11 = .ok (.getfield 15, 3) := by decide +kernel
theorem dX5_addStage_14 : decode cX5_addStage 14 = .ok (.aload_n 0, 1) := by decide +kernel
theorem dX5_addStage_15 : decode cX5_addStage 15 = .ok (.getfield 25, 3) := by decide +kernel
theorem dX5_addStage_18 : decode cX5_addStage 18 = .ok (.lload_n 2, 1) := by decide +kernel
theorem dX5_addStage_19 : decode cX5_addStage 19 = .ok (.lastore, 1) := by decide +kernel
theorem dX5_addStage_20 : decode cX5_addStage 20 = .ok (.aload_n 0, 1) := by decide +kernel
theorem dX5_addStage_21 : decode cX5_addStage 21 = .ok (.getfield 19, 3) := by decide +kernel
theorem dX5_addStage_24 : decode cX5_addStage 24 = .ok (.aload_n 0, 1) := by decide +kernel
theorem dX5_addStage_25 : decode cX5_addStage 25 = .ok (.getfield 25, 3) := by decide +kernel
theorem dX5_addStage_28 : decode cX5_addStage 28 = .ok (.iload 4, 2) := by decide +kernel
theorem dX5_addStage_30 : decode cX5_addStage 30 = .ok (.iastore, 1) := by decide +kernel
theorem dX5_addStage_31 : decode cX5_addStage 31 = .ok (.aload_n 0, 1) := by decide +kernel
theorem dX5_addStage_32 : decode cX5_addStage 32 = .ok (.dup, 1) := by decide +kernel
theorem dX5_addStage_33 : decode cX5_addStage 33 = .ok (.getfield 25, 3) := by decide +kernel
theorem dX5_addStage_36 : decode cX5_addStage 36 = .ok (.iconst 1, 1) := by decide +kernel
theorem dX5_addStage_37 : decode cX5_addStage 37 = .ok (.iadd, 1) := by decide +kernel
theorem dX5_addStage_38 : decode cX5_addStage 38 = .ok (.putfield 25, 3) := by decide +kernel
theorem dX5_addStage_41 : decode cX5_addStage 41 = .ok (.aload_n 0, 1) := by decide +kernel
theorem dX5_addStage_42 : decode cX5_addStage 42 = .ok (.getfield 25, 3) := by decide +kernel
theorem dX5_addStage_45 : decode cX5_addStage 45 = .ok (.iconst 1, 1) := by decide +kernel
theorem dX5_addStage_46 : decode cX5_addStage 46 = .ok (.isub, 1) := by decide +kernel
theorem dX5_addStage_47 : decode cX5_addStage 47 = .ok (.ireturn, 1) := by decide +kernel
theorem dX5_layLevels_0 : decode cX5_layLevels 0 = .ok (.aload_n 0, 1) := by decide +kernel
theorem dX5_layLevels_1 : decode cX5_layLevels 1 = .ok (.iload_n 1, 1) := by decide +kernel
theorem dX5_layLevels_2 : decode cX5_layLevels 2 = .ok (.putfield 29, 3) := by decide +kernel
theorem dX5_layLevels_5 : decode cX5_layLevels 5 = .ok (.iconst 0, 1) := by decide +kernel
theorem dX5_layLevels_6 : decode cX5_layLevels 6 = .ok (.istore 6, 2) := by decide +kernel
theorem dX5_layLevels_8 : decode cX5_layLevels 8 = .ok (.iload 6, 2) := by decide +kernel
theorem dX5_layLevels_10 : decode cX5_layLevels 10 = .ok (.iload_n 1, 1) := by decide +kernel
theorem dX5_layLevels_11 : decode cX5_layLevels 11 = .ok (.if_icmp .ge 24, 3) := by decide +kernel
theorem dX5_layLevels_14 : decode cX5_layLevels 14 = .ok (.aload_n 0, 1) := by decide +kernel
theorem dX5_layLevels_15 : decode cX5_layLevels 15 = .ok (.getfield 22, 3) := by decide +kernel
theorem dX5_layLevels_18 : decode cX5_layLevels 18 = .ok (.iload 6, 2) := by decide +kernel
theorem dX5_layLevels_20 : decode cX5_layLevels 20 = .ok (.lload_n 2, 1) := by decide +kernel
theorem dX5_layLevels_21 : decode cX5_layLevels 21 = .ok (.iload 6, 2) := by decide +kernel
theorem dX5_layLevels_23 : decode cX5_layLevels 23 = .ok (.i2l, 1) := by decide +kernel
theorem dX5_layLevels_24 : decode cX5_layLevels 24 = .ok (.lload 4, 2) := by decide +kernel
theorem dX5_layLevels_26 : decode cX5_layLevels 26 = .ok (.lmul, 1) := by decide +kernel
theorem dX5_layLevels_27 : decode cX5_layLevels 27 = .ok (.ladd, 1) := by decide +kernel
theorem dX5_layLevels_28 : decode cX5_layLevels 28 = .ok (.lastore, 1) := by decide +kernel
theorem dX5_layLevels_29 : decode cX5_layLevels 29 = .ok (.iinc 6 1, 3) := by decide +kernel
theorem dX5_layLevels_32 : decode cX5_layLevels 32 = .ok (.goto (-24), 3) := by decide +kernel
theorem dX5_layLevels_35 : decode cX5_layLevels 35 = .ok (.return_, 1) := by decide +kernel
theorem dX5_hasStage_0 : decode cX5_hasStage 0 = .ok (.iload_n 1, 1) := by decide +kernel
theorem dX5_hasStage_1 : decode cX5_hasStage 1 = .ok (.ifCond .lt 15, 3) := by decide +kernel
theorem dX5_hasStage_4 : decode cX5_hasStage 4 = .ok (.iload_n 1, 1) := by decide +kernel
theorem dX5_hasStage_5 : decode cX5_hasStage 5 = .ok (.aload_n 0, 1) := by decide +kernel
theorem dX5_hasStage_6 : decode cX5_hasStage 6 = .ok (.getfield 25, 3) := by decide +kernel
theorem dX5_hasStage_9 : decode cX5_hasStage 9 = .ok (.if_icmp .ge 7, 3) := by decide +kernel
theorem dX5_hasStage_12 : decode cX5_hasStage 12 = .ok (.iconst 1, 1) := by decide +kernel
theorem dX5_hasStage_13 : decode cX5_hasStage 13 = .ok (.goto 4, 3) := by decide +kernel
theorem dX5_hasStage_16 : decode cX5_hasStage 16 = .ok (.iconst 0, 1) := by decide +kernel
theorem dX5_hasStage_17 : decode cX5_hasStage 17 = .ok (.ireturn, 1) := by decide +kernel
theorem dX5_hasLevel_0 : decode cX5_hasLevel 0 = .ok (.iload_n 1, 1) := by decide +kernel
theorem dX5_hasLevel_1 : decode cX5_hasLevel 1 = .ok (.ifCond .lt 15, 3) := by decide +kernel
theorem dX5_hasLevel_4 : decode cX5_hasLevel 4 = .ok (.iload_n 1, 1) := by decide +kernel
theorem dX5_hasLevel_5 : decode cX5_hasLevel 5 = .ok (.aload_n 0, 1) := by decide +kernel
theorem dX5_hasLevel_6 : decode cX5_hasLevel 6 = .ok (.getfield 29, 3) := by decide +kernel
theorem dX5_hasLevel_9 : decode cX5_hasLevel 9 = .ok (.if_icmp .ge 7, 3) := by decide +kernel
theorem dX5_hasLevel_12 : decode cX5_hasLevel 12 = .ok (.iconst 1, 1) := by decide +kernel
theorem dX5_hasLevel_13 : decode cX5_hasLevel 13 = .ok (.goto 4, 3) := by decide +kernel
theorem dX5_hasLevel_16 : decode cX5_hasLevel 16 = .ok (.iconst 0, 1) := by decide +kernel
theorem dX5_hasLevel_17 : decode cX5_hasLevel 17 = .ok (.ireturn, 1) := by decide +kernel
theorem dX5_wouldRise_0 : decode cX5_wouldRise 0 = .ok (.iload_n 1, 1) := by decide +kernel
theorem dX5_wouldRise_1 : decode cX5_wouldRise 1 = .ok (.ifCond .eq 16, 3) := by decide +kernel
theorem dX5_wouldRise_4 : decode cX5_wouldRise 4 = .ok (.aload_n 0, 1) := by decide +kernel
theorem dX5_wouldRise_5 : decode cX5_wouldRise 5 = .ok (.getfield 22, 3) := by decide +kernel
theorem dX5_wouldRise_8 : decode cX5_wouldRise 8 = .ok (.iload_n 1, 1) := by decide +kernel
theorem dX5_wouldRise_9 : decode cX5_wouldRise 9 = .ok (.iconst 1, 1) := by decide +kernel
theorem dX5_wouldRise_10 : decode cX5_wouldRise 10 = .ok (.isub, 1) := by decide +kernel
theorem dX5_wouldRise_11 : decode cX5_wouldRise 11 = .ok (.laload, 1) := by decide +kernel
theorem dX5_wouldRise_12 : decode cX5_wouldRise 12 = .ok (.lload_n 2, 1) := by decide +kernel
theorem dX5_wouldRise_13 : decode cX5_wouldRise 13 = .ok (.lcmp, 1) := by decide +kernel
theorem dX5_wouldRise_14 : decode cX5_wouldRise 14 = .ok (.ifCond .ge 30, 3) := by decide +kernel
theorem dX5_wouldRise_17 : decode cX5_wouldRise 17 = .ok (.iload_n 1, 1) := by decide +kernel
theorem dX5_wouldRise_18 : decode cX5_wouldRise 18 = .ok (.aload_n 0, 1) := by decide +kernel
theorem dX5_wouldRise_19 : decode cX5_wouldRise 19 = .ok (.getfield 29, 3) := by decide +kernel
theorem dX5_wouldRise_22 : decode cX5_wouldRise 22 = .ok (.iconst 1, 1) := by decide +kernel
theorem dX5_wouldRise_23 : decode cX5_wouldRise 23 = .ok (.isub, 1) := by decide +kernel
theorem dX5_wouldRise_24 : decode cX5_wouldRise 24 = .ok (.if_icmp .eq 16, 3) := by decide +kernel
theorem dX5_wouldRise_27 : decode cX5_wouldRise 27 = .ok (.lload_n 2, 1) := by decide +kernel
theorem dX5_wouldRise_28 : decode cX5_wouldRise 28 = .ok (.aload_n 0, 1) := by decide +kernel
theorem dX5_wouldRise_29 : decode cX5_wouldRise 29 = .ok (.getfield 22, 3) := by decide +kernel
theorem dX5_wouldRise_32 : decode cX5_wouldRise 32 = .ok (.iload_n 1, 1) := by decide +kernel
theorem dX5_wouldRise_33 : decode cX5_wouldRise 33 = .ok (.iconst 1, 1) := by decide +kernel
theorem dX5_wouldRise_34 : decode cX5_wouldRise 34 = .ok (.iadd, 1) := by decide +kernel
theorem dX5_wouldRise_35 : decode cX5_wouldRise 35 = .ok (.laload, 1) := by decide +kernel
theorem dX5_wouldRise_36 : decode cX5_wouldRise 36 = .ok (.lcmp, 1) := by decide +kernel
theorem dX5_wouldRise_37 : decode cX5_wouldRise 37 = .ok (.ifCond .ge 7, 3) := by decide +kernel
theorem dX5_wouldRise_40 : decode cX5_wouldRise 40 = .ok (.iconst 1, 1) := by decide +kernel
theorem dX5_wouldRise_41 : decode cX5_wouldRise 41 = .ok (.goto 4, 3) := by decide +kernel
theorem dX5_wouldRise_44 : decode cX5_wouldRise 44 = .ok (.iconst 0, 1) := by decide +kernel
theorem dX5_wouldRise_45 : decode cX5_wouldRise 45 = .ok (.ireturn, 1) := by decide +kernel
theorem dX5_nearestTo_0 : decode cX5_nearestTo 0 = .ok (.iconst 0, 1) := by decide +kernel
theorem dX5_nearestTo_1 : decode cX5_nearestTo 1 = .ok (.istore_n 3, 1) := by decide +kernel
theorem dX5_nearestTo_2 : decode cX5_nearestTo 2 = .ok (.iload_n 3, 1) := by decide +kernel
theorem dX5_nearestTo_3 : decode cX5_nearestTo 3 = .ok (.aload_n 0, 1) := by decide +kernel
theorem dX5_nearestTo_4 : decode cX5_nearestTo 4 = .ok (.getfield 29, 3) := by decide +kernel
theorem dX5_nearestTo_7 : decode cX5_nearestTo 7 = .ok (.iconst 1, 1) := by decide +kernel
theorem dX5_nearestTo_8 : decode cX5_nearestTo 8 = .ok (.isub, 1) := by decide +kernel
theorem dX5_nearestTo_9 : decode cX5_nearestTo 9 = .ok (.if_icmp .ge 37, 3) := by decide +kernel
theorem dX5_nearestTo_12 : decode cX5_nearestTo 12 = .ok (.aload_n 0, 1) := by decide +kernel
theorem dX5_nearestTo_13 : decode cX5_nearestTo 13 = .ok (.getfield 22, 3) := by decide +kernel
theorem dX5_nearestTo_16 : decode cX5_nearestTo 16 = .ok (.iload_n 3, 1) := by decide +kernel
theorem dX5_nearestTo_17 : decode cX5_nearestTo 17 = .ok (.iconst 1, 1) := by decide +kernel
theorem dX5_nearestTo_18 : decode cX5_nearestTo 18 = .ok (.iadd, 1) := by decide +kernel
theorem dX5_nearestTo_19 : decode cX5_nearestTo 19 = .ok (.laload, 1) := by decide +kernel
theorem dX5_nearestTo_20 : decode cX5_nearestTo 20 = .ok (.lload_n 1, 1) := by decide +kernel
theorem dX5_nearestTo_21 : decode cX5_nearestTo 21 = .ok (.lsub, 1) := by decide +kernel
theorem dX5_nearestTo_22 : decode cX5_nearestTo 22 = .ok (.invokestatic 41, 3) := by decide +kernel
theorem dX5_nearestTo_25 : decode cX5_nearestTo 25 = .ok (.aload_n 0, 1) := by decide +kernel
theorem dX5_nearestTo_26 : decode cX5_nearestTo 26 = .ok (.getfield 22, 3) := by decide +kernel
theorem dX5_nearestTo_29 : decode cX5_nearestTo 29 = .ok (.iload_n 3, 1) := by decide +kernel
theorem dX5_nearestTo_30 : decode cX5_nearestTo 30 = .ok (.laload, 1) := by decide +kernel
theorem dX5_nearestTo_31 : decode cX5_nearestTo 31 = .ok (.lload_n 1, 1) := by decide +kernel
theorem dX5_nearestTo_32 : decode cX5_nearestTo 32 = .ok (.lsub, 1) := by decide +kernel
theorem dX5_nearestTo_33 : decode cX5_nearestTo 33 = .ok (.invokestatic 41, 3) := by decide +kernel
theorem dX5_nearestTo_36 : decode cX5_nearestTo 36 = .ok (.lcmp, 1) := by decide +kernel
theorem dX5_nearestTo_37 : decode cX5_nearestTo 37 = .ok (.ifCond .gt 9, 3) := by decide +kernel
theorem dX5_nearestTo_40 : decode cX5_nearestTo 40 = .ok (.iinc 3 1, 3) := by decide +kernel
theorem dX5_nearestTo_43 : decode cX5_nearestTo 43 = .ok (.goto (-41), 3) := by decide +kernel
theorem dX5_nearestTo_46 : decode cX5_nearestTo 46 = .ok (.iload_n 3, 1) := by decide +kernel
theorem dX5_nearestTo_47 : decode cX5_nearestTo 47 = .ok (.ireturn, 1) := by decide +kernel
theorem dX6_init_0 : decode cX6_init 0 = .ok (.aload_n 0, 1) := by decide +kernel
theorem dX6_init_1 : decode cX6_init 1 = .ok (.invokespecial 3, 3) := by decide +kernel
theorem dX6_init_4 : decode cX6_init 4 = .ok (.aload_n 0, 1) := by decide +kernel
theorem dX6_init_5 : decode cX6_init 5 = .ok (.bipush 30, 2) := by decide +kernel
theorem dX6_init_7 : decode cX6_init 7 = .ok (.newarray .long, 2) := by decide +kernel
theorem dX6_init_9 : decode cX6_init 9 = .ok (.putfield 9, 3) := by decide +kernel
theorem dX6_init_12 : decode cX6_init 12 = .ok (.aload_n 0, 1) := by decide +kernel
theorem dX6_init_13 : decode cX6_init 13 = .ok (.bipush 15, 2) := by decide +kernel
theorem dX6_init_15 : decode cX6_init 15 = .ok (.newarray .int, 2) := by decide +kernel
theorem dX6_init_17 : decode cX6_init 17 = .ok (.putfield 15, 3) := by decide +kernel
theorem dX6_init_20 : decode cX6_init 20 = .ok (.aload_n 0, 1) := by decide +kernel
theorem dX6_init_21 : decode cX6_init 21 = .ok (.iconst 0, 1) := by decide +kernel
theorem dX6_init_22 : decode cX6_init 22 = .ok (.putfield 19, 3) := by decide +kernel
theorem dX6_init_25 : decode cX6_init 25 = .ok (.aload_n 0, 1) := by decide +kernel
theorem dX6_init_26 : decode cX6_init 26 = .ok (.lconst 0, 1) := by decide +kernel
theorem dX6_init_27 : decode cX6_init 27 = .ok (.putfield 23, 3) := by decide +kernel
theorem dX6_init_30 : decode cX6_init 30 = .ok (.aload_n 0, 1) := by decide +kernel
theorem dX6_init_31 : decode cX6_init 31 = .ok (.iconst 0, 1) := by decide +kernel
theorem dX6_init_32 : decode cX6_init 32 = .ok (.putfield 27, 3) := by decide +kernel
theorem dX6_init_35 : decode cX6_init 35 = .ok (.aload_n 0, 1) := by decide +kernel
theorem dX6_init_36 : decode cX6_init 36 = .ok (.aload_n 1, 1) := by decide +kernel
theorem dX6_init_37 : decode cX6_init 37 = .ok (.putfield 30, 3) := by decide +kernel
theorem dX6_init_40 : decode cX6_init 40 = .ok (.return_, 1) := by decide +kernel
theorem dX6_beginAgain_0 : decode cX6_beginAgain 0 = .ok (.aload_n 0, 1) := by decide +kernel
theorem dX6_beginAgain_1 : decode cX6_beginAgain 1 = .ok (.getfield 9, 3) := by decide +kernel
theorem dX6_beginAgain_4 : decode cX6_beginAgain 4 = .ok (.lconst 0, 1) := by decide +kernel
theorem dX6_beginAgain_5 : decode cX6_beginAgain 5 = .ok (.invokestatic 34, 3) := by decide +kernel
theorem dX6_beginAgain_8 : decode cX6_beginAgain 8 = .ok (.aload_n 0, 1) := by decide +kernel
theorem dX6_beginAgain_9 : decode cX6_beginAgain 9 = .ok (.aload_n 0, 1) := by decide +kernel
theorem dX6_beginAgain_10 : decode cX6_beginAgain 10 = .ok (.getfield 30, 3) := by decide +kernel
theorem dX6_beginAgain_13 : decode cX6_beginAgain 13 = .ok (.getfield 40, 3) := by decide +kernel
theorem dX6_beginAgain_16 : decode cX6_beginAgain 16 = .ok (.putfield 23, 3) := by decide +kernel
theorem dX6_beginAgain_19 : decode cX6_beginAgain 19 = .ok (.return_, 1) := by decide +kernel
theorem dX6_becomeLike_0 : decode cX6_becomeLike 0 = .ok (.aload_n 1, 1) := by decide +kernel
theorem dX6_becomeLike_1 : decode cX6_becomeLike 1 = .ok (.getfield 9, 3) := by decide +kernel
theorem dX6_becomeLike_4 : decode cX6_becomeLike 4 = .ok (.iconst 0, 1) := by decide +kernel
theorem dX6_becomeLike_5 : decode cX6_becomeLike 5 = .ok (.aload_n 0, 1) := by decide +kernel
theorem dX6_becomeLike_6 : decode cX6_becomeLike 6 = .ok (.getfield 9, 3) := by decide +kernel
theorem dX6_becomeLike_9 : decode cX6_becomeLike 9 = .ok (.iconst 0, 1) := by decide +kernel
theorem dX6_becomeLike_10 : decode cX6_becomeLike 10 = .ok (.aload_n 0, 1) := by decide +kernel
theorem dX6_becomeLike_11 : decode cX6_becomeLike 11 = .ok (.getfield 9, 3) := by decide +kernel
theorem dX6_becomeLike_14 : decode cX6_becomeLike 14 = .ok (.arraylength, 1) := by decide +kernel
theorem dX6_becomeLike_15 : decode cX6_becomeLike 15 = .ok (.invokestatic 45, 3) := by decide +kernel
theorem dX6_becomeLike_18 : decode cX6_becomeLike 18 = .ok (.aload_n 0, 1) := by decide +kernel
theorem dX6_becomeLike_19 : decode cX6_becomeLike 19 = .ok (.aload_n 1, 1) := by decide +kernel
theorem dX6_becomeLike_20 : decode cX6_becomeLike 20 = .ok (.getfield 23, 3) := by decide +kernel
theorem dX6_becomeLike_23 : decode cX6_becomeLike 23 = .ok (.putfield 23, 3) := by decide +kernel
theorem dX6_becomeLike_26 : decode cX6_becomeLike 26 = .ok (.return_, 1) := by decide +kernel
theorem dX6_makeStep_0 : decode cX6_makeStep 0 = .ok (.aload_n 0, 1) := by decide +kernel
theorem dX6_makeStep_1 : decode cX6_makeStep 1 = .ok (.iconst 0, 1) := by decide +kernel
theorem dX6_makeStep_2 : decode cX6_makeStep 2 = .ok (.putfield 19, 3) := by decide +kernel
theorem dX6_makeStep_5 : decode cX6_makeStep 5 = .ok (.aload_n 0, 1) := by decide +kernel
theorem dX6_makeStep_6 : decode cX6_makeStep 6 = .ok (.invokevirtual 51, 3) := by decide +kernel
theorem dX6_makeStep_9 : decode cX6_makeStep 9 = .ok (.lstore_n 3, 1) := by decide +kernel
theorem dX6_makeStep_10 : decode cX6_makeStep 10 = .ok (.aload_n 0, 1) := by decide +kernel
theorem dX6_makeStep_11 : decode cX6_makeStep 11 = .ok (.getfield 30, 3) := by decide +kernel
theorem dX6_makeStep_14 : decode cX6_makeStep 14 = .ok (.getfield 55, 3) := by decide +kernel
theorem dX6_makeStep_17 : decode cX6_makeStep 17 = .ok (.ifCond .ne 7, 3) := by decide +kernel
theorem dX6_makeStep_20 : decode cX6_makeStep 20 = .ok (.lload_n 1, 1) := by decide +kernel
theorem dX6_makeStep_21 : decode cX6_makeStep 21 = .ok (.goto 22, 3) := by decide +kernel
theorem dX6_makeStep_24 : decode cX6_makeStep 24 = .ok (.aload_n 0, 1) := by decide +kernel
theorem dX6_makeStep_25 : decode cX6_makeStep 25 = .ok (.getfield 9, 3) := by decide +kernel
theorem dX6_makeStep_28 : decode cX6_makeStep 28 = .ok (.aload_n 0, 1) := by decide +kernel
theorem dX6_makeStep_29 : decode cX6_makeStep 29 = .ok (.getfield 30, 3) := by decide +kernel
theorem dX6_makeStep_32 : decode cX6_makeStep 32 = .ok (.getfield 55, 3) := by decide +kernel
theorem dX6_makeStep_35 : decode cX6_makeStep 35 = .ok (.iconst 1, 1) := by decide +kernel
theorem dX6_makeStep_36 : decode cX6_makeStep 36 = .ok (.isub, 1) := by decide +kernel
theorem dX6_makeStep_37 : decode cX6_makeStep 37 = .ok (.bipush 6, 2) := by decide +kernel
theorem dX6_makeStep_39 : decode cX6_makeStep 39 = .ok (.imul, 1) := by decide +kernel
theorem dX6_makeStep_40 : decode cX6_makeStep 40 = .ok (.iconst 0, 1) := by decide +kernel
theorem dX6_makeStep_41 : decode cX6_makeStep 41 = .ok (.iadd, 1) := by decide +kernel
theorem dX6_makeStep_42 : decode cX6_makeStep 42 = .ok (.laload, 1) := by decide +kernel
theorem dX6_makeStep_43 : decode cX6_makeStep 43 = .ok (.lstore 5, 2) := by decide +kernel
theorem dX6_makeStep_45 : decode cX6_makeStep 45 = .ok (.aload_n 0, 1) := by decide +kernel
theorem dX6_makeStep_46 : decode cX6_makeStep 46 = .ok (.aload_n 0, 1) := by decide +kernel
theorem dX6_makeStep_47 : decode cX6_makeStep 47 = .ok (.getfield 30, 3) := by decide +kernel
theorem dX6_makeStep_50 : decode cX6_makeStep 50 = .ok (.lload 5, 2) := by decide +kernel
theorem dX6_makeStep_52 : decode cX6_makeStep 52 = .ok (.lload_n 3, 1) := by decide +kernel
theorem dX6_makeStep_53 : decode cX6_makeStep 53 = .ok (.ladd, 1) := by decide +kernel
theorem dX6_makeStep_54 : decode cX6_makeStep 54 = .ok (.invokevirtual 58, 3) := by decide +kernel
theorem dX6_makeStep_57 : decode cX6_makeStep 57 = .ok (.putfield 27, 3) := by decide +kernel
theorem dX6_makeStep_60 : decode cX6_makeStep 60 = .ok (.aload_n 0, 1) := by decide +kernel
theorem dX6_makeStep_61 : decode cX6_makeStep 61 = .ok (.getfield 30, 3) := by decide +kernel
theorem dX6_makeStep_64 : decode cX6_makeStep 64 = .ok (.getfield 62, 3) := by decide +kernel
theorem dX6_makeStep_67 : decode cX6_makeStep 67 = .ok (.aload_n 0, 1) := by decide +kernel
theorem dX6_makeStep_68 : decode cX6_makeStep 68 = .ok (.getfield 27, 3) := by decide +kernel
theorem dX6_makeStep_71 : decode cX6_makeStep 71 = .ok (.laload, 1) := by decide +kernel
theorem dX6_makeStep_72 : decode cX6_makeStep 72 = .ok (.lstore 7, 2) := by decide +kernel
theorem dX6_makeStep_74 : decode cX6_makeStep 74 = .ok (.lload_n 1, 1) := by decide +kernel
theorem dX6_makeStep_75 : decode cX6_makeStep 75 = .ok (.lstore 9, 2) := by decide +kernel
theorem dX6_makeStep_77 : decode cX6_makeStep 77 = .ok (.iconst 0, 1) := by decide +kernel
theorem dX6_makeStep_78 : decode cX6_makeStep 78 = .ok (.istore 11, 2) := by decide +kernel
theorem dX6_makeStep_80 : decode cX6_makeStep 80 = .ok (.iload 11, 2) := by decide +kernel
theorem dX6_makeStep_82 : decode cX6_makeStep 82 = .ok (.aload_n 0, 1) := by decide +kernel
theorem dX6_makeStep_83 : decode cX6_makeStep 83 = .ok (.getfield 30, 3) := by decide +kernel
theorem dX6_makeStep_86 : decode cX6_makeStep 86 = .ok (.getfield 55, 3) := by decide +kernel
theorem dX6_makeStep_89 : decode cX6_makeStep 89 = .ok (.if_icmp .ge 62, 3) := by decide +kernel
theorem dX6_makeStep_92 : decode cX6_makeStep 92 = .ok (.aload_n 0, 1) := by decide +kernel
theorem dX6_makeStep_93 : decode cX6_makeStep 93 = .ok (.iload 11, 2) := by decide +kernel
theorem dX6_makeStep_95 : decode cX6_makeStep 95 = .ok (.lload 9, 2) := by decide +kernel
theorem dX6_makeStep_97 : decode cX6_makeStep 97 = .ok (.lload 7, 2) := by decide +kernel
theorem dX6_makeStep_99 : decode cX6_makeStep 99 = .ok (.lload_n 1, 1) := by decide +kernel
theorem dX6_makeStep_100 : decode cX6_makeStep 100 = .ok (.invokevirtual 65, 3) := by decide +kernel
theorem dX6_makeStep_103 : decode cX6_makeStep 103 = .ok (.aload_n 0, 1) := by decide +kernel
theorem dX6_makeStep_104 : decode cX6_makeStep 104 = .ok (.getfield 9, 3) := by decide +kernel
theorem dX6_makeStep_107 : decode cX6_makeStep 107 = .ok (.iload 11, 2) := by decide +kernel
theorem dX6_makeStep_109 : decode cX6_makeStep 109 = .ok (.bipush 6, 2) := by decide +kernel
theorem dX6_makeStep_111 : decode cX6_makeStep 111 = .ok (.imul, 1) := by decide +kernel
theorem dX6_makeStep_112 : decode cX6_makeStep 112 = .ok (.iconst 0, 1) := by decide +kernel
theorem dX6_makeStep_113 : decode cX6_makeStep 113 = .ok (.iadd, 1) := by decide +kernel
theorem dX6_makeStep_114 : decode cX6_makeStep 114 = .ok (.laload, 1) := by decide +kernel
theorem dX6_makeStep_115 : decode cX6_makeStep 115 = .ok (.lstore 9, 2) := by decide +kernel
theorem dX6_makeStep_117 : decode cX6_makeStep 117 = .ok (.lload 9, 2) := by decide +kernel
theorem dX6_makeStep_119 : decode cX6_makeStep 119 = .ok (.invokestatic 69, 3) := by decide +kernel
theorem dX6_makeStep_122 : decode cX6_makeStep 122 = .ok (.ifCond .ne 21, 3) := by decide +kernel
theorem dX6_makeStep_125 : decode cX6_makeStep 125 = .ok (.aload_n 0, 1) := by decide +kernel
theorem dX6_makeStep_126 : decode cX6_makeStep 126 = .ok (.getfield 9, 3) := by decide +kernel
theorem dX6_makeStep_129 : decode cX6_makeStep 129 = .ok (.iload 11, 2) := by decide +kernel
theorem dX6_makeStep_131 : decode cX6_makeStep 131 = .ok (.bipush 6, 2) := by decide +kernel
theorem dX6_makeStep_133 : decode cX6_makeStep 133 = .ok (.imul, 1) := by decide +kernel
theorem dX6_makeStep_134 : decode cX6_makeStep 134 = .ok (.iconst 1, 1) := by decide +kernel
theorem dX6_makeStep_135 : decode cX6_makeStep 135 = .ok (.iadd, 1) := by decide +kernel
theorem dX6_makeStep_136 : decode cX6_makeStep 136 = .ok (.laload, 1) := by decide +kernel
theorem dX6_makeStep_137 : decode cX6_makeStep 137 = .ok (.invokestatic 69, 3) := by decide +kernel
theorem dX6_makeStep_140 : decode cX6_makeStep 140 = .ok (.ifCond .eq 5, 3) := by decide +kernel
theorem dX6_makeStep_143 : decode cX6_makeStep 143 = .ok (.iconst 0, 1) := by decide +kernel
theorem dX6_makeStep_144 : decode cX6_makeStep 144 = .ok (.ireturn, 1) := by decide +kernel
theorem dX6_makeStep_145 : decode cX6_makeStep 145 = .ok (.iinc 11 1, 3) := by decide +kernel
theorem dX6_makeStep_148 : decode cX6_makeStep 148 = .ok (.goto (-68), 3) := by decide +kernel
theorem dX6_makeStep_151 : decode cX6_makeStep 151 = .ok (.iconst 1, 1) := by decide +kernel
theorem dX6_makeStep_152 : decode cX6_makeStep 152 = .ok (.ireturn, 1) := by decide +kernel
theorem dX6_drawLot_0 : decode cX6_drawLot 0 = .ok (.aload_n 0, 1) := by decide +kernel
theorem dX6_drawLot_1 : decode cX6_drawLot 1 = .ok (.getfield 30, 3) := by decide +kernel
theorem dX6_drawLot_4 : decode cX6_drawLot 4 = .ok (.getfield 73, 3) := by decide +kernel
theorem dX6_drawLot_7 : decode cX6_drawLot 7 = .ok (.ifCond .gt 5, 3) := by decide +kernel
theorem dX6_drawLot_10 : decode cX6_drawLot 10 = .ok (.lconst 0, 1) := by decide +kernel
theorem dX6_drawLot_11 : decode cX6_drawLot 11 = .ok (.lreturn, 1) := by decide +kernel
theorem dX6_drawLot_12 : decode cX6_drawLot 12 = .ok (.aload_n 0, 1) := by decide +kernel
theorem dX6_drawLot_13 : decode cX6_drawLot 13 = .ok (.ldc2_w 76, 3) := by decide +kernel
theorem dX6_drawLot_16 : decode cX6_drawLot 16 = .ok (.aload_n 0, 1) := by decide +kernel
theorem dX6_drawLot_17 : decode cX6_drawLot 17 = .ok (.getfield 23, 3) := by decide +kernel
theorem dX6_drawLot_20 : decode cX6_drawLot 20 = .ok (.lmul, 1) := by decide +kernel
theorem dX6_drawLot_21 : decode cX6_drawLot 21 = .ok (.ldc2_w 78, 3) := by decide +kernel
theorem dX6_drawLot_24 : decode cX6_drawLot 24 = .ok (.ladd, 1) := by decide +kernel
theorem dX6_drawLot_25 : decode cX6_drawLot 25 = .ok (.putfield 23, 3) := by decide +kernel
theorem dX6_drawLot_28 : decode cX6_drawLot 28 = .ok (.aload_n 0, 1) := by decide +kernel
theorem dX6_drawLot_29 : decode cX6_drawLot 29 = .ok (.getfield 23, 3) := by decide +kernel
theorem dX6_drawLot_32 : decode cX6_drawLot 32 = .ok (.bipush 33, 2) := by decide +kernel
theorem dX6_drawLot_34 : decode cX6_drawLot 34 = .ok (.lushr, 1) := by decide +kernel
theorem dX6_drawLot_35 : decode cX6_drawLot 35 = .ok (.ldc2_w 80, 3) := by decide +kernel
theorem dX6_drawLot_38 : decode cX6_drawLot 38 = .ok (.aload_n 0, 1) := by decide +kernel
theorem dX6_drawLot_39 : decode cX6_drawLot 39 = .ok (.getfield 30, 3) := by decide +kernel
theorem dX6_drawLot_42 : decode cX6_drawLot 42 = .ok (.getfield 73, 3) := by decide +kernel
theorem dX6_drawLot_45 : decode cX6_drawLot 45 = .ok (.i2l, 1) := by decide +kernel
theorem dX6_drawLot_46 : decode cX6_drawLot 46 = .ok (.lmul, 1) := by decide +kernel
theorem dX6_drawLot_47 : decode cX6_drawLot 47 = .ok (.lconst 1, 1) := by decide +kernel
theorem dX6_drawLot_48 : decode cX6_drawLot 48 = .ok (.ladd, 1) := by decide +kernel
theorem dX6_drawLot_49 : decode cX6_drawLot 49 = .ok (.lrem, 1) := by decide +kernel
theorem dX6_drawLot_50 : decode cX6_drawLot 50 = .ok (.aload_n 0, 1) := by decide +kernel
theorem dX6_drawLot_51 : decode cX6_drawLot 51 = .ok (.getfield 30, 3) := by decide +kernel
theorem dX6_drawLot_54 : decode cX6_drawLot 54 = .ok (.getfield 73, 3) := by decide +kernel
theorem dX6_drawLot_57 : decode cX6_drawLot 57 = .ok (.i2l, 1) := by decide +kernel
theorem dX6_drawLot_58 : decode cX6_drawLot 58 = .ok (.lsub, 1) := by decide +kernel
theorem dX6_drawLot_59 : decode cX6_drawLot 59 = .ok (.lreturn, 1) := by decide +kernel
theorem dX6_takeStage_0 : decode cX6_takeStage 0 = .ok (.aload_n 0, 1) := by decide +kernel
theorem dX6_takeStage_1 : decode cX6_takeStage 1 = .ok (.getfield 30, 3) := by decide +kernel
theorem dX6_takeStage_4 : decode cX6_takeStage 4 = .ok (.getfield 82, 3) := by decide +kernel
theorem dX6_takeStage_7 : decode cX6_takeStage 7 = .ok (.iload_n 1, 1) := by decide +kernel
theorem dX6_takeStage_8 : decode cX6_takeStage 8 = .ok (.iaload, 1) := by decide +kernel
theorem dX6_takeStage_9 : decode cX6_takeStage 9 = .ok (.istore 8, 2) := by decide +kernel
theorem dX6_takeStage_11 : decode cX6_takeStage 11 = .ok (.iload 8, 2) := by decide +kernel
theorem dX6_takeStage_13 : decode cX6_takeStage 13 = .ok (.iconst 1, 1) := by decide +kernel
theorem dX6_takeStage_14 : decode cX6_takeStage 14 = .ok (.if_icmp .eq 9, 3) := by decide +kernel
theorem dX6_takeStage_17 : decode cX6_takeStage 17 = .ok (.iload 8, 2) := by decide +kernel
theorem dX6_takeStage_19 : decode cX6_takeStage 19 = .ok (.iconst 4, 1) := by decide +kernel
theorem dX6_takeStage_20 : decode cX6_takeStage 20 = .ok (.if_icmp .ne 7, 3) := by decide +kernel
theorem dX6_takeStage_23 : decode cX6_takeStage 23 = .ok (.iconst 1, 1) := by decide +kernel
theorem dX6_takeStage_24 : decode cX6_takeStage 24 = .ok (.goto 4, 3) := by decide +kernel
theorem dX6_takeStage_27 : decode cX6_takeStage 27 = .ok (.iconst 0, 1) := by decide +kernel
theorem dX6_takeStage_28 : decode cX6_takeStage 28 = .ok (.istore 9, 2) := by decide +kernel
theorem dX6_takeStage_30 : decode cX6_takeStage 30 = .ok (.iload 8, 2) := by decide +kernel
theorem dX6_takeStage_32 : decode cX6_takeStage 32 = .ok (.iconst 2, 1) := by decide +kernel
theorem dX6_takeStage_33 : decode cX6_takeStage 33 = .ok (.if_icmp .eq 9, 3) := by decide +kernel
theorem dX6_takeStage_36 : decode cX6_takeStage 36 = .ok (.iload 8, 2) := by decide +kernel
theorem dX6_takeStage_38 : decode cX6_takeStage 38 = .ok (.iconst 3, 1) := by decide +kernel
theorem dX6_takeStage_39 : decode cX6_takeStage 39 = .ok (.if_icmp .ne 7, 3) := by decide +kernel
theorem dX6_takeStage_42 : decode cX6_takeStage 42 = .ok (.iconst 1, 1) := by decide +kernel
theorem dX6_takeStage_43 : decode cX6_takeStage 43 = .ok (.goto 4, 3) := by decide +kernel
theorem dX6_takeStage_46 : decode cX6_takeStage 46 = .ok (.iconst 0, 1) := by decide +kernel
theorem dX6_takeStage_47 : decode cX6_takeStage 47 = .ok (.istore 10, 2) := by decide +kernel
theorem dX6_takeStage_49 : decode cX6_takeStage 49 = .ok (.lload_n 2, 1) := by decide +kernel
theorem dX6_takeStage_50 : decode cX6_takeStage 50 = .ok (.lstore 11, 2) := by decide +kernel
theorem dX6_takeStage_52 : decode cX6_takeStage 52 = .ok (.iload 8, 2) := by decide +kernel
theorem dX6_takeStage_54 : decode cX6_takeStage 54 = .ok (.iconst 3, 1) := by decide +kernel
theorem dX6_takeStage_55 : decode cX6_takeStage 55 = .ok (.if_icmp .ne 18, 3) := by decide +kernel
theorem dX6_takeStage_58 : decode cX6_takeStage 58 = .ok (.aload_n 0, 1) := by decide +kernel
theorem dX6_takeStage_59 : decode cX6_takeStage 59 = .ok (.iconst 3, 1) := by decide +kernel
theorem dX6_takeStage_60 : decode cX6_takeStage 60 = .ok (.invokevirtual 85, 3) := by decide +kernel
theorem dX6_takeStage_63 : decode cX6_takeStage 63 = .ok (.lload_n 2, 1) := by decide +kernel
theorem dX6_takeStage_64 : decode cX6_takeStage 64 = .ok (.aload_n 0, 1) := by decide +kernel
theorem dX6_takeStage_65 : decode cX6_takeStage 65 = .ok (.iload_n 1, 1) := by decide +kernel
theorem dX6_takeStage_66 : decode cX6_takeStage 66 = .ok (.iconst 1, 1) := by decide +kernel
theorem dX6_takeStage_67 : decode cX6_takeStage 67 = .ok (.invokevirtual 89, 3) := by decide +kernel
theorem dX6_takeStage_70 : decode cX6_takeStage 70 = .ok (.lsub, 1) := by decide +kernel
theorem dX6_takeStage_71 : decode cX6_takeStage 71 = .ok (.lstore 11, 2) := by decide +kernel
theorem dX6_takeStage_73 : decode cX6_takeStage 73 = .ok (.iload 8, 2) := by decide +kernel
theorem dX6_takeStage_75 : decode cX6_takeStage 75 = .ok (.iconst 4, 1) := by decide +kernel
theorem dX6_takeStage_76 : decode cX6_takeStage 76 = .ok (.if_icmp .ne 25, 3) := by decide +kernel
theorem dX6_takeStage_79 : decode cX6_takeStage 79 = .ok (.aload_n 0, 1) := by decide +kernel
theorem dX6_takeStage_80 : decode cX6_takeStage 80 = .ok (.iconst 4, 1) := by decide +kernel
theorem dX6_takeStage_81 : decode cX6_takeStage 81 = .ok (.invokevirtual 85, 3) := by decide +kernel
theorem dX6_takeStage_84 : decode cX6_takeStage 84 = .ok (.lload_n 2, 1) := by decide +kernel
theorem dX6_takeStage_85 : decode cX6_takeStage 85 = .ok (.aload_n 0, 1) := by decide +kernel
theorem dX6_takeStage_86 : decode cX6_takeStage 86 = .ok (.getfield 30, 3) := by decide +kernel
theorem dX6_takeStage_89 : decode cX6_takeStage 89 = .ok (.getfield 93, 3) := by decide +kernel
theorem dX6_takeStage_92 : decode cX6_takeStage 92 = .ok (.iload_n 1, 1) := by decide +kernel
theorem dX6_takeStage_93 : decode cX6_takeStage 93 = .ok (.iaload, 1) := by decide +kernel
theorem dX6_takeStage_94 : decode cX6_takeStage 94 = .ok (.i2l, 1) := by decide +kernel
theorem dX6_takeStage_95 : decode cX6_takeStage 95 = .ok (.lload 6, 2) := by decide +kernel
theorem dX6_takeStage_97 : decode cX6_takeStage 97 = .ok (.lmul, 1) := by decide +kernel
theorem dX6_takeStage_98 : decode cX6_takeStage 98 = .ok (.ladd, 1) := by decide +kernel
theorem dX6_takeStage_99 : decode cX6_takeStage 99 = .ok (.lstore 11, 2) := by decide +kernel
theorem dX6_takeStage_101 : decode cX6_takeStage 101 = .ok (.iload 9, 2) := by decide +kernel
theorem dX6_takeStage_103 : decode cX6_takeStage 103 = .ok (.ifCond .eq 13, 3) := by decide +kernel
theorem dX6_takeStage_106 : decode cX6_takeStage 106 = .ok (.aload_n 0, 1) := by decide +kernel
theorem dX6_takeStage_107 : decode cX6_takeStage 107 = .ok (.iconst 1, 1) := by decide +kernel
theorem dX6_takeStage_108 : decode cX6_takeStage 108 = .ok (.invokevirtual 85, 3) := by decide +kernel
theorem dX6_takeStage_111 : decode cX6_takeStage 111 = .ok (.aload_n 0, 1) := by decide +kernel
theorem dX6_takeStage_112 : decode cX6_takeStage 112 = .ok (.iload_n 1, 1) := by decide +kernel
theorem dX6_takeStage_113 : decode cX6_takeStage 113 = .ok (.invokevirtual 96, 3) := by decide +kernel
theorem dX6_takeStage_116 : decode cX6_takeStage 116 = .ok (.iload 10, 2) := by decide +kernel
theorem dX6_takeStage_118 : decode cX6_takeStage 118 = .ok (.ifCond .eq 8, 3) := by decide +kernel
theorem dX6_takeStage_121 : decode cX6_takeStage 121 = .ok (.aload_n 0, 1) := by decide +kernel
theorem dX6_takeStage_122 : decode cX6_takeStage 122 = .ok (.iconst 2, 1) := by decide +kernel
theorem dX6_takeStage_123 : decode cX6_takeStage 123 = .ok (.invokevirtual 85, 3) := by decide +kernel
theorem dX6_takeStage_126 : decode cX6_takeStage 126 = .ok (.aload_n 0, 1) := by decide +kernel
theorem dX6_takeStage_127 : decode cX6_takeStage 127 = .ok (.iconst 0, 1) := by decide +kernel
theorem dX6_takeStage_128 : decode cX6_takeStage 128 = .ok (.invokevirtual 85, 3) := by decide +kernel
theorem dX6_takeStage_131 : decode cX6_takeStage 131 = .ok (.aload_n 0, 1) := by decide +kernel
theorem dX6_takeStage_132 : decode cX6_takeStage 132 = .ok (.iload_n 1, 1) := by decide +kernel
theorem dX6_takeStage_133 : decode cX6_takeStage 133 = .ok (.lload 11, 2) := by decide +kernel
theorem dX6_takeStage_135 : decode cX6_takeStage 135 = .ok (.lload 4, 2) := by decide +kernel
theorem dX6_takeStage_137 : decode cX6_takeStage 137 = .ok (.invokevirtual 99, 3) := by decide +kernel
theorem dX6_takeStage_140 : decode cX6_takeStage 140 = .ok (.iload 10, 2) := by decide +kernel
theorem dX6_takeStage_142 : decode cX6_takeStage 142 = .ok (.ifCond .eq 8, 3) := by decide +kernel
theorem dX6_takeStage_145 : decode cX6_takeStage 145 = .ok (.aload_n 0, 1) := by decide +kernel
theorem dX6_takeStage_146 : decode cX6_takeStage 146 = .ok (.iload_n 1, 1) := by decide +kernel
theorem dX6_takeStage_147 : decode cX6_takeStage 147 = .ok (.invokevirtual 103, 3) := by decide +kernel
theorem dX6_takeStage_150 : decode cX6_takeStage 150 = .ok (.iload 8, 2) := by decide +kernel
theorem dX6_takeStage_152 : decode cX6_takeStage 152 = .ok (.iconst 3, 1) := by decide +kernel
theorem dX6_takeStage_153 : decode cX6_takeStage 153 = .ok (.if_icmp .ne 23, 3) := by decide +kernel
theorem dX6_takeStage_156 : decode cX6_takeStage 156 = .ok (.aload_n 0, 1) := by decide +kernel
theorem dX6_takeStage_157 : decode cX6_takeStage 157 = .ok (.getfield 9, 3) := by decide +kernel
theorem dX6_takeStage_160 : decode cX6_takeStage 160 = .ok (.iload_n 1, 1) := by decide +kernel
theorem dX6_takeStage_161 : decode cX6_takeStage 161 = .ok (.bipush 6, 2) := by decide +kernel
theorem dX6_takeStage_163 : decode cX6_takeStage 163 = .ok (.imul, 1) := by decide +kernel
theorem dX6_takeStage_164 : decode cX6_takeStage 164 = .ok (.iconst 1, 1) := by decide +kernel
theorem dX6_takeStage_165 : decode cX6_takeStage 165 = .ok (.iadd, 1) := by decide +kernel
theorem dX6_takeStage_166 : decode cX6_takeStage 166 = .ok (.dup2, 1) := by decide +kernel
theorem dX6_takeStage_167 : decode cX6_takeStage 167 = .ok (.laload, 1) := by decide +kernel
theorem dX6_takeStage_168 : decode cX6_takeStage 168 = .ok (.aload_n 0, 1) := by decide +kernel
theorem dX6_takeStage_169 : decode cX6_takeStage 169 = .ok (.iload_n 1, 1) := by decide +kernel
theorem dX6_takeStage_170 : decode cX6_takeStage 170 = .ok (.iconst 0, 1) := by decide +kernel
theorem dX6_takeStage_171 : decode cX6_takeStage 171 = .ok (.invokevirtual 89, 3) := by decide +kernel
theorem dX6_takeStage_174 : decode cX6_takeStage 174 = .ok (.ladd, 1) := by decide +kernel
theorem dX6_takeStage_175 : decode cX6_takeStage 175 = .ok (.lastore, 1) := by decide +kernel
theorem dX6_takeStage_176 : decode cX6_takeStage 176 = .ok (.return_, 1) := by decide +kernel
theorem dX6_addUp_0 : decode cX6_addUp 0 = .ok (.iload_n 1, 1) := by decide +kernel
theorem dX6_addUp_1 : decode cX6_addUp 1 = .ok (.bipush 6, 2) := by decide +kernel
theorem dX6_addUp_3 : decode cX6_addUp 3 = .ok (.imul, 1) := by decide +kernel
theorem dX6_addUp_4 : decode cX6_addUp 4 = .ok (.istore 6, 2) := by decide +kernel
theorem dX6_addUp_6 : decode cX6_addUp 6 = .ok (.aload_n 0, 1) := by decide +kernel
theorem dX6_addUp_7 : decode cX6_addUp 7 = .ok (.getfield 9, 3) := by decide +kernel
theorem dX6_addUp_10 : decode cX6_addUp 10 = .ok (.iload 6, 2) := by decide +kernel
theorem dX6_addUp_12 : decode cX6_addUp 12 = .ok (.iconst 2, 1) := by decide +kernel
theorem dX6_addUp_13 : decode cX6_addUp 13 = .ok (.iadd, 1) := by decide +kernel
theorem dX6_addUp_14 : decode cX6_addUp 14 = .ok (.dup2, 1) := by decide +kernel
theorem dX6_addUp_15 : decode cX6_addUp 15 = .ok (.laload, 1) := by decide +kernel
theorem dX6_addUp_16 : decode cX6_addUp 16 = .ok (.lload_n 2, 1) := by decide +kernel
theorem dX6_addUp_17 : decode cX6_addUp 17 = .ok (.ladd, 1) := by decide +kernel
theorem dX6_addUp_18 : decode cX6_addUp 18 = .ok (.lastore, 1) := by decide +kernel
theorem dX6_addUp_19 : decode cX6_addUp 19 = .ok (.aload_n 0, 1) := by decide +kernel
theorem dX6_addUp_20 : decode cX6_addUp 20 = .ok (.getfield 9, 3) := by decide +kernel
theorem dX6_addUp_23 : decode cX6_addUp 23 = .ok (.iload 6, 2) := by decide +kernel
theorem dX6_addUp_25 : decode cX6_addUp 25 = .ok (.iconst 3, 1) := by decide +kernel
theorem dX6_addUp_26 : decode cX6_addUp 26 = .ok (.iadd, 1) := by decide +kernel
theorem dX6_addUp_27 : decode cX6_addUp 27 = .ok (.dup2, 1) := by decide +kernel
theorem dX6_addUp_28 : decode cX6_addUp 28 = .ok (.laload, 1) := by decide +kernel
theorem dX6_addUp_29 : decode cX6_addUp 29 = .ok (.lload 4, 2) := by decide +kernel
theorem dX6_addUp_31 : decode cX6_addUp 31 = .ok (.ladd, 1) := by decide +kernel
theorem dX6_addUp_32 : decode cX6_addUp 32 = .ok (.lastore, 1) := by decide +kernel
theorem dX6_addUp_33 : decode cX6_addUp 33 = .ok (.aload_n 0, 1) := by decide +kernel
theorem dX6_addUp_34 : decode cX6_addUp 34 = .ok (.getfield 9, 3) := by decide +kernel
theorem dX6_addUp_37 : decode cX6_addUp 37 = .ok (.iload 6, 2) := by decide +kernel
theorem dX6_addUp_39 : decode cX6_addUp 39 = .ok (.iconst 0, 1) := by decide +kernel
theorem dX6_addUp_40 : decode cX6_addUp 40 = .ok (.iadd, 1) := by decide +kernel
theorem dX6_addUp_41 : decode cX6_addUp 41 = .ok (.dup2, 1) := by decide +kernel
theorem dX6_addUp_42 : decode cX6_addUp 42 = .ok (.laload, 1) := by decide +kernel
theorem dX6_addUp_43 : decode cX6_addUp 43 = .ok (.lload_n 2, 1) := by decide +kernel
theorem dX6_addUp_44 : decode cX6_addUp 44 = .ok (.lload 4, 2) := by decide +kernel
theorem dX6_addUp_46 : decode cX6_addUp 46 = .ok (.lsub, 1) := by decide +kernel
theorem dX6_addUp_47 : decode cX6_addUp 47 = .ok (.ladd, 1) := by decide +kernel
theorem dX6_addUp_48 : decode cX6_addUp 48 = .ok (.lastore, 1) := by decide +kernel
theorem dX6_addUp_49 : decode cX6_addUp 49 = .ok (.return_, 1) := by decide +kernel
theorem dX6_leak_0 : decode cX6_leak 0 = .ok (.iload_n 1, 1) := by decide +kernel
theorem dX6_leak_1 : decode cX6_leak 1 = .ok (.bipush 6, 2) := by decide +kernel
theorem dX6_leak_3 : decode cX6_leak 3 = .ok (.imul, 1) := by decide +kernel
theorem dX6_leak_4 : decode cX6_leak 4 = .ok (.istore_n 2, 1) := by decide +kernel
theorem dX6_leak_5 : decode cX6_leak 5 = .ok (.aload_n 0, 1) := by decide +kernel
theorem dX6_leak_6 : decode cX6_leak 6 = .ok (.getfield 9, 3) := by decide +kernel
theorem dX6_leak_9 : decode cX6_leak 9 = .ok (.iload_n 2, 1) := by decide +kernel
theorem dX6_leak_10 : decode cX6_leak 10 = .ok (.iconst 0, 1) := by decide +kernel
theorem dX6_leak_11 : decode cX6_leak 11 = .ok (.iadd, 1) := by decide +kernel
theorem dX6_leak_12 : decode cX6_leak 12 = .ok (.laload, 1) := by decide +kernel
theorem dX6_leak_13 : decode cX6_leak 13 = .ok (.aload_n 0, 1) := by decide +kernel
theorem dX6_leak_14 : decode cX6_leak 14 = .ok (.getfield 30, 3) := by decide +kernel
theorem dX6_leak_17 : decode cX6_leak 17 = .ok (.getfield 106, 3) := by decide +kernel
theorem dX6_leak_20 : decode cX6_leak 20 = .ok (.iload_n 1, 1) := by decide +kernel
theorem dX6_leak_21 : decode cX6_leak 21 = .ok (.laload, 1) := by decide +kernel
theorem dX6_leak_22 : decode cX6_leak 22 = .ok (.lmul, 1) := by decide +kernel
theorem dX6_leak_23 : decode cX6_leak 23 = .ok (.ldc2_w 109, 3) := by decide +kernel
theorem dX6_leak_26 : decode cX6_leak 26 = .ok (.ldiv, 1) := by decide +kernel
theorem dX6_leak_27 : decode cX6_leak 27 = .ok (.lstore_n 3, 1) := by decide +kernel
theorem dX6_leak_28 : decode cX6_leak 28 = .ok (.aload_n 0, 1) := by decide +kernel
theorem dX6_leak_29 : decode cX6_leak 29 = .ok (.getfield 9, 3) := by decide +kernel
theorem dX6_leak_32 : decode cX6_leak 32 = .ok (.iload_n 2, 1) := by decide +kernel
theorem dX6_leak_33 : decode cX6_leak 33 = .ok (.iconst 4, 1) := by decide +kernel
theorem dX6_leak_34 : decode cX6_leak 34 = .ok (.iadd, 1) := by decide +kernel
theorem dX6_leak_35 : decode cX6_leak 35 = .ok (.dup2, 1) := by decide +kernel
theorem dX6_leak_36 : decode cX6_leak 36 = .ok (.laload, 1) := by decide +kernel
theorem dX6_leak_37 : decode cX6_leak 37 = .ok (.lload_n 3, 1) := by decide +kernel
theorem dX6_leak_38 : decode cX6_leak 38 = .ok (.ladd, 1) := by decide +kernel
theorem dX6_leak_39 : decode cX6_leak 39 = .ok (.lastore, 1) := by decide +kernel
theorem dX6_leak_40 : decode cX6_leak 40 = .ok (.aload_n 0, 1) := by decide +kernel
theorem dX6_leak_41 : decode cX6_leak 41 = .ok (.getfield 9, 3) := by decide +kernel
theorem dX6_leak_44 : decode cX6_leak 44 = .ok (.iload_n 2, 1) := by decide +kernel
theorem dX6_leak_45 : decode cX6_leak 45 = .ok (.iconst 0, 1) := by decide +kernel
theorem dX6_leak_46 : decode cX6_leak 46 = .ok (.iadd, 1) := by decide +kernel
theorem dX6_leak_47 : decode cX6_leak 47 = .ok (.dup2, 1) := by decide +kernel
theorem dX6_leak_48 : decode cX6_leak 48 = .ok (.laload, 1) := by decide +kernel
theorem dX6_leak_49 : decode cX6_leak 49 = .ok (.lload_n 3, 1) := by decide +kernel
theorem dX6_leak_50 : decode cX6_leak 50 = .ok (.lsub, 1) := by decide +kernel
theorem dX6_leak_51 : decode cX6_leak 51 = .ok (.lastore, 1) := by decide +kernel
theorem dX6_leak_52 : decode cX6_leak 52 = .ok (.return_, 1) := by decide +kernel
theorem dX6_cutToBound_0 : decode cX6_cutToBound 0 = .ok (.iload_n 1, 1) := by decide +kernel
theorem dX6_cutToBound_1 : decode cX6_cutToBound 1 = .ok (.bipush 6, 2) := by decide +kernel
theorem dX6_cutToBound_3 : decode cX6_cutToBound 3 = .ok (.imul, 1) := by decide +kernel
theorem dX6_cutToBound_4 : decode cX6_cutToBound 4 = .ok (.istore_n 2, 1) := by decide +kernel
theorem dX6_cutToBound_5 : decode cX6_cutToBound 5 = .ok (.aload_n 0, 1) := by decide +kernel
theorem dX6_cutToBound_6 : decode cX6_cutToBound 6 = .ok (.getfield 30, 3) := by decide +kernel
theorem dX6_cutToBound_9 : decode cX6_cutToBound 9 = .ok (.getfield 106, 3) := by decide +kernel
theorem dX6_cutToBound_12 : decode cX6_cutToBound 12 = .ok (.iload_n 1, 1) := by decide +kernel
theorem dX6_cutToBound_13 : decode cX6_cutToBound 13 = .ok (.laload, 1) := by decide +kernel
theorem dX6_cutToBound_14 : decode cX6_cutToBound 14 = .ok (.lstore_n 3, 1) := by decide +kernel
theorem dX6_cutToBound_15 : decode cX6_cutToBound 15 = .ok (.aload_n 0, 1) := by decide +kernel
theorem dX6_cutToBound_16 : decode cX6_cutToBound 16 = .ok (.getfield 9, 3) := by decide +kernel
theorem dX6_cutToBound_19 : decode cX6_cutToBound 19 = .ok (.iload_n 2, 1) := by decide +kernel
theorem dX6_cutToBound_20 : decode cX6_cutToBound 20 = .ok (.iconst 0, 1) := by decide +kernel
theorem dX6_cutToBound_21 : decode cX6_cutToBound 21 = .ok (.iadd, 1) := by decide +kernel
theorem dX6_cutToBound_22 : decode cX6_cutToBound 22 = .ok (.laload, 1) := by decide +kernel
theorem dX6_cutToBound_23 : decode cX6_cutToBound 23 = .ok (.lstore 5, 2) := by decide +kernel
theorem dX6_cutToBound_25 : decode cX6_cutToBound 25 = .ok (.lload_n 3, 1) := by decide +kernel
theorem dX6_cutToBound_26 : decode cX6_cutToBound 26 = .ok (.lneg, 1) := by decide +kernel
theorem dX6_cutToBound_27 : decode cX6_cutToBound 27 = .ok (.lload_n 3, 1) := by decide +kernel
theorem dX6_cutToBound_28 : decode cX6_cutToBound 28 = .ok (.lload 5, 2) := by decide +kernel
theorem dX6_cutToBound_30 : decode cX6_cutToBound 30 = .ok (.invokestatic 111, 3) := by decide +kernel
theorem dX6_cutToBound_33 : decode cX6_cutToBound 33 = .ok (.invokestatic 117, 3) := by decide +kernel
theorem dX6_cutToBound_36 : decode cX6_cutToBound 36 = .ok (.lstore 7, 2) := by decide +kernel
theorem dX6_cutToBound_38 : decode cX6_cutToBound 38 = .ok (.aload_n 0, 1) := by decide +kernel
theorem dX6_cutToBound_39 : decode cX6_cutToBound 39 = .ok (.getfield 9, 3) := by decide +kernel
theorem dX6_cutToBound_42 : decode cX6_cutToBound 42 = .ok (.iload_n 2, 1) := by decide +kernel
theorem dX6_cutToBound_43 : decode cX6_cutToBound 43 = .ok (.iconst 0, 1) := by decide +kernel
theorem dX6_cutToBound_44 : decode cX6_cutToBound 44 = .ok (.iadd, 1) := by decide +kernel
theorem dX6_cutToBound_45 : decode cX6_cutToBound 45 = .ok (.lload 7, 2) := by decide +kernel
theorem dX6_cutToBound_47 : decode cX6_cutToBound 47 = .ok (.lastore, 1) := by decide +kernel
theorem dX6_cutToBound_48 : decode cX6_cutToBound 48 = .ok (.aload_n 0, 1) := by decide +kernel
theorem dX6_cutToBound_49 : decode cX6_cutToBound 49 = .ok (.getfield 9, 3) := by decide +kernel
theorem dX6_cutToBound_52 : decode cX6_cutToBound 52 = .ok (.iload_n 2, 1) := by decide +kernel
theorem dX6_cutToBound_53 : decode cX6_cutToBound 53 = .ok (.iconst 5, 1) := by decide +kernel
theorem dX6_cutToBound_54 : decode cX6_cutToBound 54 = .ok (.iadd, 1) := by decide +kernel
theorem dX6_cutToBound_55 : decode cX6_cutToBound 55 = .ok (.dup2, 1) := by decide +kernel
theorem dX6_cutToBound_56 : decode cX6_cutToBound 56 = .ok (.laload, 1) := by decide +kernel
theorem dX6_cutToBound_57 : decode cX6_cutToBound 57 = .ok (.lload 5, 2) := by decide +kernel
theorem dX6_cutToBound_59 : decode cX6_cutToBound 59 = .ok (.lload 7, 2) := by decide +kernel
theorem dX6_cutToBound_61 : decode cX6_cutToBound 61 = .ok (.lsub, 1) := by decide +kernel
theorem dX6_cutToBound_62 : decode cX6_cutToBound 62 = .ok (.ladd, 1) := by decide +kernel
theorem dX6_cutToBound_63 : decode cX6_cutToBound 63 = .ok (.lastore, 1) := by decide +kernel
theorem dX6_cutToBound_64 : decode cX6_cutToBound 64 = .ok (.return_, 1) := by decide +kernel
theorem dX6_turnedBy_0 : decode cX6_turnedBy 0 = .ok (.aload_n 0, 1) := by decide +kernel
theorem dX6_turnedBy_1 : decode cX6_turnedBy 1 = .ok (.getfield 9, 3) := by decide +kernel
theorem dX6_turnedBy_4 : decode cX6_turnedBy 4 = .ok (.iload_n 1, 1) := by decide +kernel
theorem dX6_turnedBy_5 : decode cX6_turnedBy 5 = .ok (.bipush 6, 2) := by decide +kernel
theorem dX6_turnedBy_7 : decode cX6_turnedBy 7 = .ok (.imul, 1) := by decide +kernel
theorem dX6_turnedBy_8 : decode cX6_turnedBy 8 = .ok (.iload_n 2, 1) := by decide +kernel
theorem dX6_turnedBy_9 : decode cX6_turnedBy 9 = .ok (.iadd, 1) := by decide +kernel
theorem dX6_turnedBy_10 : decode cX6_turnedBy 10 = .ok (.laload, 1) := by decide +kernel
theorem dX6_turnedBy_11 : decode cX6_turnedBy 11 = .ok (.aload_n 0, 1) := by decide +kernel
theorem dX6_turnedBy_12 : decode cX6_turnedBy 12 = .ok (.getfield 30, 3) := by decide +kernel
theorem dX6_turnedBy_15 : decode cX6_turnedBy 15 = .ok (.getfield 93, 3) := by decide +kernel
theorem dX6_turnedBy_18 : decode cX6_turnedBy 18 = .ok (.iload_n 1, 1) := by decide +kernel
theorem dX6_turnedBy_19 : decode cX6_turnedBy 19 = .ok (.iaload, 1) := by decide +kernel
theorem dX6_turnedBy_20 : decode cX6_turnedBy 20 = .ok (.i2l, 1) := by decide +kernel
theorem dX6_turnedBy_21 : decode cX6_turnedBy 21 = .ok (.lmul, 1) := by decide +kernel
theorem dX6_turnedBy_22 : decode cX6_turnedBy 22 = .ok (.ldc2_w 109, 3) := by decide +kernel
theorem dX6_turnedBy_25 : decode cX6_turnedBy 25 = .ok (.ldiv, 1) := by decide +kernel
theorem dX6_turnedBy_26 : decode cX6_turnedBy 26 = .ok (.lreturn, 1) := by decide +kernel
theorem dX6_mark_0 : decode cX6_mark 0 = .ok (.aload_n 0, 1) := by decide +kernel
theorem dX6_mark_1 : decode cX6_mark 1 = .ok (.getfield 19, 3) := by decide +kernel
theorem dX6_mark_4 : decode cX6_mark 4 = .ok (.bipush 15, 2) := by decide +kernel
theorem dX6_mark_6 : decode cX6_mark 6 = .ok (.if_icmp .ge 26, 3) := by decide +kernel
theorem dX6_mark_9 : decode cX6_mark 9 = .ok (.aload_n 0, 1) := by decide +kernel
theorem dX6_mark_10 : decode cX6_mark 10 = .ok (.getfield 15, 3) := by decide +kernel
theorem dX6_mark_13 : decode cX6_mark 13 = .ok (.aload_n 0, 1) := by decide +kernel
theorem dX6_mark_14 : decode cX6_mark 14 = .ok (.getfield 19, 3) := by decide +kernel
theorem dX6_mark_17 : decode cX6_mark 17 = .ok (.bipush 10, 2) := by decide +kernel
theorem dX6_mark_19 : decode cX6_mark 19 = .ok (.iload_n 1, 1) := by decide +kernel
theorem dX6_mark_20 : decode cX6_mark 20 = .ok (.iadd, 1) := by decide +kernel
theorem dX6_mark_21 : decode cX6_mark 21 = .ok (.iastore, 1) := by decide +kernel
theorem dX6_mark_22 : decode cX6_mark 22 = .ok (.aload_n 0, 1) := by decide +kernel
theorem dX6_mark_23 : decode cX6_mark 23 = .ok (.dup, 1) := by decide +kernel
theorem dX6_mark_24 : decode cX6_mark 24 = .ok (.getfield 19, 3) := by decide +kernel
theorem dX6_mark_27 : decode cX6_mark 27 = .ok (.iconst 1, 1) := by decide +kernel
theorem dX6_mark_28 : decode cX6_mark 28 = .ok (.iadd, 1) := by decide +kernel
theorem dX6_mark_29 : decode cX6_mark 29 = .ok (.putfield 19, 3) := by decide +kernel
theorem dX6_mark_32 : decode cX6_mark 32 = .ok (.return_, 1) := by decide +kernel
theorem dX6_isGreat_0 : decode cX6_isGreat 0 = .ok (.lload_n 0, 1) := by decide +kernel
theorem dX6_isGreat_1 : decode cX6_isGreat 1 = .ok (.ldc2_w 120, 3) := by decide +kernel
theorem dX6_isGreat_4 : decode cX6_isGreat 4 = .ok (.lcmp, 1) := by decide +kernel
theorem dX6_isGreat_5 : decode cX6_isGreat 5 = .ok (.ifCond .ge 11, 3) := by decide +kernel
theorem dX6_isGreat_8 : decode cX6_isGreat 8 = .ok (.lload_n 0, 1) := by decide +kernel
theorem dX6_isGreat_9 : decode cX6_isGreat 9 = .ok (.ldc2_w 122, 3) := by decide +kernel
theorem dX6_isGreat_12 : decode cX6_isGreat 12 = .ok (.lcmp, 1) := by decide +kernel
theorem dX6_isGreat_13 : decode cX6_isGreat 13 = .ok (.ifCond .gt 7, 3) := by decide +kernel
theorem dX6_isGreat_16 : decode cX6_isGreat 16 = .ok (.iconst 1, 1) := by decide +kernel
theorem dX6_isGreat_17 : decode cX6_isGreat 17 = .ok (.goto 4, 3) := by decide +kernel
theorem dX6_isGreat_20 : decode cX6_isGreat 20 = .ok (.iconst 0, 1) := by decide +kernel
theorem dX6_isGreat_21 : decode cX6_isGreat 21 = .ok (.ireturn, 1) := by decide +kernel
theorem dX7_init_0 : decode cX7_init 0 = .ok (.aload_n 0, 1) := by decide +kernel
theorem dX7_init_1 : decode cX7_init 1 = .ok (.invokespecial 3, 3) := by decide +kernel
theorem dX7_init_4 : decode cX7_init 4 = .ok (.aload_n 0, 1) := by decide +kernel
theorem dX7_init_5 : decode cX7_init 5 = .ok (.bipush 13, 2) := by decide +kernel
theorem dX7_init_7 : decode cX7_init 7 = .ok (.anewarray 9, 3) := by decide +kernel
theorem dX7_init_10 : decode cX7_init 10 = .ok (.putfield 11, 3) := by decide +kernel
theorem dX7_init_13 : decode cX7_init 13 = .ok (.aload_n 0, 1) := by decide +kernel
theorem dX7_init_14 : decode cX7_init 14 = .ok (.iconst 0, 1) := by decide +kernel
theorem dX7_init_15 : decode cX7_init 15 = .ok (.putfield 17, 3) := by decide +kernel
theorem dX7_init_18 : decode cX7_init 18 = .ok (.aload_n 0, 1) := by decide +kernel
theorem dX7_init_19 : decode cX7_init 19 = .ok (.lconst 0, 1) := by decide +kernel
theorem dX7_init_20 : decode cX7_init 20 = .ok (.putfield 21, 3) := by decide +kernel
theorem dX7_init_23 : decode cX7_init 23 = .ok (.aload_n 0, 1) := by decide +kernel
theorem dX7_init_24 : decode cX7_init 24 = .ok (.iconst 0, 1) := by decide +kernel
theorem dX7_init_25 : decode cX7_init 25 = .ok (.putfield 25, 3) := by decide +kernel
theorem dX7_init_28 : decode cX7_init 28 = .ok (.aload_n 0, 1) := by decide +kernel
theorem dX7_init_29 : decode cX7_init 29 = .ok (.iconst 0, 1) := by decide +kernel
theorem dX7_init_30 : decode cX7_init 30 = .ok (.putfield 28, 3) := by decide +kernel
theorem dX7_init_33 : decode cX7_init 33 = .ok (.aload_n 0, 1) := by decide +kernel
theorem dX7_init_34 : decode cX7_init 34 = .ok (.lconst 0, 1) := by decide +kernel
theorem dX7_init_35 : decode cX7_init 35 = .ok (.putfield 31, 3) := by decide +kernel
theorem dX7_init_38 : decode cX7_init 38 = .ok (.aload_n 0, 1) := by decide +kernel
theorem dX7_init_39 : decode cX7_init 39 = .ok (.lconst 0, 1) := by decide +kernel
theorem dX7_init_40 : decode cX7_init 40 = .ok (.putfield 34, 3) := by decide +kernel
theorem dX7_init_43 : decode cX7_init 43 = .ok (.aload_n 0, 1) := by decide +kernel
theorem dX7_init_44 : decode cX7_init 44 = .ok (.aload_n 1, 1) := by decide +kernel
theorem dX7_init_45 : decode cX7_init 45 = .ok (.putfield 37, 3) := by decide +kernel
theorem dX7_init_48 : decode cX7_init 48 = .ok (.iconst 0, 1) := by decide +kernel
theorem dX7_init_49 : decode cX7_init 49 = .ok (.istore_n 2, 1) := by decide +kernel
theorem dX7_init_50 : decode cX7_init 50 = .ok (.iload_n 2, 1) := by decide +kernel
theorem dX7_init_51 : decode cX7_init 51 = .ok (.bipush 12, 2) := by decide +kernel
theorem dX7_init_53 : decode cX7_init 53 = .ok (.if_icmp .gt 23, 3) := by decide +kernel
theorem dX7_init_56 : decode cX7_init 56 = .ok (.aload_n 0, 1) := by decide +kernel
theorem dX7_init_57 : decode cX7_init 57 = .ok (.getfield 11, 3) := by decide +kernel
theorem dX7_init_60 : decode cX7_init 60 = .ok (.iload_n 2, 1) := by decide +kernel
theorem dX7_init_61 : decode cX7_init 61 = .ok (.new 9, 3) := by decide +kernel
theorem dX7_init_64 : decode cX7_init 64 = .ok (.dup, 1) := by decide +kernel
theorem dX7_init_65 : decode cX7_init 65 = .ok (.aload_n 1, 1) := by decide +kernel
theorem dX7_init_66 : decode cX7_init 66 = .ok (.invokespecial 41, 3) := by decide +kernel
theorem dX7_init_69 : decode cX7_init 69 = .ok (.aastore, 1) := by decide +kernel
theorem dX7_init_70 : decode cX7_init 70 = .ok (.iinc 2 1, 3) := by decide +kernel
theorem dX7_init_73 : decode cX7_init 73 = .ok (.goto (-23), 3) := by decide +kernel
theorem dX7_init_76 : decode cX7_init 76 = .ok (.return_, 1) := by decide +kernel
theorem dX7_goThroughAll_0 : decode cX7_goThroughAll 0 = .ok (.iconst 1, 1) := by decide +kernel
theorem dX7_goThroughAll_1 : decode cX7_goThroughAll 1 = .ok (.iload_n 1, 1) := by decide +kernel
theorem dX7_goThroughAll_2 : decode cX7_goThroughAll 2 = .ok (.ishl, 1) := by decide +kernel
theorem dX7_goThroughAll_3 : decode cX7_goThroughAll 3 = .ok (.istore 6, 2) := by decide +kernel
theorem dX7_goThroughAll_5 : decode cX7_goThroughAll 5 = .ok (.aload_n 0, 1) := by decide +kernel
theorem dX7_goThroughAll_6 : decode cX7_goThroughAll 6 = .ok (.getfield 37, 3) := by decide +kernel
theorem dX7_goThroughAll_9 : decode cX7_goThroughAll 9 = .ok (.getfield 44, 3) := by decide +kernel
theorem dX7_goThroughAll_12 : decode cX7_goThroughAll 12 = .ok (.iconst 1, 1) := by decide +kernel
theorem dX7_goThroughAll_13 : decode cX7_goThroughAll 13 = .ok (.isub, 1) := by decide +kernel
theorem dX7_goThroughAll_14 : decode cX7_goThroughAll 14 = .ok (.bipush 6, 2) := by decide +kernel
theorem dX7_goThroughAll_16 : decode cX7_goThroughAll 16 = .ok (.imul, 1) := by decide +kernel
theorem dX7_goThroughAll_17 : decode cX7_goThroughAll 17 = .ok (.iconst 0, 1) := by decide +kernel
theorem dX7_goThroughAll_18 : decode cX7_goThroughAll 18 = .ok (.iadd, 1) := by decide +kernel
theorem dX7_goThroughAll_19 : decode cX7_goThroughAll 19 = .ok (.istore 7, 2) := by decide +kernel
theorem dX7_goThroughAll_21 : decode cX7_goThroughAll 21 = .ok (.ldc2_w 49, 3) := by decide +kernel
theorem dX7_goThroughAll_24 : decode cX7_goThroughAll 24 = .ok (.lstore 8, 2) := by decide +kernel
theorem dX7_goThroughAll_26 : decode cX7_goThroughAll 26 = .ok (.iconst 0, 1) := by decide +kernel
theorem dX7_goThroughAll_27 : decode cX7_goThroughAll 27 = .ok (.istore 10, 2) := by decide +kernel
theorem dX7_goThroughAll_29 : decode cX7_goThroughAll 29 = .ok (.aload_n 0, 1) := by decide +kernel
theorem dX7_goThroughAll_30 : decode cX7_goThroughAll 30 = .ok (.getfield 11, 3) := by decide +kernel
theorem dX7_goThroughAll_33 : decode cX7_goThroughAll 33 = .ok (.iconst 0, 1) := by decide +kernel
theorem dX7_goThroughAll_34 : decode cX7_goThroughAll 34 = .ok (.aaload, 1) := by decide +kernel
theorem dX7_goThroughAll_35 : decode cX7_goThroughAll 35 = .ok (.invokevirtual 51, 3) := by decide +kernel
theorem dX7_goThroughAll_38 : decode cX7_goThroughAll 38 = .ok (.iconst 0, 1) := by decide +kernel
theorem dX7_goThroughAll_39 : decode cX7_goThroughAll 39 = .ok (.istore 11, 2) := by decide +kernel
theorem dX7_goThroughAll_41 : decode cX7_goThroughAll 41 = .ok (.iload 11, 2) := by decide +kernel
theorem dX7_goThroughAll_43 : decode cX7_goThroughAll 43 = .ok (.iload 6, 2) := by decide +kernel
theorem dX7_goThroughAll_45 : decode cX7_goThroughAll 45 = .ok (.if_icmp .ge 79, 3) := by decide +kernel
theorem dX7_goThroughAll_48 : decode cX7_goThroughAll 48 = .ok (.iload 11, 2) := by decide +kernel
theorem dX7_goThroughAll_50 : decode cX7_goThroughAll 50 = .ok (.ifCond .ne 7, 3) := by decide +kernel
theorem dX7_goThroughAll_53 : decode cX7_goThroughAll 53 = .ok (.iconst 0, 1) := by decide +kernel
theorem dX7_goThroughAll_54 : decode cX7_goThroughAll 54 = .ok (.goto 12, 3) := by decide +kernel
theorem dX7_goThroughAll_57 : decode cX7_goThroughAll 57 = .ok (.iload_n 1, 1) := by decide +kernel
theorem dX7_goThroughAll_58 : decode cX7_goThroughAll 58 = .ok (.iconst 1, 1) := by decide +kernel
theorem dX7_goThroughAll_59 : decode cX7_goThroughAll 59 = .ok (.isub, 1) := by decide +kernel
theorem dX7_goThroughAll_60 : decode cX7_goThroughAll 60 = .ok (.iload 11, 2) := by decide +kernel
theorem dX7_goThroughAll_62 : decode cX7_goThroughAll 62 = .ok (.invokestatic 54, 3) := by decide +kernel
theorem dX7_goThroughAll_65 : decode cX7_goThroughAll 65 = .ok (.isub, 1) := by decide +kernel
theorem dX7_goThroughAll_66 : decode cX7_goThroughAll 66 = .ok (.istore 12, 2) := by decide +kernel
theorem dX7_goThroughAll_68 : decode cX7_goThroughAll 68 = .ok (.aload_n 0, 1) := by decide +kernel
theorem dX7_goThroughAll_69 : decode cX7_goThroughAll 69 = .ok (.iload 11, 2) := by decide +kernel
theorem dX7_goThroughAll_71 : decode cX7_goThroughAll 71 = .ok (.iload 12, 2) := by decide +kernel
theorem dX7_goThroughAll_73 : decode cX7_goThroughAll 73 = .ok (.iload_n 1, 1) := by decide +kernel
theorem dX7_goThroughAll_74 : decode cX7_goThroughAll 74 = .ok (.lload_n 2, 1) := by decide +kernel
theorem dX7_goThroughAll_75 : decode cX7_goThroughAll 75 = .ok (.lload 4, 2) := by decide +kernel
theorem dX7_goThroughAll_77 : decode cX7_goThroughAll 77 = .ok (.invokevirtual 60, 3) := by decide +kernel
theorem dX7_goThroughAll_80 : decode cX7_goThroughAll 80 = .ok (.ifCond .ne 5, 3) := by decide +kernel
theorem dX7_goThroughAll_83 : decode cX7_goThroughAll 83 = .ok (.iconst 0, 1) := by decide +kernel
theorem dX7_goThroughAll_84 : decode cX7_goThroughAll 84 = .ok (.ireturn, 1) := by decide +kernel
theorem dX7_goThroughAll_85 : decode cX7_goThroughAll 85 = .ok (.aload_n 0, 1) := by decide +kernel
theorem dX7_goThroughAll_86 : decode cX7_goThroughAll 86 = .ok (.getfield 11, 3) := by decide +kernel
theorem dX7_goThroughAll_89 : decode cX7_goThroughAll 89 = .ok (.iload_n 1, 1) := by decide +kernel
theorem dX7_goThroughAll_90 : decode cX7_goThroughAll 90 = .ok (.aaload, 1) := by decide +kernel
theorem dX7_goThroughAll_91 : decode cX7_goThroughAll 91 = .ok (.getfield 64, 3) := by decide +kernel
theorem dX7_goThroughAll_94 : decode cX7_goThroughAll 94 = .ok (.iload 7, 2) := by decide +kernel
theorem dX7_goThroughAll_96 : decode cX7_goThroughAll 96 = .ok (.laload, 1) := by decide +kernel
theorem dX7_goThroughAll_97 : decode cX7_goThroughAll 97 = .ok (.invokestatic 68, 3) := by decide +kernel
theorem dX7_goThroughAll_100 : decode cX7_goThroughAll 100 = .ok (.lstore 13, 2) := by decide +kernel
theorem dX7_goThroughAll_102 : decode cX7_goThroughAll 102 = .ok (.lload 13, 2) := by decide +kernel
theorem dX7_goThroughAll_104 : decode cX7_goThroughAll 104 = .ok (.lload 8, 2) := by decide +kernel
theorem dX7_goThroughAll_106 : decode cX7_goThroughAll 106 = .ok (.lcmp, 1) := by decide +kernel
theorem dX7_goThroughAll_107 : decode cX7_goThroughAll 107 = .ok (.ifCond .le 11, 3) := by decide +kernel
theorem dX7_goThroughAll_110 : decode cX7_goThroughAll 110 = .ok (.lload 13, 2) := by decide +kernel
theorem dX7_goThroughAll_112 : decode cX7_goThroughAll 112 = .ok (.lstore 8, 2) := by decide +kernel
theorem dX7_goThroughAll_114 : decode cX7_goThroughAll 114 = .ok (.iload 11, 2) := by decide +kernel
theorem dX7_goThroughAll_116 : decode cX7_goThroughAll 116 = .ok (.istore 10, 2) := by decide +kernel
theorem dX7_goThroughAll_118 : decode cX7_goThroughAll 118 = .ok (.iinc 11 1, 3) := by decide +kernel
theorem dX7_goThroughAll_121 : decode cX7_goThroughAll 121 = .ok (.goto (-80), 3) := by decide +kernel
theorem dX7_goThroughAll_124 : decode cX7_goThroughAll 124 = .ok (.aload_n 0, 1) := by decide +kernel
theorem dX7_goThroughAll_125 : decode cX7_goThroughAll 125 = .ok (.lload 8, 2) := by decide +kernel
theorem dX7_goThroughAll_127 : decode cX7_goThroughAll 127 = .ok (.putfield 21, 3) := by decide +kernel
theorem dX7_goThroughAll_130 : decode cX7_goThroughAll 130 = .ok (.aload_n 0, 1) := by decide +kernel
theorem dX7_goThroughAll_131 : decode cX7_goThroughAll 131 = .ok (.iload_n 1, 1) := by decide +kernel
theorem dX7_goThroughAll_132 : decode cX7_goThroughAll 132 = .ok (.putfield 25, 3) := by decide +kernel
theorem dX7_goThroughAll_135 : decode cX7_goThroughAll 135 = .ok (.aload_n 0, 1) := by decide +kernel
theorem dX7_goThroughAll_136 : decode cX7_goThroughAll 136 = .ok (.iload 10, 2) := by decide +kernel
theorem dX7_goThroughAll_138 : decode cX7_goThroughAll 138 = .ok (.putfield 28, 3) := by decide +kernel
theorem dX7_goThroughAll_141 : decode cX7_goThroughAll 141 = .ok (.aload_n 0, 1) := by decide +kernel
theorem dX7_goThroughAll_142 : decode cX7_goThroughAll 142 = .ok (.lload_n 2, 1) := by decide +kernel
theorem dX7_goThroughAll_143 : decode cX7_goThroughAll 143 = .ok (.putfield 31, 3) := by decide +kernel
theorem dX7_goThroughAll_146 : decode cX7_goThroughAll 146 = .ok (.aload_n 0, 1) := by decide +kernel
theorem dX7_goThroughAll_147 : decode cX7_goThroughAll 147 = .ok (.lload 4, 2) := by decide +kernel
theorem dX7_goThroughAll_149 : decode cX7_goThroughAll 149 = .ok (.putfield 34, 3) := by decide +kernel
theorem dX7_goThroughAll_152 : decode cX7_goThroughAll 152 = .ok (.iconst 1, 1) := by decide +kernel
theorem dX7_goThroughAll_153 : decode cX7_goThroughAll 153 = .ok (.ireturn, 1) := by decide +kernel
theorem dX7_goOn_0 : decode cX7_goOn 0 = .ok (.iload_n 2, 1) := by decide +kernel
theorem dX7_goOn_1 : decode cX7_goOn 1 = .ok (.istore 8, 2) := by decide +kernel
theorem dX7_goOn_3 : decode cX7_goOn 3 = .ok (.iload 8, 2) := by decide +kernel
theorem dX7_goOn_5 : decode cX7_goOn 5 = .ok (.iload_n 3, 1) := by decide +kernel
theorem dX7_goOn_6 : decode cX7_goOn 6 = .ok (.if_icmp .ge 62, 3) := by decide +kernel
theorem dX7_goOn_9 : decode cX7_goOn 9 = .ok (.aload_n 0, 1) := by decide +kernel
theorem dX7_goOn_10 : decode cX7_goOn 10 = .ok (.getfield 11, 3) := by decide +kernel
theorem dX7_goOn_13 : decode cX7_goOn 13 = .ok (.iload 8, 2) := by decide +kernel
theorem dX7_goOn_15 : decode cX7_goOn 15 = .ok (.iconst 1, 1) := by decide +kernel
theorem dX7_goOn_16 : decode cX7_goOn 16 = .ok (.iadd, 1) := by decide +kernel
theorem dX7_goOn_17 : decode cX7_goOn 17 = .ok (.aaload, 1) := by decide +kernel
theorem dX7_goOn_18 : decode cX7_goOn 18 = .ok (.aload_n 0, 1) := by decide +kernel
theorem dX7_goOn_19 : decode cX7_goOn 19 = .ok (.getfield 11, 3) := by decide +kernel
theorem dX7_goOn_22 : decode cX7_goOn 22 = .ok (.iload 8, 2) := by decide +kernel
theorem dX7_goOn_24 : decode cX7_goOn 24 = .ok (.aaload, 1) := by decide +kernel
theorem dX7_goOn_25 : decode cX7_goOn 25 = .ok (.invokevirtual 74, 3) := by decide +kernel
theorem dX7_goOn_28 : decode cX7_goOn 28 = .ok (.aload_n 0, 1) := by decide +kernel
theorem dX7_goOn_29 : decode cX7_goOn 29 = .ok (.getfield 11, 3) := by decide +kernel
theorem dX7_goOn_32 : decode cX7_goOn 32 = .ok (.iload 8, 2) := by decide +kernel
theorem dX7_goOn_34 : decode cX7_goOn 34 = .ok (.iconst 1, 1) := by decide +kernel
theorem dX7_goOn_35 : decode cX7_goOn 35 = .ok (.iadd, 1) := by decide +kernel
theorem dX7_goOn_36 : decode cX7_goOn 36 = .ok (.aaload, 1) := by decide +kernel
theorem dX7_goOn_37 : decode cX7_goOn 37 = .ok (.iload_n 1, 1) := by decide +kernel
theorem dX7_goOn_38 : decode cX7_goOn 38 = .ok (.iload 8, 2) := by decide +kernel
theorem dX7_goOn_40 : decode cX7_goOn 40 = .ok (.iload_n 3, 1) := by decide +kernel
theorem dX7_goOn_41 : decode cX7_goOn 41 = .ok (.invokestatic 78, 3) := by decide +kernel
theorem dX7_goOn_44 : decode cX7_goOn 44 = .ok (.ifCond .eq 8, 3) := by decide +kernel
theorem dX7_goOn_47 : decode cX7_goOn 47 = .ok (.lload 6, 2) := by decide +kernel
theorem dX7_goOn_49 : decode cX7_goOn 49 = .ok (.goto 5, 3) := by decide +kernel
theorem dX7_goOn_52 : decode cX7_goOn 52 = .ok (.lload 4, 2) := by decide +kernel
theorem dX7_goOn_54 : decode cX7_goOn 54 = .ok (.invokevirtual 82, 3) := by decide +kernel
theorem dX7_goOn_57 : decode cX7_goOn 57 = .ok (.ifCond .ne 5, 3) := by decide +kernel
theorem dX7_goOn_60 : decode cX7_goOn 60 = .ok (.iconst 0, 1) := by decide +kernel
theorem dX7_goOn_61 : decode cX7_goOn 61 = .ok (.ireturn, 1) := by decide +kernel
theorem dX7_goOn_62 : decode cX7_goOn 62 = .ok (.iinc 8 1, 3) := by decide +kernel
theorem dX7_goOn_65 : decode cX7_goOn 65 = .ok (.goto (-62), 3) := by decide +kernel
theorem dX7_goOn_68 : decode cX7_goOn 68 = .ok (.iconst 1, 1) := by decide +kernel
theorem dX7_goOn_69 : decode cX7_goOn 69 = .ok (.ireturn, 1) := by decide +kernel
theorem dX7_isOne_0 : decode cX7_isOne 0 = .ok (.iload_n 0, 1) := by decide +kernel
theorem dX7_isOne_1 : decode cX7_isOne 1 = .ok (.iload_n 2, 1) := by decide +kernel
theorem dX7_isOne_2 : decode cX7_isOne 2 = .ok (.iconst 1, 1) := by decide +kernel
theorem dX7_isOne_3 : decode cX7_isOne 3 = .ok (.isub, 1) := by decide +kernel
theorem dX7_isOne_4 : decode cX7_isOne 4 = .ok (.iload_n 1, 1) := by decide +kernel
theorem dX7_isOne_5 : decode cX7_isOne 5 = .ok (.isub, 1) := by decide +kernel
theorem dX7_isOne_6 : decode cX7_isOne 6 = .ok (.iushr, 1) := by decide +kernel
theorem dX7_isOne_7 : decode cX7_isOne 7 = .ok (.iconst 1, 1) := by decide +kernel
theorem dX7_isOne_8 : decode cX7_isOne 8 = .ok (.iand, 1) := by decide +kernel
theorem dX7_isOne_9 : decode cX7_isOne 9 = .ok (.iconst 1, 1) := by decide +kernel
theorem dX7_isOne_10 : decode cX7_isOne 10 = .ok (.if_icmp .ne 7, 3) := by decide +kernel
theorem dX7_isOne_13 : decode cX7_isOne 13 = .ok (.iconst 1, 1) := by decide +kernel
theorem dX7_isOne_14 : decode cX7_isOne 14 = .ok (.goto 4, 3) := by decide +kernel
theorem dX7_isOne_17 : decode cX7_isOne 17 = .ok (.iconst 0, 1) := by decide +kernel
theorem dX7_isOne_18 : decode cX7_isOne 18 = .ok (.ireturn, 1) := by decide +kernel
theorem dX7_sampleOf_0 : decode cX7_sampleOf 0 = .ok (.iload_n 1, 1) := by decide +kernel
theorem dX7_sampleOf_1 : decode cX7_sampleOf 1 = .ok (.ifCond .lt 11, 3) := by decide +kernel
theorem dX7_sampleOf_4 : decode cX7_sampleOf 4 = .ok (.iload_n 1, 1) := by decide +kernel
theorem dX7_sampleOf_5 : decode cX7_sampleOf 5 = .ok (.aload_n 0, 1) := by decide +kernel
theorem dX7_sampleOf_6 : decode cX7_sampleOf 6 = .ok (.getfield 25, 3) := by decide +kernel
theorem dX7_sampleOf_9 : decode cX7_sampleOf 9 = .ok (.if_icmp .lt 5, 3) := by decide +kernel
theorem dX7_sampleOf_12 : decode cX7_sampleOf 12 = .ok (.lconst 0, 1) := by decide +kernel
theorem dX7_sampleOf_13 : decode cX7_sampleOf 13 = .ok (.lreturn, 1) := by decide +kernel
theorem dX7_sampleOf_14 : decode cX7_sampleOf 14 = .ok (.aload_n 0, 1) := by decide +kernel
theorem dX7_sampleOf_15 : decode cX7_sampleOf 15 = .ok (.getfield 28, 3) := by decide +kernel
theorem dX7_sampleOf_18 : decode cX7_sampleOf 18 = .ok (.iload_n 1, 1) := by decide +kernel
theorem dX7_sampleOf_19 : decode cX7_sampleOf 19 = .ok (.aload_n 0, 1) := by decide +kernel
theorem dX7_sampleOf_20 : decode cX7_sampleOf 20 = .ok (.getfield 25, 3) := by decide +kernel
theorem dX7_sampleOf_23 : decode cX7_sampleOf 23 = .ok (.invokestatic 78, 3) := by decide +kernel
theorem dX7_sampleOf_26 : decode cX7_sampleOf 26 = .ok (.ifCond .eq 10, 3) := by decide +kernel
theorem dX7_sampleOf_29 : decode cX7_sampleOf 29 = .ok (.aload_n 0, 1) := by decide +kernel
theorem dX7_sampleOf_30 : decode cX7_sampleOf 30 = .ok (.getfield 34, 3) := by decide +kernel
theorem dX7_sampleOf_33 : decode cX7_sampleOf 33 = .ok (.goto 7, 3) := by decide +kernel
theorem dX7_sampleOf_36 : decode cX7_sampleOf 36 = .ok (.aload_n 0, 1) := by decide +kernel
theorem dX7_sampleOf_37 : decode cX7_sampleOf 37 = .ok (.getfield 31, 3) := by decide +kernel
theorem dX7_sampleOf_40 : decode cX7_sampleOf 40 = .ok (.lreturn, 1) := by decide +kernel
theorem dX8_init_0 : decode cX8_init 0 = .ok (.aload_n 0, 1) := by decide +kernel
theorem dX8_init_1 : decode cX8_init 1 = .ok (.invokespecial 3, 3) := by decide +kernel
theorem dX8_init_4 : decode cX8_init 4 = .ok (.aload_n 0, 1) := by decide +kernel
theorem dX8_init_5 : decode cX8_init 5 = .ok (.bipush 6, 2) := by decide +kernel
theorem dX8_init_7 : decode cX8_init 7 = .ok (.anewarray 9, 3) := by decide +kernel
theorem dX8_init_10 : decode cX8_init 10 = .ok (.putfield 11, 3) := by decide +kernel
theorem dX8_init_13 : decode cX8_init 13 = .ok (.iconst 0, 1) := by decide +kernel
theorem dX8_init_14 : decode cX8_init 14 = .ok (.istore_n 1, 1) := by decide +kernel
theorem dX8_init_15 : decode cX8_init 15 = .ok (.iload_n 1, 1) := by decide +kernel
theorem dX8_init_16 : decode cX8_init 16 = .ok (.bipush 6, 2) := by decide +kernel
theorem dX8_init_18 : decode cX8_init 18 = .ok (.if_icmp .ge 22, 3) := by decide +kernel
theorem dX8_init_21 : decode cX8_init 21 = .ok (.aload_n 0, 1) := by decide +kernel
theorem dX8_init_22 : decode cX8_init 22 = .ok (.getfield 11, 3) := by decide +kernel
theorem dX8_init_25 : decode cX8_init 25 = .ok (.iload_n 1, 1) := by decide +kernel
theorem dX8_init_26 : decode cX8_init 26 = .ok (.new 9, 3) := by decide +kernel
theorem dX8_init_29 : decode cX8_init 29 = .ok (.dup, 1) := by decide +kernel
theorem dX8_init_30 : decode cX8_init 30 = .ok (.invokespecial 15, 3) := by decide +kernel
theorem dX8_init_33 : decode cX8_init 33 = .ok (.aastore, 1) := by decide +kernel
theorem dX8_init_34 : decode cX8_init 34 = .ok (.iinc 1 1, 3) := by decide +kernel
theorem dX8_init_37 : decode cX8_init 37 = .ok (.goto (-22), 3) := by decide +kernel
theorem dX8_init_40 : decode cX8_init 40 = .ok (.aload_n 0, 1) := by decide +kernel
theorem dX8_init_41 : decode cX8_init 41 = .ok (.new 16, 3) := by decide +kernel
theorem dX8_init_44 : decode cX8_init 44 = .ok (.dup, 1) := by decide +kernel
theorem dX8_init_45 : decode cX8_init 45 = .ok (.invokespecial 18, 3) := by decide +kernel
theorem dX8_init_48 : decode cX8_init 48 = .ok (.putfield 19, 3) := by decide +kernel
theorem dX8_init_51 : decode cX8_init 51 = .ok (.aload_n 0, 1) := by decide +kernel
theorem dX8_init_52 : decode cX8_init 52 = .ok (.new 23, 3) := by decide +kernel
theorem dX8_init_55 : decode cX8_init 55 = .ok (.dup, 1) := by decide +kernel
theorem dX8_init_56 : decode cX8_init 56 = .ok (.invokespecial 25, 3) := by decide +kernel
theorem dX8_init_59 : decode cX8_init 59 = .ok (.putfield 26, 3) := by decide +kernel
theorem dX8_init_62 : decode cX8_init 62 = .ok (.new 30, 3) := by decide +kernel
theorem dX8_init_65 : decode cX8_init 65 = .ok (.dup, 1) := by decide +kernel
theorem dX8_init_66 : decode cX8_init 66 = .ok (.invokespecial 32, 3) := by decide +kernel
theorem dX8_init_69 : decode cX8_init 69 = .ok (.astore_n 1, 1) := by decide +kernel
theorem dX8_init_70 : decode cX8_init 70 = .ok (.aload_n 0, 1) := by decide +kernel
theorem dX8_init_71 : decode cX8_init 71 = .ok (.new 33, 3) := by decide +kernel
theorem dX8_init_74 : decode cX8_init 74 = .ok (.dup, 1) := by decide +kernel
theorem dX8_init_75 : decode cX8_init 75 = .ok (.aload_n 0, 1) := by decide +kernel
theorem dX8_init_76 : decode cX8_init 76 = .ok (.getfield 19, 3) := by decide +kernel
theorem dX8_init_79 : decode cX8_init 79 = .ok (.aload_n 1, 1) := by decide +kernel
theorem dX8_init_80 : decode cX8_init 80 = .ok (.invokespecial 35, 3) := by decide +kernel
theorem dX8_init_83 : decode cX8_init 83 = .ok (.putfield 38, 3) := by decide +kernel
theorem dX8_init_86 : decode cX8_init 86 = .ok (.aload_n 0, 1) := by decide +kernel
theorem dX8_init_87 : decode cX8_init 87 = .ok (.new 42, 3) := by decide +kernel
theorem dX8_init_90 : decode cX8_init 90 = .ok (.dup, 1) := by decide +kernel
theorem dX8_init_91 : decode cX8_init 91 = .ok (.aload_n 0, 1) := by decide +kernel
theorem dX8_init_92 : decode cX8_init 92 = .ok (.getfield 19, 3) := by decide +kernel
theorem dX8_init_95 : decode cX8_init 95 = .ok (.aload_n 1, 1) := by decide +kernel
theorem dX8_init_96 : decode cX8_init 96 = .ok (.invokespecial 44, 3) := by decide +kernel
theorem dX8_init_99 : decode cX8_init 99 = .ok (.putfield 45, 3) := by decide +kernel
theorem dX8_init_102 : decode cX8_init 102 = .ok (.aload_n 0, 1) := by decide +kernel
theorem dX8_init_103 : decode cX8_init 103 = .ok (.new 49, 3) := by decide +kernel
theorem dX8_init_106 : decode cX8_init 106 = .ok (.dup, 1) := by decide +kernel
theorem dX8_init_107 : decode cX8_init 107 = .ok (.aload_n 0, 1) := by decide +kernel
theorem dX8_init_108 : decode cX8_init 108 = .ok (.getfield 19, 3) := by decide +kernel
theorem dX8_init_111 : decode cX8_init 111 = .ok (.invokespecial 51, 3) := by decide +kernel
theorem dX8_init_114 : decode cX8_init 114 = .ok (.putfield 54, 3) := by decide +kernel
theorem dX8_init_117 : decode cX8_init 117 = .ok (.aload_n 0, 1) := by decide +kernel
theorem dX8_init_118 : decode cX8_init 118 = .ok (.bipush 8, 2) := by decide +kernel
theorem dX8_init_120 : decode cX8_init 120 = .ok (.newarray .int, 2) := by decide +kernel
theorem dX8_init_122 : decode cX8_init 122 = .ok (.putfield 58, 3) := by decide +kernel
theorem dX8_init_125 : decode cX8_init 125 = .ok (.aload_n 0, 1) := by decide +kernel
theorem dX8_init_126 : decode cX8_init 126 = .ok (.new 62, 3) := by decide +kernel
theorem dX8_init_129 : decode cX8_init 129 = .ok (.dup, 1) := by decide +kernel
theorem dX8_init_130 : decode cX8_init 130 = .ok (.aload_n 0, 1) := by decide +kernel
theorem dX8_init_131 : decode cX8_init 131 = .ok (.getfield 19, 3) := by decide +kernel
theorem dX8_init_134 : decode cX8_init 134 = .ok (.invokespecial 64, 3) := by decide +kernel
theorem dX8_init_137 : decode cX8_init 137 = .ok (.putfield 65, 3) := by decide +kernel
theorem dX8_init_140 : decode cX8_init 140 = .ok (.aload_n 0, 1) := by decide +kernel
theorem dX8_init_141 : decode cX8_init 141 = .ok (.new 62, 3) := by decide +kernel
theorem dX8_init_144 : decode cX8_init 144 = .ok (.dup, 1) := by decide +kernel
theorem dX8_init_145 : decode cX8_init 145 = .ok (.aload_n 0, 1) := by decide +kernel
theorem dX8_init_146 : decode cX8_init 146 = .ok (.getfield 19, 3) := by decide +kernel
theorem dX8_init_149 : decode cX8_init 149 = .ok (.invokespecial 64, 3) := by decide +kernel
theorem dX8_init_152 : decode cX8_init 152 = .ok (.putfield 69, 3) := by decide +kernel
theorem dX8_init_155 : decode cX8_init 155 = .ok (.aload_n 0, 1) := by decide +kernel
theorem dX8_init_156 : decode cX8_init 156 = .ok (.iconst 0, 1) := by decide +kernel
theorem dX8_init_157 : decode cX8_init 157 = .ok (.putfield 72, 3) := by decide +kernel
theorem dX8_init_160 : decode cX8_init 160 = .ok (.return_, 1) := by decide +kernel
theorem dX8_reel_0 : decode cX8_reel 0 = .ok (.iload_n 1, 1) := by decide +kernel
theorem dX8_reel_1 : decode cX8_reel 1 = .ok (.invokestatic 76, 3) := by decide +kernel
theorem dX8_reel_4 : decode cX8_reel 4 = .ok (.ifCond .eq 16, 3) := by decide +kernel
theorem dX8_reel_7 : decode cX8_reel 7 = .ok (.iload_n 2, 1) := by decide +kernel
theorem dX8_reel_8 : decode cX8_reel 8 = .ok (.invokestatic 80, 3) := by decide +kernel
theorem dX8_reel_11 : decode cX8_reel 11 = .ok (.ifCond .eq 9, 3) := by decide +kernel
theorem dX8_reel_14 : decode cX8_reel 14 = .ok (.iload_n 3, 1) := by decide +kernel
theorem dX8_reel_15 : decode cX8_reel 15 = .ok (.bipush 60, 2) := by decide +kernel
theorem dX8_reel_17 : decode cX8_reel 17 = .ok (.if_icmp .le 6, 3) := by decide +kernel
theorem dX8_reel_20 : decode cX8_reel 20 = .ok (.bipush (-2), 2) := by decide +kernel
theorem dX8_reel_22 : decode cX8_reel 22 = .ok (.ireturn, 1) := by decide +kernel
theorem dX8_reel_23 : decode cX8_reel 23 = .ok (.iload_n 3, 1) := by decide +kernel
theorem dX8_reel_24 : decode cX8_reel 24 = .ok (.ifCond .ge 9, 3) := by decide +kernel
theorem dX8_reel_27 : decode cX8_reel 27 = .ok (.aload_n 0, 1) := by decide +kernel
theorem dX8_reel_28 : decode cX8_reel 28 = .ok (.iconst 5, 1) := by decide +kernel
theorem dX8_reel_29 : decode cX8_reel 29 = .ok (.invokevirtual 83, 3) := by decide +kernel
theorem dX8_reel_32 : decode cX8_reel 32 = .ok (.ireturn, 1) := by decide +kernel
theorem dX8_reel_33 : decode cX8_reel 33 = .ok (.aload_n 0, 1) := by decide +kernel
theorem dX8_reel_34 : decode cX8_reel 34 = .ok (.getfield 11, 3) := by decide +kernel
theorem dX8_reel_37 : decode cX8_reel 37 = .ok (.iload_n 1, 1) := by decide +kernel
theorem dX8_reel_38 : decode cX8_reel 38 = .ok (.aaload, 1) := by decide +kernel
theorem dX8_reel_39 : decode cX8_reel 39 = .ok (.iload_n 2, 1) := by decide +kernel
theorem dX8_reel_40 : decode cX8_reel 40 = .ok (.iload_n 3, 1) := by decide +kernel
theorem dX8_reel_41 : decode cX8_reel 41 = .ok (.invokevirtual 87, 3) := by decide +kernel
theorem dX8_reel_44 : decode cX8_reel 44 = .ok (.iload_n 3, 1) := by decide +kernel
theorem dX8_reel_45 : decode cX8_reel 45 = .ok (.ireturn, 1) := by decide +kernel
theorem dX8_lose_0 : decode cX8_lose 0 = .ok (.iload_n 1, 1) := by decide +kernel
theorem dX8_lose_1 : decode cX8_lose 1 = .ok (.invokestatic 76, 3) := by decide +kernel
theorem dX8_lose_4 : decode cX8_lose 4 = .ok (.ifCond .ne 6, 3) := by decide +kernel
theorem dX8_lose_7 : decode cX8_lose 7 = .ok (.bipush (-2), 2) := by decide +kernel
theorem dX8_lose_9 : decode cX8_lose 9 = .ok (.ireturn, 1) := by decide +kernel
theorem dX8_lose_10 : decode cX8_lose 10 = .ok (.aload_n 0, 1) := by decide +kernel
theorem dX8_lose_11 : decode cX8_lose 11 = .ok (.getfield 11, 3) := by decide +kernel
theorem dX8_lose_14 : decode cX8_lose 14 = .ok (.iload_n 1, 1) := by decide +kernel
theorem dX8_lose_15 : decode cX8_lose 15 = .ok (.aaload, 1) := by decide +kernel
theorem dX8_lose_16 : decode cX8_lose 16 = .ok (.getfield 91, 3) := by decide +kernel
end
section
theorem dX8_lose_19 : decode cX8_lose 19 = .ok (.ifCond .eq 9, 3) := by decide +kernel
theorem dX8_lose_22 : decode cX8_lose 22 = .ok (.aload_n 0, 1) := by decide +kernel
theorem dX8_lose_23 : decode cX8_lose 23 = .ok (.iconst 1, 1) := by decide +kernel
theorem dX8_lose_24 : decode cX8_lose 24 = .ok (.invokevirtual 83, 3) := by decide +kernel
theorem dX8_lose_27 : decode cX8_lose 27 = .ok (.ireturn, 1) := by decide +kernel
theorem dX8_lose_28 : decode cX8_lose 28 = .ok (.aload_n 0, 1) := by decide +kernel
theorem dX8_lose_29 : decode cX8_lose 29 = .ok (.getfield 11, 3) := by decide +kernel
theorem dX8_lose_32 : decode cX8_lose 32 = .ok (.iload_n 1, 1) := by decide +kernel
theorem dX8_lose_33 : decode cX8_lose 33 = .ok (.aaload, 1) := by decide +kernel
theorem dX8_lose_34 : decode cX8_lose 34 = .ok (.iconst 1, 1) := by decide +kernel
theorem dX8_lose_35 : decode cX8_lose 35 = .ok (.putfield 91, 3) := by decide +kernel
theorem dX8_lose_38 : decode cX8_lose 38 = .ok (.aload_n 0, 1) := by decide +kernel
theorem dX8_lose_39 : decode cX8_lose 39 = .ok (.getfield 11, 3) := by decide +kernel
theorem dX8_lose_42 : decode cX8_lose 42 = .ok (.iload_n 1, 1) := by decide +kernel
theorem dX8_lose_43 : decode cX8_lose 43 = .ok (.aaload, 1) := by decide +kernel
theorem dX8_lose_44 : decode cX8_lose 44 = .ok (.getfield 95, 3) := by decide +kernel
theorem dX8_lose_47 : decode cX8_lose 47 = .ok (.ireturn, 1) := by decide +kernel
theorem dX8_put_0 : decode cX8_put 0 = .ok (.aload_n 0, 1) := by decide +kernel
theorem dX8_put_1 : decode cX8_put 1 = .ok (.iload_n 1, 1) := by decide +kernel
theorem dX8_put_2 : decode cX8_put 2 = .ok (.iload_n 2, 1) := by decide +kernel
theorem dX8_put_3 : decode cX8_put 3 = .ok (.iload_n 3, 1) := by decide +kernel
theorem dX8_put_4 : decode cX8_put 4 = .ok (.invokevirtual 98, 3) := by decide +kernel
theorem dX8_put_7 : decode cX8_put 7 = .ok (.istore 6, 2) := by decide +kernel
theorem dX8_put_9 : decode cX8_put 9 = .ok (.iload 6, 2) := by decide +kernel
theorem dX8_put_11 : decode cX8_put 11 = .ok (.ifCond .eq 6, 3) := by decide +kernel
theorem dX8_put_14 : decode cX8_put 14 = .ok (.iload 6, 2) := by decide +kernel
theorem dX8_put_16 : decode cX8_put 16 = .ok (.ireturn, 1) := by decide +kernel
theorem dX8_put_17 : decode cX8_put 17 = .ok (.aload_n 0, 1) := by decide +kernel
theorem dX8_put_18 : decode cX8_put 18 = .ok (.getfield 11, 3) := by decide +kernel
theorem dX8_put_21 : decode cX8_put 21 = .ok (.iload_n 1, 1) := by decide +kernel
theorem dX8_put_22 : decode cX8_put 22 = .ok (.aaload, 1) := by decide +kernel
theorem dX8_put_23 : decode cX8_put 23 = .ok (.getfield 102, 3) := by decide +kernel
theorem dX8_put_26 : decode cX8_put 26 = .ok (.iload_n 3, 1) := by decide +kernel
theorem dX8_put_27 : decode cX8_put 27 = .ok (.iload_n 2, 1) := by decide +kernel
theorem dX8_put_28 : decode cX8_put 28 = .ok (.lload 4, 2) := by decide +kernel
theorem dX8_put_30 : decode cX8_put 30 = .ok (.invokestatic 106, 3) := by decide +kernel
theorem dX8_put_33 : decode cX8_put 33 = .ok (.lastore, 1) := by decide +kernel
theorem dX8_put_34 : decode cX8_put 34 = .ok (.iconst 1, 1) := by decide +kernel
theorem dX8_put_35 : decode cX8_put 35 = .ok (.ireturn, 1) := by decide +kernel
theorem dX8_get_0 : decode cX8_get 0 = .ok (.aload_n 0, 1) := by decide +kernel
theorem dX8_get_1 : decode cX8_get 1 = .ok (.iload_n 1, 1) := by decide +kernel
theorem dX8_get_2 : decode cX8_get 2 = .ok (.iload_n 2, 1) := by decide +kernel
theorem dX8_get_3 : decode cX8_get 3 = .ok (.iload_n 3, 1) := by decide +kernel
theorem dX8_get_4 : decode cX8_get 4 = .ok (.invokevirtual 98, 3) := by decide +kernel
theorem dX8_get_7 : decode cX8_get 7 = .ok (.ifCond .eq 5, 3) := by decide +kernel
theorem dX8_get_10 : decode cX8_get 10 = .ok (.lconst 0, 1) := by decide +kernel
theorem dX8_get_11 : decode cX8_get 11 = .ok (.lreturn, 1) := by decide +kernel
theorem dX8_get_12 : decode cX8_get 12 = .ok (.aload_n 0, 1) := by decide +kernel
theorem dX8_get_13 : decode cX8_get 13 = .ok (.getfield 11, 3) := by decide +kernel
theorem dX8_get_16 : decode cX8_get 16 = .ok (.iload_n 1, 1) := by decide +kernel
theorem dX8_get_17 : decode cX8_get 17 = .ok (.aaload, 1) := by decide +kernel
theorem dX8_get_18 : decode cX8_get 18 = .ok (.getfield 102, 3) := by decide +kernel
theorem dX8_get_21 : decode cX8_get 21 = .ok (.iload_n 3, 1) := by decide +kernel
theorem dX8_get_22 : decode cX8_get 22 = .ok (.laload, 1) := by decide +kernel
theorem dX8_get_23 : decode cX8_get 23 = .ok (.lreturn, 1) := by decide +kernel
theorem dX8_copy_0 : decode cX8_copy 0 = .ok (.iload_n 1, 1) := by decide +kernel
theorem dX8_copy_1 : decode cX8_copy 1 = .ok (.invokestatic 76, 3) := by decide +kernel
theorem dX8_copy_4 : decode cX8_copy 4 = .ok (.ifCond .eq 10, 3) := by decide +kernel
theorem dX8_copy_7 : decode cX8_copy 7 = .ok (.iload_n 3, 1) := by decide +kernel
theorem dX8_copy_8 : decode cX8_copy 8 = .ok (.invokestatic 76, 3) := by decide +kernel
theorem dX8_copy_11 : decode cX8_copy 11 = .ok (.ifCond .ne 6, 3) := by decide +kernel
theorem dX8_copy_14 : decode cX8_copy 14 = .ok (.bipush (-2), 2) := by decide +kernel
theorem dX8_copy_16 : decode cX8_copy 16 = .ok (.ireturn, 1) := by decide +kernel
theorem dX8_copy_17 : decode cX8_copy 17 = .ok (.aload_n 0, 1) := by decide +kernel
theorem dX8_copy_18 : decode cX8_copy 18 = .ok (.getfield 11, 3) := by decide +kernel
theorem dX8_copy_21 : decode cX8_copy 21 = .ok (.iload_n 1, 1) := by decide +kernel
theorem dX8_copy_22 : decode cX8_copy 22 = .ok (.aaload, 1) := by decide +kernel
theorem dX8_copy_23 : decode cX8_copy 23 = .ok (.astore 6, 2) := by decide +kernel
theorem dX8_copy_25 : decode cX8_copy 25 = .ok (.aload_n 0, 1) := by decide +kernel
theorem dX8_copy_26 : decode cX8_copy 26 = .ok (.getfield 11, 3) := by decide +kernel
theorem dX8_copy_29 : decode cX8_copy 29 = .ok (.iload_n 3, 1) := by decide +kernel
theorem dX8_copy_30 : decode cX8_copy 30 = .ok (.aaload, 1) := by decide +kernel
theorem dX8_copy_31 : decode cX8_copy 31 = .ok (.astore 7, 2) := by decide +kernel
theorem dX8_copy_33 : decode cX8_copy 33 = .ok (.aload 6, 2) := by decide +kernel
theorem dX8_copy_35 : decode cX8_copy 35 = .ok (.getfield 91, 3) := by decide +kernel
theorem dX8_copy_38 : decode cX8_copy 38 = .ok (.ifCond .ne 11, 3) := by decide +kernel
theorem dX8_copy_41 : decode cX8_copy 41 = .ok (.aload 7, 2) := by decide +kernel
theorem dX8_copy_43 : decode cX8_copy 43 = .ok (.getfield 91, 3) := by decide +kernel
theorem dX8_copy_46 : decode cX8_copy 46 = .ok (.ifCond .eq 9, 3) := by decide +kernel
theorem dX8_copy_49 : decode cX8_copy 49 = .ok (.aload_n 0, 1) := by decide +kernel
theorem dX8_copy_50 : decode cX8_copy 50 = .ok (.iconst 1, 1) := by decide +kernel
theorem dX8_copy_51 : decode cX8_copy 51 = .ok (.invokevirtual 83, 3) := by decide +kernel
theorem dX8_copy_54 : decode cX8_copy 54 = .ok (.ireturn, 1) := by decide +kernel
theorem dX8_copy_55 : decode cX8_copy 55 = .ok (.aload 6, 2) := by decide +kernel
theorem dX8_copy_57 : decode cX8_copy 57 = .ok (.getfield 110, 3) := by decide +kernel
theorem dX8_copy_60 : decode cX8_copy 60 = .ok (.aload 7, 2) := by decide +kernel
theorem dX8_copy_62 : decode cX8_copy 62 = .ok (.getfield 110, 3) := by decide +kernel
theorem dX8_copy_65 : decode cX8_copy 65 = .ok (.if_icmp .eq 9, 3) := by decide +kernel
theorem dX8_copy_68 : decode cX8_copy 68 = .ok (.aload_n 0, 1) := by decide +kernel
theorem dX8_copy_69 : decode cX8_copy 69 = .ok (.iconst 4, 1) := by decide +kernel
theorem dX8_copy_70 : decode cX8_copy 70 = .ok (.invokevirtual 83, 3) := by decide +kernel
theorem dX8_copy_73 : decode cX8_copy 73 = .ok (.ireturn, 1) := by decide +kernel
theorem dX8_copy_74 : decode cX8_copy 74 = .ok (.aload 6, 2) := by decide +kernel
theorem dX8_copy_76 : decode cX8_copy 76 = .ok (.iload_n 2, 1) := by decide +kernel
theorem dX8_copy_77 : decode cX8_copy 77 = .ok (.iload 5, 2) := by decide +kernel
theorem dX8_copy_79 : decode cX8_copy 79 = .ok (.invokevirtual 113, 3) := by decide +kernel
theorem dX8_copy_82 : decode cX8_copy 82 = .ok (.ifCond .eq 15, 3) := by decide +kernel
theorem dX8_copy_85 : decode cX8_copy 85 = .ok (.aload 7, 2) := by decide +kernel
theorem dX8_copy_87 : decode cX8_copy 87 = .ok (.iload 4, 2) := by decide +kernel
theorem dX8_copy_89 : decode cX8_copy 89 = .ok (.iload 5, 2) := by decide +kernel
theorem dX8_copy_91 : decode cX8_copy 91 = .ok (.invokevirtual 113, 3) := by decide +kernel
theorem dX8_copy_94 : decode cX8_copy 94 = .ok (.ifCond .ne 9, 3) := by decide +kernel
theorem dX8_copy_97 : decode cX8_copy 97 = .ok (.aload_n 0, 1) := by decide +kernel
theorem dX8_copy_98 : decode cX8_copy 98 = .ok (.iconst 2, 1) := by decide +kernel
theorem dX8_copy_99 : decode cX8_copy 99 = .ok (.invokevirtual 83, 3) := by decide +kernel
theorem dX8_copy_102 : decode cX8_copy 102 = .ok (.ireturn, 1) := by decide +kernel
theorem dX8_copy_103 : decode cX8_copy 103 = .ok (.aload 6, 2) := by decide +kernel
theorem dX8_copy_105 : decode cX8_copy 105 = .ok (.getfield 102, 3) := by decide +kernel
theorem dX8_copy_108 : decode cX8_copy 108 = .ok (.iload_n 2, 1) := by decide +kernel
theorem dX8_copy_109 : decode cX8_copy 109 = .ok (.aload 7, 2) := by decide +kernel
theorem dX8_copy_111 : decode cX8_copy 111 = .ok (.getfield 102, 3) := by decide +kernel
theorem dX8_copy_114 : decode cX8_copy 114 = .ok (.iload 4, 2) := by decide +kernel
theorem dX8_copy_116 : decode cX8_copy 116 = .ok (.iload 5, 2) := by decide +kernel
theorem dX8_copy_118 : decode cX8_copy 118 = .ok (.invokestatic 117, 3) := by decide +kernel
theorem dX8_copy_121 : decode cX8_copy 121 = .ok (.iconst 1, 1) := by decide +kernel
theorem dX8_copy_122 : decode cX8_copy 122 = .ok (.ireturn, 1) := by decide +kernel
theorem dX8_sample_0 : decode cX8_sample 0 = .ok (.iload_n 1, 1) := by decide +kernel
theorem dX8_sample_1 : decode cX8_sample 1 = .ok (.invokestatic 76, 3) := by decide +kernel
theorem dX8_sample_4 : decode cX8_sample 4 = .ok (.ifCond .ne 5, 3) := by decide +kernel
theorem dX8_sample_7 : decode cX8_sample 7 = .ok (.lconst 0, 1) := by decide +kernel
theorem dX8_sample_8 : decode cX8_sample 8 = .ok (.lreturn, 1) := by decide +kernel
theorem dX8_sample_9 : decode cX8_sample 9 = .ok (.aload_n 0, 1) := by decide +kernel
theorem dX8_sample_10 : decode cX8_sample 10 = .ok (.iload_n 1, 1) := by decide +kernel
theorem dX8_sample_11 : decode cX8_sample 11 = .ok (.iload_n 2, 1) := by decide +kernel
theorem dX8_sample_12 : decode cX8_sample 12 = .ok (.i2l, 1) := by decide +kernel
theorem dX8_sample_13 : decode cX8_sample 13 = .ok (.invokevirtual 123, 3) := by decide +kernel
theorem dX8_sample_16 : decode cX8_sample 16 = .ok (.ifCond .eq 5, 3) := by decide +kernel
theorem dX8_sample_19 : decode cX8_sample 19 = .ok (.lconst 0, 1) := by decide +kernel
theorem dX8_sample_20 : decode cX8_sample 20 = .ok (.lreturn, 1) := by decide +kernel
theorem dX8_sample_21 : decode cX8_sample 21 = .ok (.aload_n 0, 1) := by decide +kernel
theorem dX8_sample_22 : decode cX8_sample 22 = .ok (.getfield 11, 3) := by decide +kernel
theorem dX8_sample_25 : decode cX8_sample 25 = .ok (.iload_n 1, 1) := by decide +kernel
theorem dX8_sample_26 : decode cX8_sample 26 = .ok (.aaload, 1) := by decide +kernel
theorem dX8_sample_27 : decode cX8_sample 27 = .ok (.iload_n 2, 1) := by decide +kernel
theorem dX8_sample_28 : decode cX8_sample 28 = .ok (.aload_n 0, 1) := by decide +kernel
theorem dX8_sample_29 : decode cX8_sample 29 = .ok (.getfield 26, 3) := by decide +kernel
theorem dX8_sample_32 : decode cX8_sample 32 = .ok (.invokevirtual 127, 3) := by decide +kernel
theorem dX8_sample_35 : decode cX8_sample 35 = .ok (.invokevirtual 131, 3) := by decide +kernel
theorem dX8_sample_38 : decode cX8_sample 38 = .ok (.lreturn, 1) := by decide +kernel
theorem dX8_stage_0 : decode cX8_stage 0 = .ok (.iload_n 1, 1) := by decide +kernel
theorem dX8_stage_1 : decode cX8_stage 1 = .ok (.lload_n 2, 1) := by decide +kernel
theorem dX8_stage_2 : decode cX8_stage 2 = .ok (.iload 4, 2) := by decide +kernel
theorem dX8_stage_4 : decode cX8_stage 4 = .ok (.invokestatic 134, 3) := by decide +kernel
theorem dX8_stage_7 : decode cX8_stage 7 = .ok (.ifCond .ne 6, 3) := by decide +kernel
theorem dX8_stage_10 : decode cX8_stage 10 = .ok (.bipush (-2), 2) := by decide +kernel
theorem dX8_stage_12 : decode cX8_stage 12 = .ok (.ireturn, 1) := by decide +kernel
theorem dX8_stage_13 : decode cX8_stage 13 = .ok (.aload_n 0, 1) := by decide +kernel
theorem dX8_stage_14 : decode cX8_stage 14 = .ok (.getfield 26, 3) := by decide +kernel
theorem dX8_stage_17 : decode cX8_stage 17 = .ok (.getfield 138, 3) := by decide +kernel
theorem dX8_stage_20 : decode cX8_stage 20 = .ok (.ifCond .le 6, 3) := by decide +kernel
theorem dX8_stage_23 : decode cX8_stage 23 = .ok (.bipush (-3), 2) := by decide +kernel
theorem dX8_stage_25 : decode cX8_stage 25 = .ok (.ireturn, 1) := by decide +kernel
theorem dX8_stage_26 : decode cX8_stage 26 = .ok (.aload_n 0, 1) := by decide +kernel
theorem dX8_stage_27 : decode cX8_stage 27 = .ok (.getfield 19, 3) := by decide +kernel
theorem dX8_stage_30 : decode cX8_stage 30 = .ok (.getfield 141, 3) := by decide +kernel
theorem dX8_stage_33 : decode cX8_stage 33 = .ok (.iconst 5, 1) := by decide +kernel
theorem dX8_stage_34 : decode cX8_stage 34 = .ok (.if_icmp .lt 6, 3) := by decide +kernel
theorem dX8_stage_37 : decode cX8_stage 37 = .ok (.bipush (-4), 2) := by decide +kernel
theorem dX8_stage_39 : decode cX8_stage 39 = .ok (.ireturn, 1) := by decide +kernel
theorem dX8_stage_40 : decode cX8_stage 40 = .ok (.aload_n 0, 1) := by decide +kernel
theorem dX8_stage_41 : decode cX8_stage 41 = .ok (.getfield 19, 3) := by decide +kernel
theorem dX8_stage_44 : decode cX8_stage 44 = .ok (.iload_n 1, 1) := by decide +kernel
theorem dX8_stage_45 : decode cX8_stage 45 = .ok (.lload_n 2, 1) := by decide +kernel
theorem dX8_stage_46 : decode cX8_stage 46 = .ok (.iload 4, 2) := by decide +kernel
theorem dX8_stage_48 : decode cX8_stage 48 = .ok (.invokevirtual 144, 3) := by decide +kernel
theorem dX8_stage_51 : decode cX8_stage 51 = .ok (.ireturn, 1) := by decide +kernel
theorem dX8_levels_0 : decode cX8_levels 0 = .ok (.iload_n 1, 1) := by decide +kernel
theorem dX8_levels_1 : decode cX8_levels 1 = .ok (.iconst 2, 1) := by decide +kernel
theorem dX8_levels_2 : decode cX8_levels 2 = .ok (.if_icmp .lt 25, 3) := by decide +kernel
theorem dX8_levels_5 : decode cX8_levels 5 = .ok (.iload_n 1, 1) := by decide +kernel
theorem dX8_levels_6 : decode cX8_levels 6 = .ok (.bipush 16, 2) := by decide +kernel
theorem dX8_levels_8 : decode cX8_levels 8 = .ok (.if_icmp .gt 19, 3) := by decide +kernel
theorem dX8_levels_11 : decode cX8_levels 11 = .ok (.lload 4, 2) := by decide +kernel
theorem dX8_levels_13 : decode cX8_levels 13 = .ok (.lconst 1, 1) := by decide +kernel
theorem dX8_levels_14 : decode cX8_levels 14 = .ok (.lcmp, 1) := by decide +kernel
theorem dX8_levels_15 : decode cX8_levels 15 = .ok (.ifCond .lt 12, 3) := by decide +kernel
theorem dX8_levels_18 : decode cX8_levels 18 = .ok (.lload 4, 2) := by decide +kernel
theorem dX8_levels_20 : decode cX8_levels 20 = .ok (.ldc2_w 148, 3) := by decide +kernel
theorem dX8_levels_23 : decode cX8_levels 23 = .ok (.lcmp, 1) := by decide +kernel
theorem dX8_levels_24 : decode cX8_levels 24 = .ok (.ifCond .le 6, 3) := by decide +kernel
theorem dX8_levels_27 : decode cX8_levels 27 = .ok (.bipush (-2), 2) := by decide +kernel
theorem dX8_levels_29 : decode cX8_levels 29 = .ok (.ireturn, 1) := by decide +kernel
theorem dX8_levels_30 : decode cX8_levels 30 = .ok (.lload_n 2, 1) := by decide +kernel
theorem dX8_levels_31 : decode cX8_levels 31 = .ok (.invokestatic 150, 3) := by decide +kernel
theorem dX8_levels_34 : decode cX8_levels 34 = .ok (.ifCond .eq 18, 3) := by decide +kernel
theorem dX8_levels_37 : decode cX8_levels 37 = .ok (.lload_n 2, 1) := by decide +kernel
theorem dX8_levels_38 : decode cX8_levels 38 = .ok (.iload_n 1, 1) := by decide +kernel
theorem dX8_levels_39 : decode cX8_levels 39 = .ok (.iconst 1, 1) := by decide +kernel
theorem dX8_levels_40 : decode cX8_levels 40 = .ok (.isub, 1) := by decide +kernel
theorem dX8_levels_41 : decode cX8_levels 41 = .ok (.i2l, 1) := by decide +kernel
theorem dX8_levels_42 : decode cX8_levels 42 = .ok (.lload 4, 2) := by decide +kernel
theorem dX8_levels_44 : decode cX8_levels 44 = .ok (.lmul, 1) := by decide +kernel
theorem dX8_levels_45 : decode cX8_levels 45 = .ok (.ladd, 1) := by decide +kernel
theorem dX8_levels_46 : decode cX8_levels 46 = .ok (.invokestatic 150, 3) := by decide +kernel
theorem dX8_levels_49 : decode cX8_levels 49 = .ok (.ifCond .ne 6, 3) := by decide +kernel
theorem dX8_levels_52 : decode cX8_levels 52 = .ok (.bipush (-2), 2) := by decide +kernel
theorem dX8_levels_54 : decode cX8_levels 54 = .ok (.ireturn, 1) := by decide +kernel
theorem dX8_levels_55 : decode cX8_levels 55 = .ok (.aload_n 0, 1) := by decide +kernel
theorem dX8_levels_56 : decode cX8_levels 56 = .ok (.getfield 26, 3) := by decide +kernel
theorem dX8_levels_59 : decode cX8_levels 59 = .ok (.getfield 138, 3) := by decide +kernel
theorem dX8_levels_62 : decode cX8_levels 62 = .ok (.ifCond .le 6, 3) := by decide +kernel
theorem dX8_levels_65 : decode cX8_levels 65 = .ok (.bipush (-3), 2) := by decide +kernel
theorem dX8_levels_67 : decode cX8_levels 67 = .ok (.ireturn, 1) := by decide +kernel
theorem dX8_levels_68 : decode cX8_levels 68 = .ok (.aload_n 0, 1) := by decide +kernel
theorem dX8_levels_69 : decode cX8_levels 69 = .ok (.getfield 19, 3) := by decide +kernel
theorem dX8_levels_72 : decode cX8_levels 72 = .ok (.iload_n 1, 1) := by decide +kernel
theorem dX8_levels_73 : decode cX8_levels 73 = .ok (.lload_n 2, 1) := by decide +kernel
theorem dX8_levels_74 : decode cX8_levels 74 = .ok (.lload 4, 2) := by decide +kernel
theorem dX8_levels_76 : decode cX8_levels 76 = .ok (.invokevirtual 154, 3) := by decide +kernel
theorem dX8_levels_79 : decode cX8_levels 79 = .ok (.iconst 1, 1) := by decide +kernel
theorem dX8_levels_80 : decode cX8_levels 80 = .ok (.ireturn, 1) := by decide +kernel
theorem dX8_level_0 : decode cX8_level 0 = .ok (.aload_n 0, 1) := by decide +kernel
theorem dX8_level_1 : decode cX8_level 1 = .ok (.getfield 19, 3) := by decide +kernel
theorem dX8_level_4 : decode cX8_level 4 = .ok (.iload_n 1, 1) := by decide +kernel
theorem dX8_level_5 : decode cX8_level 5 = .ok (.invokevirtual 158, 3) := by decide +kernel
theorem dX8_level_8 : decode cX8_level 8 = .ok (.ifCond .eq 22, 3) := by decide +kernel
theorem dX8_level_11 : decode cX8_level 11 = .ok (.lload_n 2, 1) := by decide +kernel
theorem dX8_level_12 : decode cX8_level 12 = .ok (.invokestatic 150, 3) := by decide +kernel
theorem dX8_level_15 : decode cX8_level 15 = .ok (.ifCond .eq 15, 3) := by decide +kernel
theorem dX8_level_18 : decode cX8_level 18 = .ok (.aload_n 0, 1) := by decide +kernel
theorem dX8_level_19 : decode cX8_level 19 = .ok (.getfield 19, 3) := by decide +kernel
theorem dX8_level_22 : decode cX8_level 22 = .ok (.iload_n 1, 1) := by decide +kernel
theorem dX8_level_23 : decode cX8_level 23 = .ok (.lload_n 2, 1) := by decide +kernel
theorem dX8_level_24 : decode cX8_level 24 = .ok (.invokevirtual 161, 3) := by decide +kernel
theorem dX8_level_27 : decode cX8_level 27 = .ok (.ifCond .ne 6, 3) := by decide +kernel
theorem dX8_level_30 : decode cX8_level 30 = .ok (.bipush (-2), 2) := by decide +kernel
theorem dX8_level_32 : decode cX8_level 32 = .ok (.ireturn, 1) := by decide +kernel
theorem dX8_level_33 : decode cX8_level 33 = .ok (.aload_n 0, 1) := by decide +kernel
theorem dX8_level_34 : decode cX8_level 34 = .ok (.getfield 26, 3) := by decide +kernel
theorem dX8_level_37 : decode cX8_level 37 = .ok (.getfield 138, 3) := by decide +kernel
theorem dX8_level_40 : decode cX8_level 40 = .ok (.ifCond .le 6, 3) := by decide +kernel
theorem dX8_level_43 : decode cX8_level 43 = .ok (.bipush (-3), 2) := by decide +kernel
theorem dX8_level_45 : decode cX8_level 45 = .ok (.ireturn, 1) := by decide +kernel
theorem dX8_level_46 : decode cX8_level 46 = .ok (.aload_n 0, 1) := by decide +kernel
theorem dX8_level_47 : decode cX8_level 47 = .ok (.getfield 19, 3) := by decide +kernel
theorem dX8_level_50 : decode cX8_level 50 = .ok (.getfield 165, 3) := by decide +kernel
theorem dX8_level_53 : decode cX8_level 53 = .ok (.iload_n 1, 1) := by decide +kernel
theorem dX8_level_54 : decode cX8_level 54 = .ok (.lload_n 2, 1) := by decide +kernel
theorem dX8_level_55 : decode cX8_level 55 = .ok (.lastore, 1) := by decide +kernel
theorem dX8_level_56 : decode cX8_level 56 = .ok (.iconst 1, 1) := by decide +kernel
theorem dX8_level_57 : decode cX8_level 57 = .ok (.ireturn, 1) := by decide +kernel
theorem dX8_lot_0 : decode cX8_lot 0 = .ok (.iload_n 1, 1) := by decide +kernel
theorem dX8_lot_1 : decode cX8_lot 1 = .ok (.ifCond .lt 9, 3) := by decide +kernel
theorem dX8_lot_4 : decode cX8_lot 4 = .ok (.iload_n 1, 1) := by decide +kernel
theorem dX8_lot_5 : decode cX8_lot 5 = .ok (.ldc 168, 2) := by decide +kernel
theorem dX8_lot_7 : decode cX8_lot 7 = .ok (.if_icmp .le 6, 3) := by decide +kernel
theorem dX8_lot_10 : decode cX8_lot 10 = .ok (.bipush (-2), 2) := by decide +kernel
theorem dX8_lot_12 : decode cX8_lot 12 = .ok (.ireturn, 1) := by decide +kernel
theorem dX8_lot_13 : decode cX8_lot 13 = .ok (.aload_n 0, 1) := by decide +kernel
theorem dX8_lot_14 : decode cX8_lot 14 = .ok (.getfield 26, 3) := by decide +kernel
theorem dX8_lot_17 : decode cX8_lot 17 = .ok (.getfield 138, 3) := by decide +kernel
theorem dX8_lot_20 : decode cX8_lot 20 = .ok (.ifCond .le 6, 3) := by decide +kernel
theorem dX8_lot_23 : decode cX8_lot 23 = .ok (.bipush (-3), 2) := by decide +kernel
theorem dX8_lot_25 : decode cX8_lot 25 = .ok (.ireturn, 1) := by decide +kernel
theorem dX8_lot_26 : decode cX8_lot 26 = .ok (.aload_n 0, 1) := by decide +kernel
theorem dX8_lot_27 : decode cX8_lot 27 = .ok (.getfield 19, 3) := by decide +kernel
theorem dX8_lot_30 : decode cX8_lot 30 = .ok (.iload_n 1, 1) := by decide +kernel
theorem dX8_lot_31 : decode cX8_lot 31 = .ok (.putfield 169, 3) := by decide +kernel
theorem dX8_lot_34 : decode cX8_lot 34 = .ok (.aload_n 0, 1) := by decide +kernel
theorem dX8_lot_35 : decode cX8_lot 35 = .ok (.getfield 19, 3) := by decide +kernel
theorem dX8_lot_38 : decode cX8_lot 38 = .ok (.lload_n 2, 1) := by decide +kernel
theorem dX8_lot_39 : decode cX8_lot 39 = .ok (.putfield 172, 3) := by decide +kernel
theorem dX8_lot_42 : decode cX8_lot 42 = .ok (.aload_n 0, 1) := by decide +kernel
theorem dX8_lot_43 : decode cX8_lot 43 = .ok (.getfield 65, 3) := by decide +kernel
theorem dX8_lot_46 : decode cX8_lot 46 = .ok (.lload_n 2, 1) := by decide +kernel
theorem dX8_lot_47 : decode cX8_lot 47 = .ok (.putfield 176, 3) := by decide +kernel
theorem dX8_lot_50 : decode cX8_lot 50 = .ok (.iconst 1, 1) := by decide +kernel
theorem dX8_lot_51 : decode cX8_lot 51 = .ok (.ireturn, 1) := by decide +kernel
theorem dX8_step_0 : decode cX8_step 0 = .ok (.lload_n 1, 1) := by decide +kernel
theorem dX8_step_1 : decode cX8_step 1 = .ok (.invokestatic 150, 3) := by decide +kernel
theorem dX8_step_4 : decode cX8_step 4 = .ok (.ifCond .ne 6, 3) := by decide +kernel
theorem dX8_step_7 : decode cX8_step 7 = .ok (.bipush (-2), 2) := by decide +kernel
theorem dX8_step_9 : decode cX8_step 9 = .ok (.ireturn, 1) := by decide +kernel
theorem dX8_step_10 : decode cX8_step 10 = .ok (.aload_n 0, 1) := by decide +kernel
theorem dX8_step_11 : decode cX8_step 11 = .ok (.lload_n 1, 1) := by decide +kernel
theorem dX8_step_12 : decode cX8_step 12 = .ok (.invokevirtual 179, 3) := by decide +kernel
theorem dX8_step_15 : decode cX8_step 15 = .ok (.ireturn, 1) := by decide +kernel
theorem dX8_run_0 : decode cX8_run 0 = .ok (.iload_n 1, 1) := by decide +kernel
theorem dX8_run_1 : decode cX8_run 1 = .ok (.invokestatic 76, 3) := by decide +kernel
theorem dX8_run_4 : decode cX8_run 4 = .ok (.ifCond .eq 15, 3) := by decide +kernel
theorem dX8_run_7 : decode cX8_run 7 = .ok (.iload_n 3, 1) := by decide +kernel
theorem dX8_run_8 : decode cX8_run 8 = .ok (.iconst 1, 1) := by decide +kernel
theorem dX8_run_9 : decode cX8_run 9 = .ok (.if_icmp .lt 10, 3) := by decide +kernel
theorem dX8_run_12 : decode cX8_run 12 = .ok (.iload_n 3, 1) := by decide +kernel
theorem dX8_run_13 : decode cX8_run 13 = .ok (.sipush 300, 3) := by decide +kernel
theorem dX8_run_16 : decode cX8_run 16 = .ok (.if_icmp .le 6, 3) := by decide +kernel
theorem dX8_run_19 : decode cX8_run 19 = .ok (.bipush (-2), 2) := by decide +kernel
theorem dX8_run_21 : decode cX8_run 21 = .ok (.ireturn, 1) := by decide +kernel
theorem dX8_run_22 : decode cX8_run 22 = .ok (.iconst 0, 1) := by decide +kernel
theorem dX8_run_23 : decode cX8_run 23 = .ok (.istore 4, 2) := by decide +kernel
theorem dX8_run_25 : decode cX8_run 25 = .ok (.iload 4, 2) := by decide +kernel
theorem dX8_run_27 : decode cX8_run 27 = .ok (.iload_n 3, 1) := by decide +kernel
theorem dX8_run_28 : decode cX8_run 28 = .ok (.if_icmp .ge 64, 3) := by decide +kernel
theorem dX8_run_31 : decode cX8_run 31 = .ok (.iload_n 2, 1) := by decide +kernel
theorem dX8_run_32 : decode cX8_run 32 = .ok (.i2l, 1) := by decide +kernel
theorem dX8_run_33 : decode cX8_run 33 = .ok (.iload 4, 2) := by decide +kernel
theorem dX8_run_35 : decode cX8_run 35 = .ok (.i2l, 1) := by decide +kernel
theorem dX8_run_36 : decode cX8_run 36 = .ok (.ladd, 1) := by decide +kernel
theorem dX8_run_37 : decode cX8_run 37 = .ok (.lstore 5, 2) := by decide +kernel
theorem dX8_run_39 : decode cX8_run 39 = .ok (.aload_n 0, 1) := by decide +kernel
theorem dX8_run_40 : decode cX8_run 40 = .ok (.iload_n 1, 1) := by decide +kernel
theorem dX8_run_41 : decode cX8_run 41 = .ok (.lload 5, 2) := by decide +kernel
theorem dX8_run_43 : decode cX8_run 43 = .ok (.invokevirtual 123, 3) := by decide +kernel
theorem dX8_run_46 : decode cX8_run 46 = .ok (.istore 7, 2) := by decide +kernel
theorem dX8_run_48 : decode cX8_run 48 = .ok (.iload 7, 2) := by decide +kernel
theorem dX8_run_50 : decode cX8_run 50 = .ok (.ifCond .ne 28, 3) := by decide +kernel
theorem dX8_run_53 : decode cX8_run 53 = .ok (.aload_n 0, 1) := by decide +kernel
theorem dX8_run_54 : decode cX8_run 54 = .ok (.aload_n 0, 1) := by decide +kernel
theorem dX8_run_55 : decode cX8_run 55 = .ok (.getfield 11, 3) := by decide +kernel
theorem dX8_run_58 : decode cX8_run 58 = .ok (.iload_n 1, 1) := by decide +kernel
theorem dX8_run_59 : decode cX8_run 59 = .ok (.aaload, 1) := by decide +kernel
theorem dX8_run_60 : decode cX8_run 60 = .ok (.lload 5, 2) := by decide +kernel
theorem dX8_run_62 : decode cX8_run 62 = .ok (.l2i, 1) := by decide +kernel
theorem dX8_run_63 : decode cX8_run 63 = .ok (.aload_n 0, 1) := by decide +kernel
theorem dX8_run_64 : decode cX8_run 64 = .ok (.getfield 26, 3) := by decide +kernel
theorem dX8_run_67 : decode cX8_run 67 = .ok (.invokevirtual 127, 3) := by decide +kernel
theorem dX8_run_70 : decode cX8_run 70 = .ok (.invokevirtual 131, 3) := by decide +kernel
theorem dX8_run_73 : decode cX8_run 73 = .ok (.invokevirtual 179, 3) := by decide +kernel
theorem dX8_run_76 : decode cX8_run 76 = .ok (.istore 7, 2) := by decide +kernel
theorem dX8_run_78 : decode cX8_run 78 = .ok (.iload 7, 2) := by decide +kernel
theorem dX8_run_80 : decode cX8_run 80 = .ok (.ifCond .ge 6, 3) := by decide +kernel
theorem dX8_run_83 : decode cX8_run 83 = .ok (.iload 7, 2) := by decide +kernel
theorem dX8_run_85 : decode cX8_run 85 = .ok (.ireturn, 1) := by decide +kernel
theorem dX8_run_86 : decode cX8_run 86 = .ok (.iinc 4 1, 3) := by decide +kernel
theorem dX8_run_89 : decode cX8_run 89 = .ok (.goto (-64), 3) := by decide +kernel
theorem dX8_run_92 : decode cX8_run 92 = .ok (.aload_n 0, 1) := by decide +kernel
theorem dX8_run_93 : decode cX8_run 93 = .ok (.getfield 26, 3) := by decide +kernel
theorem dX8_run_96 : decode cX8_run 96 = .ok (.getfield 138, 3) := by decide +kernel
theorem dX8_run_99 : decode cX8_run 99 = .ok (.ireturn, 1) := by decide +kernel
theorem dX8_undo_0 : decode cX8_undo 0 = .ok (.iload_n 1, 1) := by decide +kernel
theorem dX8_undo_1 : decode cX8_undo 1 = .ok (.ifCond .lt 14, 3) := by decide +kernel
theorem dX8_undo_4 : decode cX8_undo 4 = .ok (.iload_n 1, 1) := by decide +kernel
theorem dX8_undo_5 : decode cX8_undo 5 = .ok (.aload_n 0, 1) := by decide +kernel
theorem dX8_undo_6 : decode cX8_undo 6 = .ok (.getfield 26, 3) := by decide +kernel
theorem dX8_undo_9 : decode cX8_undo 9 = .ok (.getfield 138, 3) := by decide +kernel
theorem dX8_undo_12 : decode cX8_undo 12 = .ok (.if_icmp .le 6, 3) := by decide +kernel
theorem dX8_undo_15 : decode cX8_undo 15 = .ok (.bipush (-2), 2) := by decide +kernel
theorem dX8_undo_17 : decode cX8_undo 17 = .ok (.ireturn, 1) := by decide +kernel
theorem dX8_undo_18 : decode cX8_undo 18 = .ok (.iload_n 1, 1) := by decide +kernel
theorem dX8_undo_19 : decode cX8_undo 19 = .ok (.ifCond .le 70, 3) := by decide +kernel
theorem dX8_undo_22 : decode cX8_undo 22 = .ok (.aload_n 0, 1) := by decide +kernel
theorem dX8_undo_23 : decode cX8_undo 23 = .ok (.getfield 26, 3) := by decide +kernel
theorem dX8_undo_26 : decode cX8_undo 26 = .ok (.dup, 1) := by decide +kernel
theorem dX8_undo_27 : decode cX8_undo 27 = .ok (.getfield 138, 3) := by decide +kernel
theorem dX8_undo_30 : decode cX8_undo 30 = .ok (.iload_n 1, 1) := by decide +kernel
theorem dX8_undo_31 : decode cX8_undo 31 = .ok (.isub, 1) := by decide +kernel
theorem dX8_undo_32 : decode cX8_undo 32 = .ok (.putfield 138, 3) := by decide +kernel
theorem dX8_undo_35 : decode cX8_undo 35 = .ok (.aload_n 0, 1) := by decide +kernel
theorem dX8_undo_36 : decode cX8_undo 36 = .ok (.getfield 69, 3) := by decide +kernel
theorem dX8_undo_39 : decode cX8_undo 39 = .ok (.invokevirtual 183, 3) := by decide +kernel
theorem dX8_undo_42 : decode cX8_undo 42 = .ok (.iconst 0, 1) := by decide +kernel
theorem dX8_undo_43 : decode cX8_undo 43 = .ok (.istore_n 2, 1) := by decide +kernel
theorem dX8_undo_44 : decode cX8_undo 44 = .ok (.iload_n 2, 1) := by decide +kernel
theorem dX8_undo_45 : decode cX8_undo 45 = .ok (.aload_n 0, 1) := by decide +kernel
theorem dX8_undo_46 : decode cX8_undo 46 = .ok (.getfield 26, 3) := by decide +kernel
theorem dX8_undo_49 : decode cX8_undo 49 = .ok (.getfield 138, 3) := by decide +kernel
theorem dX8_undo_52 : decode cX8_undo 52 = .ok (.if_icmp .ge 26, 3) := by decide +kernel
theorem dX8_undo_55 : decode cX8_undo 55 = .ok (.aload_n 0, 1) := by decide +kernel
theorem dX8_undo_56 : decode cX8_undo 56 = .ok (.getfield 69, 3) := by decide +kernel
theorem dX8_undo_59 : decode cX8_undo 59 = .ok (.aload_n 0, 1) := by decide +kernel
theorem dX8_undo_60 : decode cX8_undo 60 = .ok (.getfield 26, 3) := by decide +kernel
theorem dX8_undo_63 : decode cX8_undo 63 = .ok (.getfield 186, 3) := by decide +kernel
theorem dX8_undo_66 : decode cX8_undo 66 = .ok (.iload_n 2, 1) := by decide +kernel
theorem dX8_undo_67 : decode cX8_undo 67 = .ok (.laload, 1) := by decide +kernel
theorem dX8_undo_68 : decode cX8_undo 68 = .ok (.invokevirtual 189, 3) := by decide +kernel
theorem dX8_undo_71 : decode cX8_undo 71 = .ok (.pop, 1) := by decide +kernel
theorem dX8_undo_72 : decode cX8_undo 72 = .ok (.iinc 2 1, 3) := by decide +kernel
theorem dX8_undo_75 : decode cX8_undo 75 = .ok (.goto (-31), 3) := by decide +kernel
theorem dX8_undo_78 : decode cX8_undo 78 = .ok (.aload_n 0, 1) := by decide +kernel
theorem dX8_undo_79 : decode cX8_undo 79 = .ok (.getfield 65, 3) := by decide +kernel
theorem dX8_undo_82 : decode cX8_undo 82 = .ok (.aload_n 0, 1) := by decide +kernel
theorem dX8_undo_83 : decode cX8_undo 83 = .ok (.getfield 69, 3) := by decide +kernel
theorem dX8_undo_86 : decode cX8_undo 86 = .ok (.invokevirtual 192, 3) := by decide +kernel
theorem dX8_undo_89 : decode cX8_undo 89 = .ok (.aload_n 0, 1) := by decide +kernel
theorem dX8_undo_90 : decode cX8_undo 90 = .ok (.getfield 26, 3) := by decide +kernel
theorem dX8_undo_93 : decode cX8_undo 93 = .ok (.getfield 138, 3) := by decide +kernel
theorem dX8_undo_96 : decode cX8_undo 96 = .ok (.ireturn, 1) := by decide +kernel
theorem dX8_clear_0 : decode cX8_clear 0 = .ok (.aload_n 0, 1) := by decide +kernel
theorem dX8_clear_1 : decode cX8_clear 1 = .ok (.getfield 26, 3) := by decide +kernel
theorem dX8_clear_4 : decode cX8_clear 4 = .ok (.getfield 138, 3) := by decide +kernel
theorem dX8_clear_7 : decode cX8_clear 7 = .ok (.istore_n 1, 1) := by decide +kernel
theorem dX8_clear_8 : decode cX8_clear 8 = .ok (.aload_n 0, 1) := by decide +kernel
theorem dX8_clear_9 : decode cX8_clear 9 = .ok (.getfield 26, 3) := by decide +kernel
theorem dX8_clear_12 : decode cX8_clear 12 = .ok (.iconst 0, 1) := by decide +kernel
theorem dX8_clear_13 : decode cX8_clear 13 = .ok (.putfield 138, 3) := by decide +kernel
theorem dX8_clear_16 : decode cX8_clear 16 = .ok (.aload_n 0, 1) := by decide +kernel
theorem dX8_clear_17 : decode cX8_clear 17 = .ok (.getfield 19, 3) := by decide +kernel
theorem dX8_clear_20 : decode cX8_clear 20 = .ok (.iconst 0, 1) := by decide +kernel
theorem dX8_clear_21 : decode cX8_clear 21 = .ok (.putfield 141, 3) := by decide +kernel
theorem dX8_clear_24 : decode cX8_clear 24 = .ok (.aload_n 0, 1) := by decide +kernel
theorem dX8_clear_25 : decode cX8_clear 25 = .ok (.getfield 65, 3) := by decide +kernel
theorem dX8_clear_28 : decode cX8_clear 28 = .ok (.invokevirtual 183, 3) := by decide +kernel
theorem dX8_clear_31 : decode cX8_clear 31 = .ok (.iload_n 1, 1) := by decide +kernel
theorem dX8_clear_32 : decode cX8_clear 32 = .ok (.ireturn, 1) := by decide +kernel
theorem dX8_stageAt_0 : decode cX8_stageAt 0 = .ok (.aload_n 0, 1) := by decide +kernel
theorem dX8_stageAt_1 : decode cX8_stageAt 1 = .ok (.getfield 19, 3) := by decide +kernel
theorem dX8_stageAt_4 : decode cX8_stageAt 4 = .ok (.iload_n 1, 1) := by decide +kernel
theorem dX8_stageAt_5 : decode cX8_stageAt 5 = .ok (.invokevirtual 196, 3) := by decide +kernel
theorem dX8_stageAt_8 : decode cX8_stageAt 8 = .ok (.ifCond .eq 13, 3) := by decide +kernel
theorem dX8_stageAt_11 : decode cX8_stageAt 11 = .ok (.iload_n 2, 1) := by decide +kernel
theorem dX8_stageAt_12 : decode cX8_stageAt 12 = .ok (.ifCond .lt 9, 3) := by decide +kernel
theorem dX8_stageAt_15 : decode cX8_stageAt 15 = .ok (.iload_n 2, 1) := by decide +kernel
theorem dX8_stageAt_16 : decode cX8_stageAt 16 = .ok (.bipush 6, 2) := by decide +kernel
theorem dX8_stageAt_18 : decode cX8_stageAt 18 = .ok (.if_icmp .le 7, 3) := by decide +kernel
theorem dX8_stageAt_21 : decode cX8_stageAt 21 = .ok (.ldc2_w 199, 3) := by decide +kernel
theorem dX8_stageAt_24 : decode cX8_stageAt 24 = .ok (.lreturn, 1) := by decide +kernel
theorem dX8_stageAt_25 : decode cX8_stageAt 25 = .ok (.iload_n 2, 1) := by decide +kernel
theorem dX8_stageAt_26 : decode cX8_stageAt 26 = .ok (.bipush 6, 2) := by decide +kernel
theorem dX8_stageAt_28 : decode cX8_stageAt 28 = .ok (.if_icmp .ne 16, 3) := by decide +kernel
theorem dX8_stageAt_31 : decode cX8_stageAt 31 = .ok (.aload_n 0, 1) := by decide +kernel
theorem dX8_stageAt_32 : decode cX8_stageAt 32 = .ok (.getfield 19, 3) := by decide +kernel
theorem dX8_stageAt_35 : decode cX8_stageAt 35 = .ok (.getfield 201, 3) := by decide +kernel
theorem dX8_stageAt_38 : decode cX8_stageAt 38 = .ok (.iload_n 1, 1) := by decide +kernel
theorem dX8_stageAt_39 : decode cX8_stageAt 39 = .ok (.iaload, 1) := by decide +kernel
theorem dX8_stageAt_40 : decode cX8_stageAt 40 = .ok (.i2l, 1) := by decide +kernel
theorem dX8_stageAt_41 : decode cX8_stageAt 41 = .ok (.goto 17, 3) := by decide +kernel
theorem dX8_stageAt_44 : decode cX8_stageAt 44 = .ok (.aload_n 0, 1) := by decide +kernel
theorem dX8_stageAt_45 : decode cX8_stageAt 45 = .ok (.getfield 65, 3) := by decide +kernel
theorem dX8_stageAt_48 : decode cX8_stageAt 48 = .ok (.getfield 204, 3) := by decide +kernel
theorem dX8_stageAt_51 : decode cX8_stageAt 51 = .ok (.iload_n 1, 1) := by decide +kernel
theorem dX8_stageAt_52 : decode cX8_stageAt 52 = .ok (.bipush 6, 2) := by decide +kernel
theorem dX8_stageAt_54 : decode cX8_stageAt 54 = .ok (.imul, 1) := by decide +kernel
theorem dX8_stageAt_55 : decode cX8_stageAt 55 = .ok (.iload_n 2, 1) := by decide +kernel
theorem dX8_stageAt_56 : decode cX8_stageAt 56 = .ok (.iadd, 1) := by decide +kernel
theorem dX8_stageAt_57 : decode cX8_stageAt 57 = .ok (.laload, 1) := by decide +kernel
theorem dX8_stageAt_58 : decode cX8_stageAt 58 = .ok (.lreturn, 1) := by decide +kernel
theorem dX8_levelAt_0 : decode cX8_levelAt 0 = .ok (.aload_n 0, 1) := by decide +kernel
theorem dX8_levelAt_1 : decode cX8_levelAt 1 = .ok (.getfield 19, 3) := by decide +kernel
theorem dX8_levelAt_4 : decode cX8_levelAt 4 = .ok (.iload_n 1, 1) := by decide +kernel
theorem dX8_levelAt_5 : decode cX8_levelAt 5 = .ok (.invokevirtual 158, 3) := by decide +kernel
theorem dX8_levelAt_8 : decode cX8_levelAt 8 = .ok (.ifCond .eq 15, 3) := by decide +kernel
theorem dX8_levelAt_11 : decode cX8_levelAt 11 = .ok (.aload_n 0, 1) := by decide +kernel
theorem dX8_levelAt_12 : decode cX8_levelAt 12 = .ok (.getfield 19, 3) := by decide +kernel
theorem dX8_levelAt_15 : decode cX8_levelAt 15 = .ok (.getfield 165, 3) := by decide +kernel
theorem dX8_levelAt_18 : decode cX8_levelAt 18 = .ok (.iload_n 1, 1) := by decide +kernel
theorem dX8_levelAt_19 : decode cX8_levelAt 19 = .ok (.laload, 1) := by decide +kernel
theorem dX8_levelAt_20 : decode cX8_levelAt 20 = .ok (.goto 6, 3) := by decide +kernel
theorem dX8_levelAt_23 : decode cX8_levelAt 23 = .ok (.ldc2_w 199, 3) := by decide +kernel
theorem dX8_levelAt_26 : decode cX8_levelAt 26 = .ok (.lreturn, 1) := by decide +kernel
theorem dX8_record_0 : decode cX8_record 0 = .ok (.aload_n 0, 1) := by decide +kernel
theorem dX8_record_1 : decode cX8_record 1 = .ok (.iload_n 1, 1) := by decide +kernel
theorem dX8_record_2 : decode cX8_record 2 = .ok (.iload_n 2, 1) := by decide +kernel
theorem dX8_record_3 : decode cX8_record 3 = .ok (.invokevirtual 207, 3) := by decide +kernel
theorem dX8_record_6 : decode cX8_record 6 = .ok (.ifCond .ne 7, 3) := by decide +kernel
theorem dX8_record_9 : decode cX8_record 9 = .ok (.ldc2_w 199, 3) := by decide +kernel
theorem dX8_record_12 : decode cX8_record 12 = .ok (.lreturn, 1) := by decide +kernel
theorem dX8_record_13 : decode cX8_record 13 = .ok (.aload_n 0, 1) := by decide +kernel
theorem dX8_record_14 : decode cX8_record 14 = .ok (.getfield 26, 3) := by decide +kernel
theorem dX8_record_17 : decode cX8_record 17 = .ok (.getfield 210, 3) := by decide +kernel
theorem dX8_record_20 : decode cX8_record 20 = .ok (.iload_n 1, 1) := by decide +kernel
theorem dX8_record_21 : decode cX8_record 21 = .ok (.bipush 7, 2) := by decide +kernel
theorem dX8_record_23 : decode cX8_record 23 = .ok (.imul, 1) := by decide +kernel
theorem dX8_record_24 : decode cX8_record 24 = .ok (.iload_n 2, 1) := by decide +kernel
theorem dX8_record_25 : decode cX8_record 25 = .ok (.iadd, 1) := by decide +kernel
theorem dX8_record_26 : decode cX8_record 26 = .ok (.laload, 1) := by decide +kernel
theorem dX8_record_27 : decode cX8_record 27 = .ok (.lreturn, 1) := by decide +kernel
theorem dX8_forge_0 : decode cX8_forge 0 = .ok (.aload_n 0, 1) := by decide +kernel
theorem dX8_forge_1 : decode cX8_forge 1 = .ok (.iload_n 1, 1) := by decide +kernel
theorem dX8_forge_2 : decode cX8_forge 2 = .ok (.iload_n 2, 1) := by decide +kernel
theorem dX8_forge_3 : decode cX8_forge 3 = .ok (.invokevirtual 207, 3) := by decide +kernel
theorem dX8_forge_6 : decode cX8_forge 6 = .ok (.ifCond .eq 14, 3) := by decide +kernel
theorem dX8_forge_9 : decode cX8_forge 9 = .ok (.iload_n 2, 1) := by decide +kernel
theorem dX8_forge_10 : decode cX8_forge 10 = .ok (.ifCond .ne 13, 3) := by decide +kernel
theorem dX8_forge_13 : decode cX8_forge 13 = .ok (.lload_n 3, 1) := by decide +kernel
theorem dX8_forge_14 : decode cX8_forge 14 = .ok (.invokestatic 150, 3) := by decide +kernel
theorem dX8_forge_17 : decode cX8_forge 17 = .ok (.ifCond .ne 6, 3) := by decide +kernel
theorem dX8_forge_20 : decode cX8_forge 20 = .ok (.bipush (-2), 2) := by decide +kernel
theorem dX8_forge_22 : decode cX8_forge 22 = .ok (.ireturn, 1) := by decide +kernel
theorem dX8_forge_23 : decode cX8_forge 23 = .ok (.aload_n 0, 1) := by decide +kernel
theorem dX8_forge_24 : decode cX8_forge 24 = .ok (.getfield 26, 3) := by decide +kernel
theorem dX8_forge_27 : decode cX8_forge 27 = .ok (.getfield 210, 3) := by decide +kernel
theorem dX8_forge_30 : decode cX8_forge 30 = .ok (.iload_n 1, 1) := by decide +kernel
theorem dX8_forge_31 : decode cX8_forge 31 = .ok (.bipush 7, 2) := by decide +kernel
theorem dX8_forge_33 : decode cX8_forge 33 = .ok (.imul, 1) := by decide +kernel
theorem dX8_forge_34 : decode cX8_forge 34 = .ok (.iload_n 2, 1) := by decide +kernel
theorem dX8_forge_35 : decode cX8_forge 35 = .ok (.iadd, 1) := by decide +kernel
theorem dX8_forge_36 : decode cX8_forge 36 = .ok (.lload_n 3, 1) := by decide +kernel
theorem dX8_forge_37 : decode cX8_forge 37 = .ok (.lastore, 1) := by decide +kernel
theorem dX8_forge_38 : decode cX8_forge 38 = .ok (.iconst 1, 1) := by decide +kernel
theorem dX8_forge_39 : decode cX8_forge 39 = .ok (.ireturn, 1) := by decide +kernel
theorem dX8_check_0 : decode cX8_check 0 = .ok (.aload_n 0, 1) := by decide +kernel
theorem dX8_check_1 : decode cX8_check 1 = .ok (.getfield 69, 3) := by decide +kernel
theorem dX8_check_4 : decode cX8_check 4 = .ok (.invokevirtual 183, 3) := by decide +kernel
theorem dX8_check_7 : decode cX8_check 7 = .ok (.iconst 0, 1) := by decide +kernel
theorem dX8_check_8 : decode cX8_check 8 = .ok (.istore_n 1, 1) := by decide +kernel
theorem dX8_check_9 : decode cX8_check 9 = .ok (.iload_n 1, 1) := by decide +kernel
theorem dX8_check_10 : decode cX8_check 10 = .ok (.aload_n 0, 1) := by decide +kernel
theorem dX8_check_11 : decode cX8_check 11 = .ok (.getfield 26, 3) := by decide +kernel
theorem dX8_check_14 : decode cX8_check 14 = .ok (.getfield 138, 3) := by decide +kernel
theorem dX8_check_17 : decode cX8_check 17 = .ok (.if_icmp .ge 50, 3) := by decide +kernel
theorem dX8_check_20 : decode cX8_check 20 = .ok (.aload_n 0, 1) := by decide +kernel
theorem dX8_check_21 : decode cX8_check 21 = .ok (.getfield 69, 3) := by decide +kernel
theorem dX8_check_24 : decode cX8_check 24 = .ok (.aload_n 0, 1) := by decide +kernel
theorem dX8_check_25 : decode cX8_check 25 = .ok (.getfield 26, 3) := by decide +kernel
theorem dX8_check_28 : decode cX8_check 28 = .ok (.getfield 210, 3) := by decide +kernel
theorem dX8_check_31 : decode cX8_check 31 = .ok (.iload_n 1, 1) := by decide +kernel
theorem dX8_check_32 : decode cX8_check 32 = .ok (.bipush 7, 2) := by decide +kernel
theorem dX8_check_34 : decode cX8_check 34 = .ok (.imul, 1) := by decide +kernel
theorem dX8_check_35 : decode cX8_check 35 = .ok (.iconst 0, 1) := by decide +kernel
theorem dX8_check_36 : decode cX8_check 36 = .ok (.iadd, 1) := by decide +kernel
theorem dX8_check_37 : decode cX8_check 37 = .ok (.laload, 1) := by decide +kernel
theorem dX8_check_38 : decode cX8_check 38 = .ok (.invokevirtual 189, 3) := by decide +kernel
theorem dX8_check_41 : decode cX8_check 41 = .ok (.ifCond .eq 18, 3) := by decide +kernel
theorem dX8_check_44 : decode cX8_check 44 = .ok (.aload_n 0, 1) := by decide +kernel
theorem dX8_check_45 : decode cX8_check 45 = .ok (.getfield 26, 3) := by decide +kernel
theorem dX8_check_48 : decode cX8_check 48 = .ok (.iload_n 1, 1) := by decide +kernel
theorem dX8_check_49 : decode cX8_check 49 = .ok (.aload_n 0, 1) := by decide +kernel
theorem dX8_check_50 : decode cX8_check 50 = .ok (.getfield 69, 3) := by decide +kernel
theorem dX8_check_53 : decode cX8_check 53 = .ok (.invokevirtual 211, 3) := by decide +kernel
theorem dX8_check_56 : decode cX8_check 56 = .ok (.ifCond .ne 5, 3) := by decide +kernel
theorem dX8_check_59 : decode cX8_check 59 = .ok (.iload_n 1, 1) := by decide +kernel
theorem dX8_check_60 : decode cX8_check 60 = .ok (.ireturn, 1) := by decide +kernel
theorem dX8_check_61 : decode cX8_check 61 = .ok (.iinc 1 1, 3) := by decide +kernel
theorem dX8_check_64 : decode cX8_check 64 = .ok (.goto (-55), 3) := by decide +kernel
theorem dX8_check_67 : decode cX8_check 67 = .ok (.iconst (-1), 1) := by decide +kernel
theorem dX8_check_68 : decode cX8_check 68 = .ok (.ireturn, 1) := by decide +kernel
theorem dX8_read_0 : decode cX8_read 0 = .ok (.aload_n 0, 1) := by decide +kernel
theorem dX8_read_1 : decode cX8_read 1 = .ok (.getfield 26, 3) := by decide +kernel
theorem dX8_read_4 : decode cX8_read 4 = .ok (.iload_n 1, 1) := by decide +kernel
theorem dX8_read_5 : decode cX8_read 5 = .ok (.invokevirtual 215, 3) := by decide +kernel
theorem dX8_read_8 : decode cX8_read 8 = .ok (.ifCond .ne 5, 3) := by decide +kernel
theorem dX8_read_11 : decode cX8_read 11 = .ok (.lconst 0, 1) := by decide +kernel
theorem dX8_read_12 : decode cX8_read 12 = .ok (.lreturn, 1) := by decide +kernel
theorem dX8_read_13 : decode cX8_read 13 = .ok (.lconst 0, 1) := by decide +kernel
theorem dX8_read_14 : decode cX8_read 14 = .ok (.lstore_n 2, 1) := by decide +kernel
theorem dX8_read_15 : decode cX8_read 15 = .ok (.iconst 0, 1) := by decide +kernel
theorem dX8_read_16 : decode cX8_read 16 = .ok (.istore 4, 2) := by decide +kernel
theorem dX8_read_18 : decode cX8_read 18 = .ok (.iload 4, 2) := by decide +kernel
theorem dX8_read_20 : decode cX8_read 20 = .ok (.bipush 8, 2) := by decide +kernel
theorem dX8_read_22 : decode cX8_read 22 = .ok (.if_icmp .ge 38, 3) := by decide +kernel
theorem dX8_read_25 : decode cX8_read 25 = .ok (.iload 4, 2) := by decide +kernel
theorem dX8_read_27 : decode cX8_read 27 = .ok (.iload_n 1, 1) := by decide +kernel
theorem dX8_read_28 : decode cX8_read 28 = .ok (.if_icmp .gt 32, 3) := by decide +kernel
theorem dX8_read_31 : decode cX8_read 31 = .ok (.lload_n 2, 1) := by decide +kernel
theorem dX8_read_32 : decode cX8_read 32 = .ok (.aload_n 0, 1) := by decide +kernel
theorem dX8_read_33 : decode cX8_read 33 = .ok (.getfield 58, 3) := by decide +kernel
theorem dX8_read_36 : decode cX8_read 36 = .ok (.iload 4, 2) := by decide +kernel
theorem dX8_read_38 : decode cX8_read 38 = .ok (.iaload, 1) := by decide +kernel
theorem dX8_read_39 : decode cX8_read 39 = .ok (.i2l, 1) := by decide +kernel
theorem dX8_read_40 : decode cX8_read 40 = .ok (.aload_n 0, 1) := by decide +kernel
theorem dX8_read_41 : decode cX8_read 41 = .ok (.getfield 26, 3) := by decide +kernel
theorem dX8_read_44 : decode cX8_read 44 = .ok (.iload_n 1, 1) := by decide +kernel
theorem dX8_read_45 : decode cX8_read 45 = .ok (.iload 4, 2) := by decide +kernel
theorem dX8_read_47 : decode cX8_read 47 = .ok (.isub, 1) := by decide +kernel
theorem dX8_read_48 : decode cX8_read 48 = .ok (.invokevirtual 218, 3) := by decide +kernel
theorem dX8_read_51 : decode cX8_read 51 = .ok (.lmul, 1) := by decide +kernel
theorem dX8_read_52 : decode cX8_read 52 = .ok (.ladd, 1) := by decide +kernel
theorem dX8_read_53 : decode cX8_read 53 = .ok (.lstore_n 2, 1) := by decide +kernel
theorem dX8_read_54 : decode cX8_read 54 = .ok (.iinc 4 1, 3) := by decide +kernel
theorem dX8_read_57 : decode cX8_read 57 = .ok (.goto (-39), 3) := by decide +kernel
theorem dX8_read_60 : decode cX8_read 60 = .ok (.lload_n 2, 1) := by decide +kernel
theorem dX8_read_61 : decode cX8_read 61 = .ok (.lreturn, 1) := by decide +kernel
theorem dX8_weight_0 : decode cX8_weight 0 = .ok (.iload_n 1, 1) := by decide +kernel
theorem dX8_weight_1 : decode cX8_weight 1 = .ok (.ifCond .lt 9, 3) := by decide +kernel
theorem dX8_weight_4 : decode cX8_weight 4 = .ok (.iload_n 1, 1) := by decide +kernel
theorem dX8_weight_5 : decode cX8_weight 5 = .ok (.bipush 8, 2) := by decide +kernel
theorem dX8_weight_7 : decode cX8_weight 7 = .ok (.if_icmp .lt 6, 3) := by decide +kernel
theorem dX8_weight_10 : decode cX8_weight 10 = .ok (.ldc 222, 2) := by decide +kernel
theorem dX8_weight_12 : decode cX8_weight 12 = .ok (.ireturn, 1) := by decide +kernel
theorem dX8_weight_13 : decode cX8_weight 13 = .ok (.aload_n 0, 1) := by decide +kernel
theorem dX8_weight_14 : decode cX8_weight 14 = .ok (.getfield 58, 3) := by decide +kernel
theorem dX8_weight_17 : decode cX8_weight 17 = .ok (.iload_n 1, 1) := by decide +kernel
theorem dX8_weight_18 : decode cX8_weight 18 = .ok (.iaload, 1) := by decide +kernel
theorem dX8_weight_19 : decode cX8_weight 19 = .ok (.istore_n 3, 1) := by decide +kernel
theorem dX8_weight_20 : decode cX8_weight 20 = .ok (.aload_n 0, 1) := by decide +kernel
theorem dX8_weight_21 : decode cX8_weight 21 = .ok (.getfield 58, 3) := by decide +kernel
theorem dX8_weight_24 : decode cX8_weight 24 = .ok (.iload_n 1, 1) := by decide +kernel
theorem dX8_weight_25 : decode cX8_weight 25 = .ok (.iload_n 2, 1) := by decide +kernel
theorem dX8_weight_26 : decode cX8_weight 26 = .ok (.iastore, 1) := by decide +kernel
theorem dX8_weight_27 : decode cX8_weight 27 = .ok (.iload_n 3, 1) := by decide +kernel
theorem dX8_weight_28 : decode cX8_weight 28 = .ok (.ireturn, 1) := by decide +kernel
theorem dX8_sums_0 : decode cX8_sums 0 = .ok (.iload_n 1, 1) := by decide +kernel
theorem dX8_sums_1 : decode cX8_sums 1 = .ok (.iconst 1, 1) := by decide +kernel
theorem dX8_sums_2 : decode cX8_sums 2 = .ok (.if_icmp .lt 19, 3) := by decide +kernel
theorem dX8_sums_5 : decode cX8_sums 5 = .ok (.iload_n 1, 1) := by decide +kernel
theorem dX8_sums_6 : decode cX8_sums 6 = .ok (.iconst 4, 1) := by decide +kernel
theorem dX8_sums_7 : decode cX8_sums 7 = .ok (.if_icmp .gt 14, 3) := by decide +kernel
theorem dX8_sums_10 : decode cX8_sums 10 = .ok (.aload_n 0, 1) := by decide +kernel
theorem dX8_sums_11 : decode cX8_sums 11 = .ok (.getfield 26, 3) := by decide +kernel
theorem dX8_sums_14 : decode cX8_sums 14 = .ok (.iload_n 2, 1) := by decide +kernel
theorem dX8_sums_15 : decode cX8_sums 15 = .ok (.invokevirtual 215, 3) := by decide +kernel
theorem dX8_sums_18 : decode cX8_sums 18 = .ok (.ifCond .ne 5, 3) := by decide +kernel
theorem dX8_sums_21 : decode cX8_sums 21 = .ok (.lconst 0, 1) := by decide +kernel
theorem dX8_sums_22 : decode cX8_sums 22 = .ok (.lreturn, 1) := by decide +kernel
theorem dX8_sums_23 : decode cX8_sums 23 = .ok (.aload_n 0, 1) := by decide +kernel
theorem dX8_sums_24 : decode cX8_sums 24 = .ok (.getfield 26, 3) := by decide +kernel
theorem dX8_sums_27 : decode cX8_sums 27 = .ok (.iload_n 1, 1) := by decide +kernel
theorem dX8_sums_28 : decode cX8_sums 28 = .ok (.iload_n 2, 1) := by decide +kernel
theorem dX8_sums_29 : decode cX8_sums 29 = .ok (.invokevirtual 223, 3) := by decide +kernel
theorem dX8_sums_32 : decode cX8_sums 32 = .ok (.lreturn, 1) := by decide +kernel
theorem dX8_trace_0 : decode cX8_trace 0 = .ok (.iload_n 1, 1) := by decide +kernel
theorem dX8_trace_1 : decode cX8_trace 1 = .ok (.ifCond .lt 26, 3) := by decide +kernel
theorem dX8_trace_4 : decode cX8_trace 4 = .ok (.iload_n 1, 1) := by decide +kernel
theorem dX8_trace_5 : decode cX8_trace 5 = .ok (.aload_n 0, 1) := by decide +kernel
theorem dX8_trace_6 : decode cX8_trace 6 = .ok (.getfield 65, 3) := by decide +kernel
theorem dX8_trace_9 : decode cX8_trace 9 = .ok (.getfield 227, 3) := by decide +kernel
theorem dX8_trace_12 : decode cX8_trace 12 = .ok (.if_icmp .ge 15, 3) := by decide +kernel
theorem dX8_trace_15 : decode cX8_trace 15 = .ok (.aload_n 0, 1) := by decide +kernel
theorem dX8_trace_16 : decode cX8_trace 16 = .ok (.getfield 65, 3) := by decide +kernel
theorem dX8_trace_19 : decode cX8_trace 19 = .ok (.getfield 230, 3) := by decide +kernel
theorem dX8_trace_22 : decode cX8_trace 22 = .ok (.iload_n 1, 1) := by decide +kernel
theorem dX8_trace_23 : decode cX8_trace 23 = .ok (.iaload, 1) := by decide +kernel
theorem dX8_trace_24 : decode cX8_trace 24 = .ok (.goto 4, 3) := by decide +kernel
theorem dX8_trace_27 : decode cX8_trace 27 = .ok (.iconst (-1), 1) := by decide +kernel
theorem dX8_trace_28 : decode cX8_trace 28 = .ok (.ireturn, 1) := by decide +kernel
theorem dX8_hold_0 : decode cX8_hold 0 = .ok (.lload_n 1, 1) := by decide +kernel
theorem dX8_hold_1 : decode cX8_hold 1 = .ok (.invokestatic 150, 3) := by decide +kernel
theorem dX8_hold_4 : decode cX8_hold 4 = .ok (.ifCond .eq 15, 3) := by decide +kernel
theorem dX8_hold_7 : decode cX8_hold 7 = .ok (.iload_n 3, 1) := by decide +kernel
theorem dX8_hold_8 : decode cX8_hold 8 = .ok (.iconst 1, 1) := by decide +kernel
theorem dX8_hold_9 : decode cX8_hold 9 = .ok (.if_icmp .lt 10, 3) := by decide +kernel
theorem dX8_hold_12 : decode cX8_hold 12 = .ok (.iload_n 3, 1) := by decide +kernel
theorem dX8_hold_13 : decode cX8_hold 13 = .ok (.sipush 400, 3) := by decide +kernel
theorem dX8_hold_16 : decode cX8_hold 16 = .ok (.if_icmp .le 6, 3) := by decide +kernel
theorem dX8_hold_19 : decode cX8_hold 19 = .ok (.bipush (-2), 2) := by decide +kernel
theorem dX8_hold_21 : decode cX8_hold 21 = .ok (.ireturn, 1) := by decide +kernel
theorem dX8_hold_22 : decode cX8_hold 22 = .ok (.aload_n 0, 1) := by decide +kernel
theorem dX8_hold_23 : decode cX8_hold 23 = .ok (.getfield 69, 3) := by decide +kernel
theorem dX8_hold_26 : decode cX8_hold 26 = .ok (.aload_n 0, 1) := by decide +kernel
theorem dX8_hold_27 : decode cX8_hold 27 = .ok (.getfield 65, 3) := by decide +kernel
theorem dX8_hold_30 : decode cX8_hold 30 = .ok (.invokevirtual 192, 3) := by decide +kernel
theorem dX8_hold_33 : decode cX8_hold 33 = .ok (.aload_n 0, 1) := by decide +kernel
theorem dX8_hold_34 : decode cX8_hold 34 = .ok (.getfield 38, 3) := by decide +kernel
theorem dX8_hold_37 : decode cX8_hold 37 = .ok (.aload_n 0, 1) := by decide +kernel
theorem dX8_hold_38 : decode cX8_hold 38 = .ok (.getfield 69, 3) := by decide +kernel
theorem dX8_hold_41 : decode cX8_hold 41 = .ok (.lload_n 1, 1) := by decide +kernel
theorem dX8_hold_42 : decode cX8_hold 42 = .ok (.iload_n 3, 1) := by decide +kernel
theorem dX8_hold_43 : decode cX8_hold 43 = .ok (.invokevirtual 233, 3) := by decide +kernel
theorem dX8_hold_46 : decode cX8_hold 46 = .ok (.ireturn, 1) := by decide +kernel
theorem dX8_held_0 : decode cX8_held 0 = .ok (.iload_n 1, 1) := by decide +kernel
theorem dX8_held_1 : decode cX8_held 1 = .ok (.tableswitch 53 0 2 #[27, 36, 45], 27) := by decide +kernel
theorem dX8_held_28 : decode cX8_held 28 = .ok (.aload_n 0, 1) := by decide +kernel
theorem dX8_held_29 : decode cX8_held 29 = .ok (.getfield 38, 3) := by decide +kernel
theorem dX8_held_32 : decode cX8_held 32 = .ok (.getfield 237, 3) := by decide +kernel
theorem dX8_held_35 : decode cX8_held 35 = .ok (.i2l, 1) := by decide +kernel
theorem dX8_held_36 : decode cX8_held 36 = .ok (.lreturn, 1) := by decide +kernel
theorem dX8_held_37 : decode cX8_held 37 = .ok (.aload_n 0, 1) := by decide +kernel
theorem dX8_held_38 : decode cX8_held 38 = .ok (.getfield 38, 3) := by decide +kernel
theorem dX8_held_41 : decode cX8_held 41 = .ok (.getfield 240, 3) := by decide +kernel
theorem dX8_held_44 : decode cX8_held 44 = .ok (.i2l, 1) := by decide +kernel
theorem dX8_held_45 : decode cX8_held 45 = .ok (.lreturn, 1) := by decide +kernel
theorem dX8_held_46 : decode cX8_held 46 = .ok (.aload_n 0, 1) := by decide +kernel
theorem dX8_held_47 : decode cX8_held 47 = .ok (.getfield 38, 3) := by decide +kernel
theorem dX8_held_50 : decode cX8_held 50 = .ok (.getfield 243, 3) := by decide +kernel
theorem dX8_held_53 : decode cX8_held 53 = .ok (.lreturn, 1) := by decide +kernel
theorem dX8_held_54 : decode cX8_held 54 = .ok (.ldc2_w 199, 3) := by decide +kernel
theorem dX8_held_57 : decode cX8_held 57 = .ok (.lreturn, 1) := by decide +kernel
theorem dX8_reach_0 : decode cX8_reach 0 = .ok (.lload_n 1, 1) := by decide +kernel
theorem dX8_reach_1 : decode cX8_reach 1 = .ok (.invokestatic 150, 3) := by decide +kernel
theorem dX8_reach_4 : decode cX8_reach 4 = .ok (.ifCond .eq 26, 3) := by decide +kernel
theorem dX8_reach_7 : decode cX8_reach 7 = .ok (.lload_n 3, 1) := by decide +kernel
theorem dX8_reach_8 : decode cX8_reach 8 = .ok (.invokestatic 150, 3) := by decide +kernel
theorem dX8_reach_11 : decode cX8_reach 11 = .ok (.ifCond .eq 19, 3) := by decide +kernel
theorem dX8_reach_14 : decode cX8_reach 14 = .ok (.lload_n 3, 1) := by decide +kernel
theorem dX8_reach_15 : decode cX8_reach 15 = .ok (.lload_n 1, 1) := by decide +kernel
theorem dX8_reach_16 : decode cX8_reach 16 = .ok (.lcmp, 1) := by decide +kernel
theorem dX8_reach_17 : decode cX8_reach 17 = .ok (.ifCond .lt 13, 3) := by decide +kernel
theorem dX8_reach_20 : decode cX8_reach 20 = .ok (.lload_n 3, 1) := by decide +kernel
theorem dX8_reach_21 : decode cX8_reach 21 = .ok (.lload_n 1, 1) := by decide +kernel
theorem dX8_reach_22 : decode cX8_reach 22 = .ok (.lsub, 1) := by decide +kernel
theorem dX8_reach_23 : decode cX8_reach 23 = .ok (.ldc2_w 246, 3) := by decide +kernel
theorem dX8_reach_26 : decode cX8_reach 26 = .ok (.lcmp, 1) := by decide +kernel
theorem dX8_reach_27 : decode cX8_reach 27 = .ok (.ifCond .le 6, 3) := by decide +kernel
theorem dX8_reach_30 : decode cX8_reach 30 = .ok (.bipush (-2), 2) := by decide +kernel
theorem dX8_reach_32 : decode cX8_reach 32 = .ok (.ireturn, 1) := by decide +kernel
theorem dX8_reach_33 : decode cX8_reach 33 = .ok (.lload 5, 2) := by decide +kernel
theorem dX8_reach_35 : decode cX8_reach 35 = .ok (.lconst 1, 1) := by decide +kernel
theorem dX8_reach_36 : decode cX8_reach 36 = .ok (.lcmp, 1) := by decide +kernel
theorem dX8_reach_37 : decode cX8_reach 37 = .ok (.ifCond .lt 12, 3) := by decide +kernel
theorem dX8_reach_40 : decode cX8_reach 40 = .ok (.lload 5, 2) := by decide +kernel
theorem dX8_reach_42 : decode cX8_reach 42 = .ok (.ldc2_w 248, 3) := by decide +kernel
theorem dX8_reach_45 : decode cX8_reach 45 = .ok (.lcmp, 1) := by decide +kernel
theorem dX8_reach_46 : decode cX8_reach 46 = .ok (.ifCond .le 6, 3) := by decide +kernel
theorem dX8_reach_49 : decode cX8_reach 49 = .ok (.bipush (-2), 2) := by decide +kernel
theorem dX8_reach_51 : decode cX8_reach 51 = .ok (.ireturn, 1) := by decide +kernel
theorem dX8_reach_52 : decode cX8_reach 52 = .ok (.aload_n 0, 1) := by decide +kernel
theorem dX8_reach_53 : decode cX8_reach 53 = .ok (.invokevirtual 250, 3) := by decide +kernel
theorem dX8_reach_56 : decode cX8_reach 56 = .ok (.ifCond .ne 6, 3) := by decide +kernel
theorem dX8_reach_59 : decode cX8_reach 59 = .ok (.bipush (-7), 2) := by decide +kernel
theorem dX8_reach_61 : decode cX8_reach 61 = .ok (.ireturn, 1) := by decide +kernel
theorem dX8_reach_62 : decode cX8_reach 62 = .ok (.aload_n 0, 1) := by decide +kernel
theorem dX8_reach_63 : decode cX8_reach 63 = .ok (.getfield 69, 3) := by decide +kernel
theorem dX8_reach_66 : decode cX8_reach 66 = .ok (.aload_n 0, 1) := by decide +kernel
theorem dX8_reach_67 : decode cX8_reach 67 = .ok (.getfield 65, 3) := by decide +kernel
theorem dX8_reach_70 : decode cX8_reach 70 = .ok (.invokevirtual 192, 3) := by decide +kernel
theorem dX8_reach_73 : decode cX8_reach 73 = .ok (.aload_n 0, 1) := by decide +kernel
theorem dX8_reach_74 : decode cX8_reach 74 = .ok (.getfield 45, 3) := by decide +kernel
theorem dX8_reach_77 : decode cX8_reach 77 = .ok (.aload_n 0, 1) := by decide +kernel
theorem dX8_reach_78 : decode cX8_reach 78 = .ok (.getfield 69, 3) := by decide +kernel
theorem dX8_reach_81 : decode cX8_reach 81 = .ok (.lload_n 1, 1) := by decide +kernel
theorem dX8_reach_82 : decode cX8_reach 82 = .ok (.lload_n 3, 1) := by decide +kernel
theorem dX8_reach_83 : decode cX8_reach 83 = .ok (.lload 5, 2) := by decide +kernel
theorem dX8_reach_85 : decode cX8_reach 85 = .ok (.invokevirtual 254, 3) := by decide +kernel
theorem dX8_reach_88 : decode cX8_reach 88 = .ok (.ireturn, 1) := by decide +kernel
theorem dX8_leaving_0 : decode cX8_leaving 0 = .ok (.iload_n 1, 1) := by decide +kernel
theorem dX8_leaving_1 : decode cX8_leaving 1 = .ok (.ifCond .lt 26, 3) := by decide +kernel
theorem dX8_leaving_4 : decode cX8_leaving 4 = .ok (.iload_n 1, 1) := by decide +kernel
theorem dX8_leaving_5 : decode cX8_leaving 5 = .ok (.aload_n 0, 1) := by decide +kernel
theorem dX8_leaving_6 : decode cX8_leaving 6 = .ok (.getfield 45, 3) := by decide +kernel
theorem dX8_leaving_9 : decode cX8_leaving 9 = .ok (.getfield 258, 3) := by decide +kernel
theorem dX8_leaving_12 : decode cX8_leaving 12 = .ok (.if_icmp .ge 15, 3) := by decide +kernel
theorem dX8_leaving_15 : decode cX8_leaving 15 = .ok (.aload_n 0, 1) := by decide +kernel
theorem dX8_leaving_16 : decode cX8_leaving 16 = .ok (.getfield 45, 3) := by decide +kernel
theorem dX8_leaving_19 : decode cX8_leaving 19 = .ok (.getfield 261, 3) := by decide +kernel
theorem dX8_leaving_22 : decode cX8_leaving 22 = .ok (.iload_n 1, 1) := by decide +kernel
theorem dX8_leaving_23 : decode cX8_leaving 23 = .ok (.laload, 1) := by decide +kernel
theorem dX8_leaving_24 : decode cX8_leaving 24 = .ok (.goto 4, 3) := by decide +kernel
theorem dX8_leaving_27 : decode cX8_leaving 27 = .ok (.lconst 0, 1) := by decide +kernel
theorem dX8_leaving_28 : decode cX8_leaving 28 = .ok (.lreturn, 1) := by decide +kernel
theorem dX8_worst_0 : decode cX8_worst 0 = .ok (.iconst 0, 1) := by decide +kernel
theorem dX8_worst_1 : decode cX8_worst 1 = .ok (.istore 6, 2) := by decide +kernel
theorem dX8_worst_3 : decode cX8_worst 3 = .ok (.iload_n 1, 1) := by decide +kernel
theorem dX8_worst_4 : decode cX8_worst 4 = .ok (.iconst 1, 1) := by decide +kernel
theorem dX8_worst_5 : decode cX8_worst 5 = .ok (.if_icmp .lt 24, 3) := by decide +kernel
theorem dX8_worst_8 : decode cX8_worst 8 = .ok (.iload_n 1, 1) := by decide +kernel
theorem dX8_worst_9 : decode cX8_worst 9 = .ok (.bipush 12, 2) := by decide +kernel
theorem dX8_worst_11 : decode cX8_worst 11 = .ok (.if_icmp .gt 18, 3) := by decide +kernel
theorem dX8_worst_14 : decode cX8_worst 14 = .ok (.lload_n 2, 1) := by decide +kernel
theorem dX8_worst_15 : decode cX8_worst 15 = .ok (.invokestatic 150, 3) := by decide +kernel
theorem dX8_worst_18 : decode cX8_worst 18 = .ok (.ifCond .eq 11, 3) := by decide +kernel
theorem dX8_worst_21 : decode cX8_worst 21 = .ok (.lload 4, 2) := by decide +kernel
theorem dX8_worst_23 : decode cX8_worst 23 = .ok (.invokestatic 150, 3) := by decide +kernel
theorem dX8_worst_26 : decode cX8_worst 26 = .ok (.ifCond .ne 10, 3) := by decide +kernel
theorem dX8_worst_29 : decode cX8_worst 29 = .ok (.bipush (-2), 2) := by decide +kernel
theorem dX8_worst_31 : decode cX8_worst 31 = .ok (.istore 6, 2) := by decide +kernel
theorem dX8_worst_33 : decode cX8_worst 33 = .ok (.goto 48, 3) := by decide +kernel
theorem dX8_worst_36 : decode cX8_worst 36 = .ok (.aload_n 0, 1) := by decide +kernel
theorem dX8_worst_37 : decode cX8_worst 37 = .ok (.getfield 19, 3) := by decide +kernel
theorem dX8_worst_40 : decode cX8_worst 40 = .ok (.getfield 141, 3) := by decide +kernel
theorem dX8_worst_43 : decode cX8_worst 43 = .ok (.ifCond .eq 13, 3) := by decide +kernel
theorem dX8_worst_46 : decode cX8_worst 46 = .ok (.aload_n 0, 1) := by decide +kernel
theorem dX8_worst_47 : decode cX8_worst 47 = .ok (.getfield 19, 3) := by decide +kernel
theorem dX8_worst_50 : decode cX8_worst 50 = .ok (.getfield 169, 3) := by decide +kernel
theorem dX8_worst_53 : decode cX8_worst 53 = .ok (.ifCond .eq 10, 3) := by decide +kernel
theorem dX8_worst_56 : decode cX8_worst 56 = .ok (.bipush (-7), 2) := by decide +kernel
theorem dX8_worst_58 : decode cX8_worst 58 = .ok (.istore 6, 2) := by decide +kernel
theorem dX8_worst_60 : decode cX8_worst 60 = .ok (.goto 21, 3) := by decide +kernel
theorem dX8_worst_63 : decode cX8_worst 63 = .ok (.aload_n 0, 1) := by decide +kernel
theorem dX8_worst_64 : decode cX8_worst 64 = .ok (.getfield 54, 3) := by decide +kernel
theorem dX8_worst_67 : decode cX8_worst 67 = .ok (.iload_n 1, 1) := by decide +kernel
theorem dX8_worst_68 : decode cX8_worst 68 = .ok (.lload_n 2, 1) := by decide +kernel
theorem dX8_worst_69 : decode cX8_worst 69 = .ok (.lload 4, 2) := by decide +kernel
theorem dX8_worst_71 : decode cX8_worst 71 = .ok (.invokevirtual 264, 3) := by decide +kernel
theorem dX8_worst_74 : decode cX8_worst 74 = .ok (.ifCond .ne 7, 3) := by decide +kernel
theorem dX8_worst_77 : decode cX8_worst 77 = .ok (.bipush (-6), 2) := by decide +kernel
theorem dX8_worst_79 : decode cX8_worst 79 = .ok (.istore 6, 2) := by decide +kernel
theorem dX8_worst_81 : decode cX8_worst 81 = .ok (.aload_n 0, 1) := by decide +kernel
theorem dX8_worst_82 : decode cX8_worst 82 = .ok (.getfield 54, 3) := by decide +kernel
theorem dX8_worst_85 : decode cX8_worst 85 = .ok (.iload 6, 2) := by decide +kernel
theorem dX8_worst_87 : decode cX8_worst 87 = .ok (.putfield 268, 3) := by decide +kernel
theorem dX8_worst_90 : decode cX8_worst 90 = .ok (.iload 6, 2) := by decide +kernel
theorem dX8_worst_92 : decode cX8_worst 92 = .ok (.ifCond .ne 13, 3) := by decide +kernel
theorem dX8_worst_95 : decode cX8_worst 95 = .ok (.aload_n 0, 1) := by decide +kernel
theorem dX8_worst_96 : decode cX8_worst 96 = .ok (.getfield 54, 3) := by decide +kernel
theorem dX8_worst_99 : decode cX8_worst 99 = .ok (.getfield 271, 3) := by decide +kernel
theorem dX8_worst_102 : decode cX8_worst 102 = .ok (.goto 6, 3) := by decide +kernel
theorem dX8_worst_105 : decode cX8_worst 105 = .ok (.ldc2_w 199, 3) := by decide +kernel
theorem dX8_worst_108 : decode cX8_worst 108 = .ok (.lreturn, 1) := by decide +kernel
theorem dX8_worstAt_0 : decode cX8_worstAt 0 = .ok (.aload_n 0, 1) := by decide +kernel
theorem dX8_worstAt_1 : decode cX8_worstAt 1 = .ok (.getfield 54, 3) := by decide +kernel
theorem dX8_worstAt_4 : decode cX8_worstAt 4 = .ok (.iload_n 1, 1) := by decide +kernel
theorem dX8_worstAt_5 : decode cX8_worstAt 5 = .ok (.invokevirtual 273, 3) := by decide +kernel
theorem dX8_worstAt_8 : decode cX8_worstAt 8 = .ok (.lreturn, 1) := by decide +kernel
theorem dX8_count_0 : decode cX8_count 0 = .ok (.iload_n 1, 1) := by decide +kernel
theorem dX8_count_1 : decode cX8_count 1 = .ok (.tableswitch 84 0 5 #[39, 47, 55, 63, 71, 76], 39) := by decide +kernel
theorem dX8_count_40 : decode cX8_count 40 = .ok (.aload_n 0, 1) := by decide +kernel
theorem dX8_count_41 : decode cX8_count 41 = .ok (.getfield 19, 3) := by decide +kernel
theorem dX8_count_44 : decode cX8_count 44 = .ok (.getfield 141, 3) := by decide +kernel
theorem dX8_count_47 : decode cX8_count 47 = .ok (.ireturn, 1) := by decide +kernel
theorem dX8_count_48 : decode cX8_count 48 = .ok (.aload_n 0, 1) := by decide +kernel
theorem dX8_count_49 : decode cX8_count 49 = .ok (.getfield 19, 3) := by decide +kernel
theorem dX8_count_52 : decode cX8_count 52 = .ok (.getfield 275, 3) := by decide +kernel
theorem dX8_count_55 : decode cX8_count 55 = .ok (.ireturn, 1) := by decide +kernel
theorem dX8_count_56 : decode cX8_count 56 = .ok (.aload_n 0, 1) := by decide +kernel
theorem dX8_count_57 : decode cX8_count 57 = .ok (.getfield 26, 3) := by decide +kernel
theorem dX8_count_60 : decode cX8_count 60 = .ok (.getfield 138, 3) := by decide +kernel
theorem dX8_count_63 : decode cX8_count 63 = .ok (.ireturn, 1) := by decide +kernel
theorem dX8_count_64 : decode cX8_count 64 = .ok (.aload_n 0, 1) := by decide +kernel
theorem dX8_count_65 : decode cX8_count 65 = .ok (.getfield 65, 3) := by decide +kernel
theorem dX8_count_68 : decode cX8_count 68 = .ok (.getfield 227, 3) := by decide +kernel
theorem dX8_count_71 : decode cX8_count 71 = .ok (.ireturn, 1) := by decide +kernel
theorem dX8_count_72 : decode cX8_count 72 = .ok (.aload_n 0, 1) := by decide +kernel
theorem dX8_count_73 : decode cX8_count 73 = .ok (.getfield 72, 3) := by decide +kernel
theorem dX8_count_76 : decode cX8_count 76 = .ok (.ireturn, 1) := by decide +kernel
theorem dX8_count_77 : decode cX8_count 77 = .ok (.aload_n 0, 1) := by decide +kernel
theorem dX8_count_78 : decode cX8_count 78 = .ok (.getfield 54, 3) := by decide +kernel
theorem dX8_count_81 : decode cX8_count 81 = .ok (.getfield 268, 3) := by decide +kernel
theorem dX8_count_84 : decode cX8_count 84 = .ok (.ireturn, 1) := by decide +kernel
theorem dX8_count_85 : decode cX8_count 85 = .ok (.bipush (-2), 2) := by decide +kernel
theorem dX8_count_87 : decode cX8_count 87 = .ok (.ireturn, 1) := by decide +kernel
theorem dX8_digest_0 : decode cX8_digest 0 = .ok (.ldc2_w 278, 3) := by decide +kernel
theorem dX8_digest_3 : decode cX8_digest 3 = .ok (.lstore_n 1, 1) := by decide +kernel
theorem dX8_digest_4 : decode cX8_digest 4 = .ok (.iconst 0, 1) := by decide +kernel
theorem dX8_digest_5 : decode cX8_digest 5 = .ok (.istore_n 3, 1) := by decide +kernel
theorem dX8_digest_6 : decode cX8_digest 6 = .ok (.iload_n 3, 1) := by decide +kernel
theorem dX8_digest_7 : decode cX8_digest 7 = .ok (.aload_n 0, 1) := by decide +kernel
theorem dX8_digest_8 : decode cX8_digest 8 = .ok (.getfield 19, 3) := by decide +kernel
theorem dX8_digest_11 : decode cX8_digest 11 = .ok (.getfield 141, 3) := by decide +kernel
theorem dX8_digest_14 : decode cX8_digest 14 = .ok (.if_icmp .ge 64, 3) := by decide +kernel
theorem dX8_digest_17 : decode cX8_digest 17 = .ok (.iconst 0, 1) := by decide +kernel
theorem dX8_digest_18 : decode cX8_digest 18 = .ok (.istore 4, 2) := by decide +kernel
theorem dX8_digest_20 : decode cX8_digest 20 = .ok (.iload 4, 2) := by decide +kernel
theorem dX8_digest_22 : decode cX8_digest 22 = .ok (.bipush 6, 2) := by decide +kernel
theorem dX8_digest_24 : decode cX8_digest 24 = .ok (.if_icmp .ge 31, 3) := by decide +kernel
theorem dX8_digest_27 : decode cX8_digest 27 = .ok (.ldc2_w 280, 3) := by decide +kernel
theorem dX8_digest_30 : decode cX8_digest 30 = .ok (.lload_n 1, 1) := by decide +kernel
theorem dX8_digest_31 : decode cX8_digest 31 = .ok (.lmul, 1) := by decide +kernel
theorem dX8_digest_32 : decode cX8_digest 32 = .ok (.aload_n 0, 1) := by decide +kernel
theorem dX8_digest_33 : decode cX8_digest 33 = .ok (.getfield 65, 3) := by decide +kernel
theorem dX8_digest_36 : decode cX8_digest 36 = .ok (.getfield 204, 3) := by decide +kernel
theorem dX8_digest_39 : decode cX8_digest 39 = .ok (.iload_n 3, 1) := by decide +kernel
theorem dX8_digest_40 : decode cX8_digest 40 = .ok (.bipush 6, 2) := by decide +kernel
theorem dX8_digest_42 : decode cX8_digest 42 = .ok (.imul, 1) := by decide +kernel
theorem dX8_digest_43 : decode cX8_digest 43 = .ok (.iload 4, 2) := by decide +kernel
theorem dX8_digest_45 : decode cX8_digest 45 = .ok (.iadd, 1) := by decide +kernel
theorem dX8_digest_46 : decode cX8_digest 46 = .ok (.laload, 1) := by decide +kernel
theorem dX8_digest_47 : decode cX8_digest 47 = .ok (.ladd, 1) := by decide +kernel
theorem dX8_digest_48 : decode cX8_digest 48 = .ok (.lstore_n 1, 1) := by decide +kernel
theorem dX8_digest_49 : decode cX8_digest 49 = .ok (.iinc 4 1, 3) := by decide +kernel
theorem dX8_digest_52 : decode cX8_digest 52 = .ok (.goto (-32), 3) := by decide +kernel
theorem dX8_digest_55 : decode cX8_digest 55 = .ok (.ldc2_w 280, 3) := by decide +kernel
theorem dX8_digest_58 : decode cX8_digest 58 = .ok (.lload_n 1, 1) := by decide +kernel
theorem dX8_digest_59 : decode cX8_digest 59 = .ok (.lmul, 1) := by decide +kernel
theorem dX8_digest_60 : decode cX8_digest 60 = .ok (.aload_n 0, 1) := by decide +kernel
theorem dX8_digest_61 : decode cX8_digest 61 = .ok (.getfield 19, 3) := by decide +kernel
theorem dX8_digest_64 : decode cX8_digest 64 = .ok (.getfield 201, 3) := by decide +kernel
theorem dX8_digest_67 : decode cX8_digest 67 = .ok (.iload_n 3, 1) := by decide +kernel
theorem dX8_digest_68 : decode cX8_digest 68 = .ok (.iaload, 1) := by decide +kernel
theorem dX8_digest_69 : decode cX8_digest 69 = .ok (.i2l, 1) := by decide +kernel
theorem dX8_digest_70 : decode cX8_digest 70 = .ok (.ladd, 1) := by decide +kernel
theorem dX8_digest_71 : decode cX8_digest 71 = .ok (.lstore_n 1, 1) := by decide +kernel
theorem dX8_digest_72 : decode cX8_digest 72 = .ok (.iinc 3 1, 3) := by decide +kernel
theorem dX8_digest_75 : decode cX8_digest 75 = .ok (.goto (-69), 3) := by decide +kernel
theorem dX8_digest_78 : decode cX8_digest 78 = .ok (.iconst 0, 1) := by decide +kernel
theorem dX8_digest_79 : decode cX8_digest 79 = .ok (.istore_n 3, 1) := by decide +kernel
theorem dX8_digest_80 : decode cX8_digest 80 = .ok (.iload_n 3, 1) := by decide +kernel
theorem dX8_digest_81 : decode cX8_digest 81 = .ok (.aload_n 0, 1) := by decide +kernel
theorem dX8_digest_82 : decode cX8_digest 82 = .ok (.getfield 19, 3) := by decide +kernel
theorem dX8_digest_85 : decode cX8_digest 85 = .ok (.getfield 275, 3) := by decide +kernel
theorem dX8_digest_88 : decode cX8_digest 88 = .ok (.if_icmp .ge 25, 3) := by decide +kernel
theorem dX8_digest_91 : decode cX8_digest 91 = .ok (.ldc2_w 280, 3) := by decide +kernel
theorem dX8_digest_94 : decode cX8_digest 94 = .ok (.lload_n 1, 1) := by decide +kernel
theorem dX8_digest_95 : decode cX8_digest 95 = .ok (.lmul, 1) := by decide +kernel
theorem dX8_digest_96 : decode cX8_digest 96 = .ok (.aload_n 0, 1) := by decide +kernel
theorem dX8_digest_97 : decode cX8_digest 97 = .ok (.getfield 19, 3) := by decide +kernel
theorem dX8_digest_100 : decode cX8_digest 100 = .ok (.getfield 165, 3) := by decide +kernel
theorem dX8_digest_103 : decode cX8_digest 103 = .ok (.iload_n 3, 1) := by decide +kernel
theorem dX8_digest_104 : decode cX8_digest 104 = .ok (.laload, 1) := by decide +kernel
theorem dX8_digest_105 : decode cX8_digest 105 = .ok (.ladd, 1) := by decide +kernel
theorem dX8_digest_106 : decode cX8_digest 106 = .ok (.lstore_n 1, 1) := by decide +kernel
theorem dX8_digest_107 : decode cX8_digest 107 = .ok (.iinc 3 1, 3) := by decide +kernel
theorem dX8_digest_110 : decode cX8_digest 110 = .ok (.goto (-30), 3) := by decide +kernel
theorem dX8_digest_113 : decode cX8_digest 113 = .ok (.ldc2_w 280, 3) := by decide +kernel
theorem dX8_digest_116 : decode cX8_digest 116 = .ok (.lload_n 1, 1) := by decide +kernel
theorem dX8_digest_117 : decode cX8_digest 117 = .ok (.lmul, 1) := by decide +kernel
theorem dX8_digest_118 : decode cX8_digest 118 = .ok (.aload_n 0, 1) := by decide +kernel
theorem dX8_digest_119 : decode cX8_digest 119 = .ok (.getfield 65, 3) := by decide +kernel
theorem dX8_digest_122 : decode cX8_digest 122 = .ok (.getfield 176, 3) := by decide +kernel
theorem dX8_digest_125 : decode cX8_digest 125 = .ok (.ladd, 1) := by decide +kernel
theorem dX8_digest_126 : decode cX8_digest 126 = .ok (.lstore_n 1, 1) := by decide +kernel
theorem dX8_digest_127 : decode cX8_digest 127 = .ok (.iconst 0, 1) := by decide +kernel
theorem dX8_digest_128 : decode cX8_digest 128 = .ok (.istore_n 3, 1) := by decide +kernel
theorem dX8_digest_129 : decode cX8_digest 129 = .ok (.iload_n 3, 1) := by decide +kernel
theorem dX8_digest_130 : decode cX8_digest 130 = .ok (.aload_n 0, 1) := by decide +kernel
theorem dX8_digest_131 : decode cX8_digest 131 = .ok (.getfield 26, 3) := by decide +kernel
theorem dX8_digest_134 : decode cX8_digest 134 = .ok (.getfield 138, 3) := by decide +kernel
theorem dX8_digest_137 : decode cX8_digest 137 = .ok (.if_icmp .ge 45, 3) := by decide +kernel
theorem dX8_digest_140 : decode cX8_digest 140 = .ok (.ldc2_w 280, 3) := by decide +kernel
theorem dX8_digest_143 : decode cX8_digest 143 = .ok (.lload_n 1, 1) := by decide +kernel
theorem dX8_digest_144 : decode cX8_digest 144 = .ok (.lmul, 1) := by decide +kernel
theorem dX8_digest_145 : decode cX8_digest 145 = .ok (.aload_n 0, 1) := by decide +kernel
theorem dX8_digest_146 : decode cX8_digest 146 = .ok (.getfield 26, 3) := by decide +kernel
theorem dX8_digest_149 : decode cX8_digest 149 = .ok (.getfield 210, 3) := by decide +kernel
theorem dX8_digest_152 : decode cX8_digest 152 = .ok (.iload_n 3, 1) := by decide +kernel
theorem dX8_digest_153 : decode cX8_digest 153 = .ok (.bipush 7, 2) := by decide +kernel
theorem dX8_digest_155 : decode cX8_digest 155 = .ok (.imul, 1) := by decide +kernel
theorem dX8_digest_156 : decode cX8_digest 156 = .ok (.iconst 0, 1) := by decide +kernel
theorem dX8_digest_157 : decode cX8_digest 157 = .ok (.iadd, 1) := by decide +kernel
theorem dX8_digest_158 : decode cX8_digest 158 = .ok (.laload, 1) := by decide +kernel
theorem dX8_digest_159 : decode cX8_digest 159 = .ok (.ladd, 1) := by decide +kernel
theorem dX8_digest_160 : decode cX8_digest 160 = .ok (.lstore_n 1, 1) := by decide +kernel
theorem dX8_digest_161 : decode cX8_digest 161 = .ok (.ldc2_w 280, 3) := by decide +kernel
theorem dX8_digest_164 : decode cX8_digest 164 = .ok (.lload_n 1, 1) := by decide +kernel
theorem dX8_digest_165 : decode cX8_digest 165 = .ok (.lmul, 1) := by decide +kernel
theorem dX8_digest_166 : decode cX8_digest 166 = .ok (.aload_n 0, 1) := by decide +kernel
theorem dX8_digest_167 : decode cX8_digest 167 = .ok (.getfield 26, 3) := by decide +kernel
theorem dX8_digest_170 : decode cX8_digest 170 = .ok (.iload_n 3, 1) := by decide +kernel
theorem dX8_digest_171 : decode cX8_digest 171 = .ok (.invokevirtual 218, 3) := by decide +kernel
theorem dX8_digest_174 : decode cX8_digest 174 = .ok (.ladd, 1) := by decide +kernel
theorem dX8_digest_175 : decode cX8_digest 175 = .ok (.lstore_n 1, 1) := by decide +kernel
theorem dX8_digest_176 : decode cX8_digest 176 = .ok (.iinc 3 1, 3) := by decide +kernel
theorem dX8_digest_179 : decode cX8_digest 179 = .ok (.goto (-50), 3) := by decide +kernel
theorem dX8_digest_182 : decode cX8_digest 182 = .ok (.lload_n 1, 1) := by decide +kernel
theorem dX8_digest_183 : decode cX8_digest 183 = .ok (.lreturn, 1) := by decide +kernel
theorem dX8_found_0 : decode cX8_found 0 = .ok (.aload_n 0, 1) := by decide +kernel
theorem dX8_found_1 : decode cX8_found 1 = .ok (.iload_n 1, 1) := by decide +kernel
theorem dX8_found_2 : decode cX8_found 2 = .ok (.putfield 72, 3) := by decide +kernel
theorem dX8_found_5 : decode cX8_found 5 = .ok (.bipush (-10), 2) := by decide +kernel
theorem dX8_found_7 : decode cX8_found 7 = .ok (.iload_n 1, 1) := by decide +kernel
theorem dX8_found_8 : decode cX8_found 8 = .ok (.isub, 1) := by decide +kernel
theorem dX8_found_9 : decode cX8_found 9 = .ok (.ireturn, 1) := by decide +kernel
theorem dX8_refuseItem_0 : decode cX8_refuseItem 0 = .ok (.iload_n 1, 1) := by decide +kernel
theorem dX8_refuseItem_1 : decode cX8_refuseItem 1 = .ok (.invokestatic 76, 3) := by decide +kernel
theorem dX8_refuseItem_4 : decode cX8_refuseItem 4 = .ok (.ifCond .eq 10, 3) := by decide +kernel
theorem dX8_refuseItem_7 : decode cX8_refuseItem 7 = .ok (.iload_n 2, 1) := by decide +kernel
theorem dX8_refuseItem_8 : decode cX8_refuseItem 8 = .ok (.invokestatic 80, 3) := by decide +kernel
theorem dX8_refuseItem_11 : decode cX8_refuseItem 11 = .ok (.ifCond .ne 6, 3) := by decide +kernel
theorem dX8_refuseItem_14 : decode cX8_refuseItem 14 = .ok (.bipush (-2), 2) := by decide +kernel
theorem dX8_refuseItem_16 : decode cX8_refuseItem 16 = .ok (.ireturn, 1) := by decide +kernel
theorem dX8_refuseItem_17 : decode cX8_refuseItem 17 = .ok (.aload_n 0, 1) := by decide +kernel
theorem dX8_refuseItem_18 : decode cX8_refuseItem 18 = .ok (.getfield 11, 3) := by decide +kernel
theorem dX8_refuseItem_21 : decode cX8_refuseItem 21 = .ok (.iload_n 1, 1) := by decide +kernel
theorem dX8_refuseItem_22 : decode cX8_refuseItem 22 = .ok (.aaload, 1) := by decide +kernel
theorem dX8_refuseItem_23 : decode cX8_refuseItem 23 = .ok (.getfield 91, 3) := by decide +kernel
theorem dX8_refuseItem_26 : decode cX8_refuseItem 26 = .ok (.ifCond .eq 9, 3) := by decide +kernel
theorem dX8_refuseItem_29 : decode cX8_refuseItem 29 = .ok (.aload_n 0, 1) := by decide +kernel
theorem dX8_refuseItem_30 : decode cX8_refuseItem 30 = .ok (.iconst 1, 1) := by decide +kernel
theorem dX8_refuseItem_31 : decode cX8_refuseItem 31 = .ok (.invokevirtual 83, 3) := by decide +kernel
theorem dX8_refuseItem_34 : decode cX8_refuseItem 34 = .ok (.ireturn, 1) := by decide +kernel
theorem dX8_refuseItem_35 : decode cX8_refuseItem 35 = .ok (.aload_n 0, 1) := by decide +kernel
theorem dX8_refuseItem_36 : decode cX8_refuseItem 36 = .ok (.getfield 11, 3) := by decide +kernel
theorem dX8_refuseItem_39 : decode cX8_refuseItem 39 = .ok (.iload_n 1, 1) := by decide +kernel
theorem dX8_refuseItem_40 : decode cX8_refuseItem 40 = .ok (.aaload, 1) := by decide +kernel
theorem dX8_refuseItem_41 : decode cX8_refuseItem 41 = .ok (.getfield 110, 3) := by decide +kernel
theorem dX8_refuseItem_44 : decode cX8_refuseItem 44 = .ok (.iload_n 2, 1) := by decide +kernel
theorem dX8_refuseItem_45 : decode cX8_refuseItem 45 = .ok (.if_icmp .eq 9, 3) := by decide +kernel
theorem dX8_refuseItem_48 : decode cX8_refuseItem 48 = .ok (.aload_n 0, 1) := by decide +kernel
theorem dX8_refuseItem_49 : decode cX8_refuseItem 49 = .ok (.iconst 3, 1) := by decide +kernel
theorem dX8_refuseItem_50 : decode cX8_refuseItem 50 = .ok (.invokevirtual 83, 3) := by decide +kernel
theorem dX8_refuseItem_53 : decode cX8_refuseItem 53 = .ok (.ireturn, 1) := by decide +kernel
theorem dX8_refuseItem_54 : decode cX8_refuseItem 54 = .ok (.aload_n 0, 1) := by decide +kernel
theorem dX8_refuseItem_55 : decode cX8_refuseItem 55 = .ok (.getfield 11, 3) := by decide +kernel
theorem dX8_refuseItem_58 : decode cX8_refuseItem 58 = .ok (.iload_n 1, 1) := by decide +kernel
theorem dX8_refuseItem_59 : decode cX8_refuseItem 59 = .ok (.aaload, 1) := by decide +kernel
theorem dX8_refuseItem_60 : decode cX8_refuseItem 60 = .ok (.iload_n 3, 1) := by decide +kernel
theorem dX8_refuseItem_61 : decode cX8_refuseItem 61 = .ok (.i2l, 1) := by decide +kernel
theorem dX8_refuseItem_62 : decode cX8_refuseItem 62 = .ok (.invokevirtual 282, 3) := by decide +kernel
theorem dX8_refuseItem_65 : decode cX8_refuseItem 65 = .ok (.ifCond .eq 7, 3) := by decide +kernel
theorem dX8_refuseItem_68 : decode cX8_refuseItem 68 = .ok (.iconst 0, 1) := by decide +kernel
theorem dX8_refuseItem_69 : decode cX8_refuseItem 69 = .ok (.goto 8, 3) := by decide +kernel
theorem dX8_refuseItem_72 : decode cX8_refuseItem 72 = .ok (.aload_n 0, 1) := by decide +kernel
theorem dX8_refuseItem_73 : decode cX8_refuseItem 73 = .ok (.iconst 2, 1) := by decide +kernel
theorem dX8_refuseItem_74 : decode cX8_refuseItem 74 = .ok (.invokevirtual 83, 3) := by decide +kernel
theorem dX8_refuseItem_77 : decode cX8_refuseItem 77 = .ok (.ireturn, 1) := by decide +kernel
theorem dX8_refuseSample_0 : decode cX8_refuseSample 0 = .ok (.aload_n 0, 1) := by decide +kernel
theorem dX8_refuseSample_1 : decode cX8_refuseSample 1 = .ok (.getfield 11, 3) := by decide +kernel
theorem dX8_refuseSample_4 : decode cX8_refuseSample 4 = .ok (.iload_n 1, 1) := by decide +kernel
theorem dX8_refuseSample_5 : decode cX8_refuseSample 5 = .ok (.aaload, 1) := by decide +kernel
theorem dX8_refuseSample_6 : decode cX8_refuseSample 6 = .ok (.getfield 91, 3) := by decide +kernel
theorem dX8_refuseSample_9 : decode cX8_refuseSample 9 = .ok (.ifCond .eq 9, 3) := by decide +kernel
theorem dX8_refuseSample_12 : decode cX8_refuseSample 12 = .ok (.aload_n 0, 1) := by decide +kernel
theorem dX8_refuseSample_13 : decode cX8_refuseSample 13 = .ok (.iconst 1, 1) := by decide +kernel
theorem dX8_refuseSample_14 : decode cX8_refuseSample 14 = .ok (.invokevirtual 83, 3) := by decide +kernel
theorem dX8_refuseSample_17 : decode cX8_refuseSample 17 = .ok (.ireturn, 1) := by decide +kernel
theorem dX8_refuseSample_18 : decode cX8_refuseSample 18 = .ok (.aload_n 0, 1) := by decide +kernel
theorem dX8_refuseSample_19 : decode cX8_refuseSample 19 = .ok (.getfield 11, 3) := by decide +kernel
theorem dX8_refuseSample_22 : decode cX8_refuseSample 22 = .ok (.iload_n 1, 1) := by decide +kernel
theorem dX8_refuseSample_23 : decode cX8_refuseSample 23 = .ok (.aaload, 1) := by decide +kernel
theorem dX8_refuseSample_24 : decode cX8_refuseSample 24 = .ok (.lload_n 2, 1) := by decide +kernel
theorem dX8_refuseSample_25 : decode cX8_refuseSample 25 = .ok (.invokevirtual 282, 3) := by decide +kernel
theorem dX8_refuseSample_28 : decode cX8_refuseSample 28 = .ok (.ifCond .eq 7, 3) := by decide +kernel
theorem dX8_refuseSample_31 : decode cX8_refuseSample 31 = .ok (.iconst 0, 1) := by decide +kernel
theorem dX8_refuseSample_32 : decode cX8_refuseSample 32 = .ok (.goto 8, 3) := by decide +kernel
theorem dX8_refuseSample_35 : decode cX8_refuseSample 35 = .ok (.aload_n 0, 1) := by decide +kernel
theorem dX8_refuseSample_36 : decode cX8_refuseSample 36 = .ok (.iconst 2, 1) := by decide +kernel
theorem dX8_refuseSample_37 : decode cX8_refuseSample 37 = .ok (.invokevirtual 83, 3) := by decide +kernel
theorem dX8_refuseSample_40 : decode cX8_refuseSample 40 = .ok (.ireturn, 1) := by decide +kernel
theorem dX8_makeOne_0 : decode cX8_makeOne 0 = .ok (.aload_n 0, 1) := by decide +kernel
theorem dX8_makeOne_1 : decode cX8_makeOne 1 = .ok (.getfield 26, 3) := by decide +kernel
theorem dX8_makeOne_4 : decode cX8_makeOne 4 = .ok (.getfield 138, 3) := by decide +kernel
theorem dX8_makeOne_7 : decode cX8_makeOne 7 = .ok (.sipush 300, 3) := by decide +kernel
theorem dX8_makeOne_10 : decode cX8_makeOne 10 = .ok (.if_icmp .lt 6, 3) := by decide +kernel
theorem dX8_makeOne_13 : decode cX8_makeOne 13 = .ok (.bipush (-4), 2) := by decide +kernel
theorem dX8_makeOne_15 : decode cX8_makeOne 15 = .ok (.ireturn, 1) := by decide +kernel
theorem dX8_makeOne_16 : decode cX8_makeOne 16 = .ok (.aload_n 0, 1) := by decide +kernel
theorem dX8_makeOne_17 : decode cX8_makeOne 17 = .ok (.getfield 69, 3) := by decide +kernel
theorem dX8_makeOne_20 : decode cX8_makeOne 20 = .ok (.aload_n 0, 1) := by decide +kernel
theorem dX8_makeOne_21 : decode cX8_makeOne 21 = .ok (.getfield 65, 3) := by decide +kernel
theorem dX8_makeOne_24 : decode cX8_makeOne 24 = .ok (.invokevirtual 192, 3) := by decide +kernel
theorem dX8_makeOne_27 : decode cX8_makeOne 27 = .ok (.aload_n 0, 1) := by decide +kernel
theorem dX8_makeOne_28 : decode cX8_makeOne 28 = .ok (.getfield 69, 3) := by decide +kernel
theorem dX8_makeOne_31 : decode cX8_makeOne 31 = .ok (.lload_n 1, 1) := by decide +kernel
theorem dX8_makeOne_32 : decode cX8_makeOne 32 = .ok (.invokevirtual 189, 3) := by decide +kernel
theorem dX8_makeOne_35 : decode cX8_makeOne 35 = .ok (.ifCond .ne 6, 3) := by decide +kernel
theorem dX8_makeOne_38 : decode cX8_makeOne 38 = .ok (.bipush (-6), 2) := by decide +kernel
theorem dX8_makeOne_40 : decode cX8_makeOne 40 = .ok (.ireturn, 1) := by decide +kernel
theorem dX8_makeOne_41 : decode cX8_makeOne 41 = .ok (.aload_n 0, 1) := by decide +kernel
theorem dX8_makeOne_42 : decode cX8_makeOne 42 = .ok (.getfield 65, 3) := by decide +kernel
theorem dX8_makeOne_45 : decode cX8_makeOne 45 = .ok (.astore_n 3, 1) := by decide +kernel
theorem dX8_makeOne_46 : decode cX8_makeOne 46 = .ok (.aload_n 0, 1) := by decide +kernel
theorem dX8_makeOne_47 : decode cX8_makeOne 47 = .ok (.aload_n 0, 1) := by decide +kernel
theorem dX8_makeOne_48 : decode cX8_makeOne 48 = .ok (.getfield 69, 3) := by decide +kernel
theorem dX8_makeOne_51 : decode cX8_makeOne 51 = .ok (.putfield 65, 3) := by decide +kernel
theorem dX8_makeOne_54 : decode cX8_makeOne 54 = .ok (.aload_n 0, 1) := by decide +kernel
theorem dX8_makeOne_55 : decode cX8_makeOne 55 = .ok (.aload_n 3, 1) := by decide +kernel
theorem dX8_makeOne_56 : decode cX8_makeOne 56 = .ok (.putfield 69, 3) := by decide +kernel
theorem dX8_makeOne_59 : decode cX8_makeOne 59 = .ok (.aload_n 0, 1) := by decide +kernel
theorem dX8_makeOne_60 : decode cX8_makeOne 60 = .ok (.getfield 26, 3) := by decide +kernel
theorem dX8_makeOne_63 : decode cX8_makeOne 63 = .ok (.lload_n 1, 1) := by decide +kernel
theorem dX8_makeOne_64 : decode cX8_makeOne 64 = .ok (.aload_n 0, 1) := by decide +kernel
theorem dX8_makeOne_65 : decode cX8_makeOne 65 = .ok (.getfield 65, 3) := by decide +kernel
theorem dX8_makeOne_68 : decode cX8_makeOne 68 = .ok (.invokevirtual 285, 3) := by decide +kernel
theorem dX8_makeOne_71 : decode cX8_makeOne 71 = .ok (.aload_n 0, 1) := by decide +kernel
theorem dX8_makeOne_72 : decode cX8_makeOne 72 = .ok (.getfield 65, 3) := by decide +kernel
theorem dX8_makeOne_75 : decode cX8_makeOne 75 = .ok (.getfield 289, 3) := by decide +kernel
theorem dX8_makeOne_78 : decode cX8_makeOne 78 = .ok (.ireturn, 1) := by decide +kernel
theorem dX8_isRecorded_0 : decode cX8_isRecorded 0 = .ok (.aload_n 0, 1) := by decide +kernel
theorem dX8_isRecorded_1 : decode cX8_isRecorded 1 = .ok (.getfield 26, 3) := by decide +kernel
theorem dX8_isRecorded_4 : decode cX8_isRecorded 4 = .ok (.iload_n 1, 1) := by decide +kernel
theorem dX8_isRecorded_5 : decode cX8_isRecorded 5 = .ok (.invokevirtual 215, 3) := by decide +kernel
theorem dX8_isRecorded_8 : decode cX8_isRecorded 8 = .ok (.ifCond .eq 24, 3) := by decide +kernel
theorem dX8_isRecorded_11 : decode cX8_isRecorded 11 = .ok (.iload_n 2, 1) := by decide +kernel
theorem dX8_isRecorded_12 : decode cX8_isRecorded 12 = .ok (.ifCond .lt 20, 3) := by decide +kernel
theorem dX8_isRecorded_15 : decode cX8_isRecorded 15 = .ok (.iload_n 2, 1) := by decide +kernel
theorem dX8_isRecorded_16 : decode cX8_isRecorded 16 = .ok (.iconst 2, 1) := by decide +kernel
theorem dX8_isRecorded_17 : decode cX8_isRecorded 17 = .ok (.aload_n 0, 1) := by decide +kernel
theorem dX8_isRecorded_18 : decode cX8_isRecorded 18 = .ok (.getfield 19, 3) := by decide +kernel
theorem dX8_isRecorded_21 : decode cX8_isRecorded 21 = .ok (.getfield 141, 3) := by decide +kernel
theorem dX8_isRecorded_24 : decode cX8_isRecorded 24 = .ok (.iadd, 1) := by decide +kernel
theorem dX8_isRecorded_25 : decode cX8_isRecorded 25 = .ok (.if_icmp .ge 7, 3) := by decide +kernel
theorem dX8_isRecorded_28 : decode cX8_isRecorded 28 = .ok (.iconst 1, 1) := by decide +kernel
theorem dX8_isRecorded_29 : decode cX8_isRecorded 29 = .ok (.goto 4, 3) := by decide +kernel
theorem dX8_isRecorded_32 : decode cX8_isRecorded 32 = .ok (.iconst 0, 1) := by decide +kernel
theorem dX8_isRecorded_33 : decode cX8_isRecorded 33 = .ok (.ireturn, 1) := by decide +kernel
theorem dX8_isReachable_0 : decode cX8_isReachable 0 = .ok (.aload_n 0, 1) := by decide +kernel
theorem dX8_isReachable_1 : decode cX8_isReachable 1 = .ok (.getfield 19, 3) := by decide +kernel
theorem dX8_isReachable_4 : decode cX8_isReachable 4 = .ok (.getfield 141, 3) := by decide +kernel
theorem dX8_isReachable_7 : decode cX8_isReachable 7 = .ok (.iconst 1, 1) := by decide +kernel
theorem dX8_isReachable_8 : decode cX8_isReachable 8 = .ok (.if_icmp .lt 24, 3) := by decide +kernel
theorem dX8_isReachable_11 : decode cX8_isReachable 11 = .ok (.aload_n 0, 1) := by decide +kernel
theorem dX8_isReachable_12 : decode cX8_isReachable 12 = .ok (.getfield 19, 3) := by decide +kernel
theorem dX8_isReachable_15 : decode cX8_isReachable 15 = .ok (.getfield 141, 3) := by decide +kernel
theorem dX8_isReachable_18 : decode cX8_isReachable 18 = .ok (.iconst 2, 1) := by decide +kernel
theorem dX8_isReachable_19 : decode cX8_isReachable 19 = .ok (.if_icmp .gt 13, 3) := by decide +kernel
theorem dX8_isReachable_22 : decode cX8_isReachable 22 = .ok (.aload_n 0, 1) := by decide +kernel
theorem dX8_isReachable_23 : decode cX8_isReachable 23 = .ok (.getfield 19, 3) := by decide +kernel
theorem dX8_isReachable_26 : decode cX8_isReachable 26 = .ok (.getfield 169, 3) := by decide +kernel
theorem dX8_isReachable_29 : decode cX8_isReachable 29 = .ok (.ifCond .eq 5, 3) := by decide +kernel
theorem dX8_isReachable_32 : decode cX8_isReachable 32 = .ok (.iconst 0, 1) := by decide +kernel
theorem dX8_isReachable_33 : decode cX8_isReachable 33 = .ok (.ireturn, 1) := by decide +kernel
theorem dX8_isReachable_34 : decode cX8_isReachable 34 = .ok (.iconst 0, 1) := by decide +kernel
theorem dX8_isReachable_35 : decode cX8_isReachable 35 = .ok (.istore_n 1, 1) := by decide +kernel
theorem dX8_isReachable_36 : decode cX8_isReachable 36 = .ok (.iload_n 1, 1) := by decide +kernel
theorem dX8_isReachable_37 : decode cX8_isReachable 37 = .ok (.aload_n 0, 1) := by decide +kernel
theorem dX8_isReachable_38 : decode cX8_isReachable 38 = .ok (.getfield 19, 3) := by decide +kernel
theorem dX8_isReachable_41 : decode cX8_isReachable 41 = .ok (.getfield 141, 3) := by decide +kernel
theorem dX8_isReachable_44 : decode cX8_isReachable 44 = .ok (.if_icmp .ge 24, 3) := by decide +kernel
theorem dX8_isReachable_47 : decode cX8_isReachable 47 = .ok (.aload_n 0, 1) := by decide +kernel
theorem dX8_isReachable_48 : decode cX8_isReachable 48 = .ok (.getfield 19, 3) := by decide +kernel
theorem dX8_isReachable_51 : decode cX8_isReachable 51 = .ok (.getfield 201, 3) := by decide +kernel
theorem dX8_isReachable_54 : decode cX8_isReachable 54 = .ok (.iload_n 1, 1) := by decide +kernel
theorem dX8_isReachable_55 : decode cX8_isReachable 55 = .ok (.iaload, 1) := by decide +kernel
theorem dX8_isReachable_56 : decode cX8_isReachable 56 = .ok (.iconst 3, 1) := by decide +kernel
theorem dX8_isReachable_57 : decode cX8_isReachable 57 = .ok (.if_icmp .ne 5, 3) := by decide +kernel
theorem dX8_isReachable_60 : decode cX8_isReachable 60 = .ok (.iconst 0, 1) := by decide +kernel
theorem dX8_isReachable_61 : decode cX8_isReachable 61 = .ok (.ireturn, 1) := by decide +kernel
theorem dX8_isReachable_62 : decode cX8_isReachable 62 = .ok (.iinc 1 1, 3) := by decide +kernel
theorem dX8_isReachable_65 : decode cX8_isReachable 65 = .ok (.goto (-29), 3) := by decide +kernel
theorem dX8_isReachable_68 : decode cX8_isReachable 68 = .ok (.iconst 1, 1) := by decide +kernel
theorem dX8_isReachable_69 : decode cX8_isReachable 69 = .ok (.ireturn, 1) := by decide +kernel
theorem dX8_isReel_0 : decode cX8_isReel 0 = .ok (.iload_n 0, 1) := by decide +kernel
theorem dX8_isReel_1 : decode cX8_isReel 1 = .ok (.ifCond .lt 13, 3) := by decide +kernel
theorem dX8_isReel_4 : decode cX8_isReel 4 = .ok (.iload_n 0, 1) := by decide +kernel
theorem dX8_isReel_5 : decode cX8_isReel 5 = .ok (.bipush 6, 2) := by decide +kernel
theorem dX8_isReel_7 : decode cX8_isReel 7 = .ok (.if_icmp .ge 7, 3) := by decide +kernel
theorem dX8_isReel_10 : decode cX8_isReel 10 = .ok (.iconst 1, 1) := by decide +kernel
theorem dX8_isReel_11 : decode cX8_isReel 11 = .ok (.goto 4, 3) := by decide +kernel
theorem dX8_isReel_14 : decode cX8_isReel 14 = .ok (.iconst 0, 1) := by decide +kernel
theorem dX8_isReel_15 : decode cX8_isReel 15 = .ok (.ireturn, 1) := by decide +kernel
theorem dX8_isForm_0 : decode cX8_isForm 0 = .ok (.iload_n 0, 1) := by decide +kernel
theorem dX8_isForm_1 : decode cX8_isForm 1 = .ok (.ifCond .lt 13, 3) := by decide +kernel
theorem dX8_isForm_4 : decode cX8_isForm 4 = .ok (.iload_n 0, 1) := by decide +kernel
theorem dX8_isForm_5 : decode cX8_isForm 5 = .ok (.bipush 6, 2) := by decide +kernel
theorem dX8_isForm_7 : decode cX8_isForm 7 = .ok (.if_icmp .ge 7, 3) := by decide +kernel
theorem dX8_isForm_10 : decode cX8_isForm 10 = .ok (.iconst 1, 1) := by decide +kernel
theorem dX8_isForm_11 : decode cX8_isForm 11 = .ok (.goto 4, 3) := by decide +kernel
theorem dX8_isForm_14 : decode cX8_isForm 14 = .ok (.iconst 0, 1) := by decide +kernel
theorem dX8_isForm_15 : decode cX8_isForm 15 = .ok (.ireturn, 1) := by decide +kernel
theorem dX8_isSample_0 : decode cX8_isSample 0 = .ok (.lload_n 0, 1) := by decide +kernel
theorem dX8_isSample_1 : decode cX8_isSample 1 = .ok (.ldc2_w 292, 3) := by decide +kernel
theorem dX8_isSample_4 : decode cX8_isSample 4 = .ok (.lcmp, 1) := by decide +kernel
theorem dX8_isSample_5 : decode cX8_isSample 5 = .ok (.ifCond .lt 15, 3) := by decide +kernel
theorem dX8_isSample_8 : decode cX8_isSample 8 = .ok (.lload_n 0, 1) := by decide +kernel
theorem dX8_isSample_9 : decode cX8_isSample 9 = .ok (.ldc2_w 294, 3) := by decide +kernel
theorem dX8_isSample_12 : decode cX8_isSample 12 = .ok (.lcmp, 1) := by decide +kernel
theorem dX8_isSample_13 : decode cX8_isSample 13 = .ok (.ifCond .gt 7, 3) := by decide +kernel
theorem dX8_isSample_16 : decode cX8_isSample 16 = .ok (.iconst 1, 1) := by decide +kernel
theorem dX8_isSample_17 : decode cX8_isSample 17 = .ok (.goto 4, 3) := by decide +kernel
theorem dX8_isSample_20 : decode cX8_isSample 20 = .ok (.iconst 0, 1) := by decide +kernel
theorem dX8_isSample_21 : decode cX8_isSample 21 = .ok (.ireturn, 1) := by decide +kernel
theorem dX8_isStageAsTold_0 : decode cX8_isStageAsTold 0 = .ok (.lload_n 1, 1) := by decide +kernel
theorem dX8_isStageAsTold_1 : decode cX8_isStageAsTold 1 = .ok (.lconst 0, 1) := by decide +kernel
theorem dX8_isStageAsTold_2 : decode cX8_isStageAsTold 2 = .ok (.lcmp, 1) := by decide +kernel
theorem dX8_isStageAsTold_3 : decode cX8_isStageAsTold 3 = .ok (.ifCond .lt 15, 3) := by decide +kernel
theorem dX8_isStageAsTold_6 : decode cX8_isStageAsTold 6 = .ok (.lload_n 1, 1) := by decide +kernel
theorem dX8_isStageAsTold_7 : decode cX8_isStageAsTold 7 = .ok (.ldc2_w 296, 3) := by decide +kernel
theorem dX8_isStageAsTold_10 : decode cX8_isStageAsTold 10 = .ok (.lcmp, 1) := by decide +kernel
theorem dX8_isStageAsTold_11 : decode cX8_isStageAsTold 11 = .ok (.ifCond .gt 7, 3) := by decide +kernel
theorem dX8_isStageAsTold_14 : decode cX8_isStageAsTold 14 = .ok (.iconst 1, 1) := by decide +kernel
theorem dX8_isStageAsTold_15 : decode cX8_isStageAsTold 15 = .ok (.goto 4, 3) := by decide +kernel
theorem dX8_isStageAsTold_18 : decode cX8_isStageAsTold 18 = .ok (.iconst 0, 1) := by decide +kernel
theorem dX8_isStageAsTold_19 : decode cX8_isStageAsTold 19 = .ok (.istore 4, 2) := by decide +kernel
theorem dX8_isStageAsTold_21 : decode cX8_isStageAsTold 21 = .ok (.lload_n 1, 1) := by decide +kernel
theorem dX8_isStageAsTold_22 : decode cX8_isStageAsTold 22 = .ok (.lconst 1, 1) := by decide +kernel
theorem dX8_isStageAsTold_23 : decode cX8_isStageAsTold 23 = .ok (.lcmp, 1) := by decide +kernel
theorem dX8_isStageAsTold_24 : decode cX8_isStageAsTold 24 = .ok (.ifCond .lt 15, 3) := by decide +kernel
theorem dX8_isStageAsTold_27 : decode cX8_isStageAsTold 27 = .ok (.lload_n 1, 1) := by decide +kernel
theorem dX8_isStageAsTold_28 : decode cX8_isStageAsTold 28 = .ok (.ldc2_w 248, 3) := by decide +kernel
theorem dX8_isStageAsTold_31 : decode cX8_isStageAsTold 31 = .ok (.lcmp, 1) := by decide +kernel
theorem dX8_isStageAsTold_32 : decode cX8_isStageAsTold 32 = .ok (.ifCond .gt 7, 3) := by decide +kernel
theorem dX8_isStageAsTold_35 : decode cX8_isStageAsTold 35 = .ok (.iconst 1, 1) := by decide +kernel
theorem dX8_isStageAsTold_36 : decode cX8_isStageAsTold 36 = .ok (.goto 4, 3) := by decide +kernel
theorem dX8_isStageAsTold_39 : decode cX8_isStageAsTold 39 = .ok (.iconst 0, 1) := by decide +kernel
theorem dX8_isStageAsTold_40 : decode cX8_isStageAsTold 40 = .ok (.istore 5, 2) := by decide +kernel
theorem dX8_isStageAsTold_42 : decode cX8_isStageAsTold 42 = .ok (.iload_n 0, 1) := by decide +kernel
theorem dX8_isStageAsTold_43 : decode cX8_isStageAsTold 43 = .ok (.tableswitch 126 0 4 #[33, 49, 64, 79, 103], 33) := by decide +kernel
theorem dX8_isStageAsTold_76 : decode cX8_isStageAsTold 76 = .ok (.lload_n 1, 1) := by decide +kernel
theorem dX8_isStageAsTold_77 : decode cX8_isStageAsTold 77 = .ok (.lconst 0, 1) := by decide +kernel
theorem dX8_isStageAsTold_78 : decode cX8_isStageAsTold 78 = .ok (.lcmp, 1) := by decide +kernel
theorem dX8_isStageAsTold_79 : decode cX8_isStageAsTold 79 = .ok (.ifCond .ne 11, 3) := by decide +kernel
theorem dX8_isStageAsTold_82 : decode cX8_isStageAsTold 82 = .ok (.iload_n 3, 1) := by decide +kernel
theorem dX8_isStageAsTold_83 : decode cX8_isStageAsTold 83 = .ok (.ifCond .ne 7, 3) := by decide +kernel
theorem dX8_isStageAsTold_86 : decode cX8_isStageAsTold 86 = .ok (.iconst 1, 1) := by decide +kernel
theorem dX8_isStageAsTold_87 : decode cX8_isStageAsTold 87 = .ok (.goto 4, 3) := by decide +kernel
theorem dX8_isStageAsTold_90 : decode cX8_isStageAsTold 90 = .ok (.iconst 0, 1) := by decide +kernel
theorem dX8_isStageAsTold_91 : decode cX8_isStageAsTold 91 = .ok (.ireturn, 1) := by decide +kernel
theorem dX8_isStageAsTold_92 : decode cX8_isStageAsTold 92 = .ok (.iload 4, 2) := by decide +kernel
theorem dX8_isStageAsTold_94 : decode cX8_isStageAsTold 94 = .ok (.ifCond .eq 11, 3) := by decide +kernel
theorem dX8_isStageAsTold_97 : decode cX8_isStageAsTold 97 = .ok (.iload_n 3, 1) := by decide +kernel
theorem dX8_isStageAsTold_98 : decode cX8_isStageAsTold 98 = .ok (.ifCond .ne 7, 3) := by decide +kernel
theorem dX8_isStageAsTold_101 : decode cX8_isStageAsTold 101 = .ok (.iconst 1, 1) := by decide +kernel
theorem dX8_isStageAsTold_102 : decode cX8_isStageAsTold 102 = .ok (.goto 4, 3) := by decide +kernel
theorem dX8_isStageAsTold_105 : decode cX8_isStageAsTold 105 = .ok (.iconst 0, 1) := by decide +kernel
theorem dX8_isStageAsTold_106 : decode cX8_isStageAsTold 106 = .ok (.ireturn, 1) := by decide +kernel
theorem dX8_isStageAsTold_107 : decode cX8_isStageAsTold 107 = .ok (.iload 5, 2) := by decide +kernel
theorem dX8_isStageAsTold_109 : decode cX8_isStageAsTold 109 = .ok (.ifCond .eq 11, 3) := by decide +kernel
theorem dX8_isStageAsTold_112 : decode cX8_isStageAsTold 112 = .ok (.iload_n 3, 1) := by decide +kernel
theorem dX8_isStageAsTold_113 : decode cX8_isStageAsTold 113 = .ok (.ifCond .ne 7, 3) := by decide +kernel
theorem dX8_isStageAsTold_116 : decode cX8_isStageAsTold 116 = .ok (.iconst 1, 1) := by decide +kernel
theorem dX8_isStageAsTold_117 : decode cX8_isStageAsTold 117 = .ok (.goto 4, 3) := by decide +kernel
theorem dX8_isStageAsTold_120 : decode cX8_isStageAsTold 120 = .ok (.iconst 0, 1) := by decide +kernel
theorem dX8_isStageAsTold_121 : decode cX8_isStageAsTold 121 = .ok (.ireturn, 1) := by decide +kernel
theorem dX8_isStageAsTold_122 : decode cX8_isStageAsTold 122 = .ok (.iload 5, 2) := by decide +kernel
theorem dX8_isStageAsTold_124 : decode cX8_isStageAsTold 124 = .ok (.ifCond .eq 20, 3) := by decide +kernel
theorem dX8_isStageAsTold_127 : decode cX8_isStageAsTold 127 = .ok (.iload_n 3, 1) := by decide +kernel
theorem dX8_isStageAsTold_128 : decode cX8_isStageAsTold 128 = .ok (.ifCond .lt 16, 3) := by decide +kernel
theorem dX8_isStageAsTold_131 : decode cX8_isStageAsTold 131 = .ok (.iload_n 3, 1) := by decide +kernel
theorem dX8_isStageAsTold_132 : decode cX8_isStageAsTold 132 = .ok (.i2l, 1) := by decide +kernel
theorem dX8_isStageAsTold_133 : decode cX8_isStageAsTold 133 = .ok (.ldc2_w 296, 3) := by decide +kernel
theorem dX8_isStageAsTold_136 : decode cX8_isStageAsTold 136 = .ok (.lcmp, 1) := by decide +kernel
theorem dX8_isStageAsTold_137 : decode cX8_isStageAsTold 137 = .ok (.ifCond .gt 7, 3) := by decide +kernel
theorem dX8_isStageAsTold_140 : decode cX8_isStageAsTold 140 = .ok (.iconst 1, 1) := by decide +kernel
theorem dX8_isStageAsTold_141 : decode cX8_isStageAsTold 141 = .ok (.goto 4, 3) := by decide +kernel
theorem dX8_isStageAsTold_144 : decode cX8_isStageAsTold 144 = .ok (.iconst 0, 1) := by decide +kernel
theorem dX8_isStageAsTold_145 : decode cX8_isStageAsTold 145 = .ok (.ireturn, 1) := by decide +kernel
theorem dX8_isStageAsTold_146 : decode cX8_isStageAsTold 146 = .ok (.iload 4, 2) := by decide +kernel
theorem dX8_isStageAsTold_148 : decode cX8_isStageAsTold 148 = .ok (.ifCond .eq 19, 3) := by decide +kernel
theorem dX8_isStageAsTold_151 : decode cX8_isStageAsTold 151 = .ok (.iload_n 3, 1) := by decide +kernel
theorem dX8_isStageAsTold_152 : decode cX8_isStageAsTold 152 = .ok (.bipush (-100), 2) := by decide +kernel
theorem dX8_isStageAsTold_154 : decode cX8_isStageAsTold 154 = .ok (.if_icmp .lt 13, 3) := by decide +kernel
theorem dX8_isStageAsTold_157 : decode cX8_isStageAsTold 157 = .ok (.iload_n 3, 1) := by decide +kernel
theorem dX8_isStageAsTold_158 : decode cX8_isStageAsTold 158 = .ok (.bipush 100, 2) := by decide +kernel
theorem dX8_isStageAsTold_160 : decode cX8_isStageAsTold 160 = .ok (.if_icmp .gt 7, 3) := by decide +kernel
theorem dX8_isStageAsTold_163 : decode cX8_isStageAsTold 163 = .ok (.iconst 1, 1) := by decide +kernel
theorem dX8_isStageAsTold_164 : decode cX8_isStageAsTold 164 = .ok (.goto 4, 3) := by decide +kernel
theorem dX8_isStageAsTold_167 : decode cX8_isStageAsTold 167 = .ok (.iconst 0, 1) := by decide +kernel
theorem dX8_isStageAsTold_168 : decode cX8_isStageAsTold 168 = .ok (.ireturn, 1) := by decide +kernel
theorem dX8_isStageAsTold_169 : decode cX8_isStageAsTold 169 = .ok (.iconst 0, 1) := by decide +kernel
theorem dX8_isStageAsTold_170 : decode cX8_isStageAsTold 170 = .ok (.ireturn, 1) := by decide +kernel
theorem dX8_bitsAsHeld_0 : decode cX8_bitsAsHeld 0 = .ok (.iload_n 0, 1) := by decide +kernel
theorem dX8_bitsAsHeld_1 : decode cX8_bitsAsHeld 1 = .ok (.tableswitch 69 0 4 #[35, 40, 45, 49, 51], 35) := by decide +kernel
theorem dX8_bitsAsHeld_36 : decode cX8_bitsAsHeld 36 = .ok (.lload_n 1, 1) := by decide +kernel
theorem dX8_bitsAsHeld_37 : decode cX8_bitsAsHeld 37 = .ok (.l2i, 1) := by decide +kernel
theorem dX8_bitsAsHeld_38 : decode cX8_bitsAsHeld 38 = .ok (.i2b, 1) := by decide +kernel
theorem dX8_bitsAsHeld_39 : decode cX8_bitsAsHeld 39 = .ok (.i2l, 1) := by decide +kernel
theorem dX8_bitsAsHeld_40 : decode cX8_bitsAsHeld 40 = .ok (.lreturn, 1) := by decide +kernel
theorem dX8_bitsAsHeld_41 : decode cX8_bitsAsHeld 41 = .ok (.lload_n 1, 1) := by decide +kernel
theorem dX8_bitsAsHeld_42 : decode cX8_bitsAsHeld 42 = .ok (.l2i, 1) := by decide +kernel
theorem dX8_bitsAsHeld_43 : decode cX8_bitsAsHeld 43 = .ok (.i2s, 1) := by decide +kernel
theorem dX8_bitsAsHeld_44 : decode cX8_bitsAsHeld 44 = .ok (.i2l, 1) := by decide +kernel
theorem dX8_bitsAsHeld_45 : decode cX8_bitsAsHeld 45 = .ok (.lreturn, 1) := by decide +kernel
theorem dX8_bitsAsHeld_46 : decode cX8_bitsAsHeld 46 = .ok (.lload_n 1, 1) := by decide +kernel
theorem dX8_bitsAsHeld_47 : decode cX8_bitsAsHeld 47 = .ok (.l2i, 1) := by decide +kernel
theorem dX8_bitsAsHeld_48 : decode cX8_bitsAsHeld 48 = .ok (.i2l, 1) := by decide +kernel
theorem dX8_bitsAsHeld_49 : decode cX8_bitsAsHeld 49 = .ok (.lreturn, 1) := by decide +kernel
theorem dX8_bitsAsHeld_50 : decode cX8_bitsAsHeld 50 = .ok (.lload_n 1, 1) := by decide +kernel
theorem dX8_bitsAsHeld_51 : decode cX8_bitsAsHeld 51 = .ok (.lreturn, 1) := by decide +kernel
theorem dX8_bitsAsHeld_52 : decode cX8_bitsAsHeld 52 = .ok (.iload_n 0, 1) := by decide +kernel
theorem dX8_bitsAsHeld_53 : decode cX8_bitsAsHeld 53 = .ok (.lload_n 1, 1) := by decide +kernel
theorem dX8_bitsAsHeld_54 : decode cX8_bitsAsHeld 54 = .ok (.invokestatic 298, 3) := by decide +kernel
theorem dX8_bitsAsHeld_57 : decode cX8_bitsAsHeld 57 = .ok (.ifCond .eq 9, 3) := by decide +kernel
theorem dX8_bitsAsHeld_60 : decode cX8_bitsAsHeld 60 = .ok (.ldc2_w 301, 3) := by decide +kernel
theorem dX8_bitsAsHeld_63 : decode cX8_bitsAsHeld 63 = .ok (.goto 6, 3) := by decide +kernel
theorem dX8_bitsAsHeld_66 : decode cX8_bitsAsHeld 66 = .ok (.lload_n 1, 1) := by decide +kernel
theorem dX8_bitsAsHeld_67 : decode cX8_bitsAsHeld 67 = .ok (.l2i, 1) := by decide +kernel
theorem dX8_bitsAsHeld_68 : decode cX8_bitsAsHeld 68 = .ok (.i2l, 1) := by decide +kernel
theorem dX8_bitsAsHeld_69 : decode cX8_bitsAsHeld 69 = .ok (.lreturn, 1) := by decide +kernel
theorem dX8_bitsAsHeld_70 : decode cX8_bitsAsHeld 70 = .ok (.iload_n 0, 1) := by decide +kernel
theorem dX8_bitsAsHeld_71 : decode cX8_bitsAsHeld 71 = .ok (.lload_n 1, 1) := by decide +kernel
theorem dX8_bitsAsHeld_72 : decode cX8_bitsAsHeld 72 = .ok (.invokestatic 298, 3) := by decide +kernel
theorem dX8_bitsAsHeld_75 : decode cX8_bitsAsHeld 75 = .ok (.ifCond .eq 9, 3) := by decide +kernel
theorem dX8_bitsAsHeld_78 : decode cX8_bitsAsHeld 78 = .ok (.ldc2_w 303, 3) := by decide +kernel
theorem dX8_bitsAsHeld_81 : decode cX8_bitsAsHeld 81 = .ok (.goto 4, 3) := by decide +kernel
theorem dX8_bitsAsHeld_84 : decode cX8_bitsAsHeld 84 = .ok (.lload_n 1, 1) := by decide +kernel
theorem dX8_bitsAsHeld_85 : decode cX8_bitsAsHeld 85 = .ok (.lreturn, 1) := by decide +kernel
theorem dX8_isNoNumber_0 : decode cX8_isNoNumber 0 = .ok (.iload_n 0, 1) := by decide +kernel
theorem dX8_isNoNumber_1 : decode cX8_isNoNumber 1 = .ok (.iconst 4, 1) := by decide +kernel
theorem dX8_isNoNumber_2 : decode cX8_isNoNumber 2 = .ok (.if_icmp .ge 5, 3) := by decide +kernel
theorem dX8_isNoNumber_5 : decode cX8_isNoNumber 5 = .ok (.iconst 0, 1) := by decide +kernel
theorem dX8_isNoNumber_6 : decode cX8_isNoNumber 6 = .ok (.ireturn, 1) := by decide +kernel
theorem dX8_isNoNumber_7 : decode cX8_isNoNumber 7 = .ok (.iload_n 0, 1) := by decide +kernel
theorem dX8_isNoNumber_8 : decode cX8_isNoNumber 8 = .ok (.iconst 4, 1) := by decide +kernel
theorem dX8_isNoNumber_9 : decode cX8_isNoNumber 9 = .ok (.if_icmp .ne 21, 3) := by decide +kernel
theorem dX8_isNoNumber_12 : decode cX8_isNoNumber 12 = .ok (.lload_n 1, 1) := by decide +kernel
theorem dX8_isNoNumber_13 : decode cX8_isNoNumber 13 = .ok (.ldc2_w 305, 3) := by decide +kernel
theorem dX8_isNoNumber_16 : decode cX8_isNoNumber 16 = .ok (.land, 1) := by decide +kernel
theorem dX8_isNoNumber_17 : decode cX8_isNoNumber 17 = .ok (.ldc2_w 307, 3) := by decide +kernel
theorem dX8_isNoNumber_20 : decode cX8_isNoNumber 20 = .ok (.lcmp, 1) := by decide +kernel
theorem dX8_isNoNumber_21 : decode cX8_isNoNumber 21 = .ok (.ifCond .le 7, 3) := by decide +kernel
theorem dX8_isNoNumber_24 : decode cX8_isNoNumber 24 = .ok (.iconst 1, 1) := by decide +kernel
theorem dX8_isNoNumber_25 : decode cX8_isNoNumber 25 = .ok (.goto 4, 3) := by decide +kernel
theorem dX8_isNoNumber_28 : decode cX8_isNoNumber 28 = .ok (.iconst 0, 1) := by decide +kernel
theorem dX8_isNoNumber_29 : decode cX8_isNoNumber 29 = .ok (.ireturn, 1) := by decide +kernel
theorem dX8_isNoNumber_30 : decode cX8_isNoNumber 30 = .ok (.lload_n 1, 1) := by decide +kernel
theorem dX8_isNoNumber_31 : decode cX8_isNoNumber 31 = .ok (.ldc2_w 309, 3) := by decide +kernel
theorem dX8_isNoNumber_34 : decode cX8_isNoNumber 34 = .ok (.land, 1) := by decide +kernel
theorem dX8_isNoNumber_35 : decode cX8_isNoNumber 35 = .ok (.ldc2_w 311, 3) := by decide +kernel
theorem dX8_isNoNumber_38 : decode cX8_isNoNumber 38 = .ok (.lcmp, 1) := by decide +kernel
theorem dX8_isNoNumber_39 : decode cX8_isNoNumber 39 = .ok (.ifCond .le 7, 3) := by decide +kernel
theorem dX8_isNoNumber_42 : decode cX8_isNoNumber 42 = .ok (.iconst 1, 1) := by decide +kernel
theorem dX8_isNoNumber_43 : decode cX8_isNoNumber 43 = .ok (.goto 4, 3) := by decide +kernel
theorem dX8_isNoNumber_46 : decode cX8_isNoNumber 46 = .ok (.iconst 0, 1) := by decide +kernel
theorem dX8_isNoNumber_47 : decode cX8_isNoNumber 47 = .ok (.ireturn, 1) := by decide +kernel
theorem dX8_cutToSample_0 : decode cX8_cutToSample 0 = .ok (.iload_n 0, 1) := by decide +kernel
theorem dX8_cutToSample_1 : decode cX8_cutToSample 1 = .ok (.iconst 4, 1) := by decide +kernel
theorem dX8_cutToSample_2 : decode cX8_cutToSample 2 = .ok (.if_icmp .ge 17, 3) := by decide +kernel
theorem dX8_cutToSample_5 : decode cX8_cutToSample 5 = .ok (.ldc2_w 292, 3) := by decide +kernel
theorem dX8_cutToSample_8 : decode cX8_cutToSample 8 = .ok (.ldc2_w 294, 3) := by decide +kernel
theorem dX8_cutToSample_11 : decode cX8_cutToSample 11 = .ok (.lload_n 1, 1) := by decide +kernel
theorem dX8_cutToSample_12 : decode cX8_cutToSample 12 = .ok (.invokestatic 313, 3) := by decide +kernel
theorem dX8_cutToSample_15 : decode cX8_cutToSample 15 = .ok (.invokestatic 319, 3) := by decide +kernel
theorem dX8_cutToSample_18 : decode cX8_cutToSample 18 = .ok (.lreturn, 1) := by decide +kernel
theorem dX8_cutToSample_19 : decode cX8_cutToSample 19 = .ok (.iload_n 0, 1) := by decide +kernel
theorem dX8_cutToSample_20 : decode cX8_cutToSample 20 = .ok (.iconst 4, 1) := by decide +kernel
theorem dX8_cutToSample_21 : decode cX8_cutToSample 21 = .ok (.if_icmp .ne 27, 3) := by decide +kernel
theorem dX8_cutToSample_24 : decode cX8_cutToSample 24 = .ok (.lload_n 1, 1) := by decide +kernel
theorem dX8_cutToSample_25 : decode cX8_cutToSample 25 = .ok (.bipush 23, 2) := by decide +kernel
theorem dX8_cutToSample_27 : decode cX8_cutToSample 27 = .ok (.lushr, 1) := by decide +kernel
theorem dX8_cutToSample_28 : decode cX8_cutToSample 28 = .ok (.ldc2_w 322, 3) := by decide +kernel
theorem dX8_cutToSample_31 : decode cX8_cutToSample 31 = .ok (.land, 1) := by decide +kernel
theorem dX8_cutToSample_32 : decode cX8_cutToSample 32 = .ok (.lload_n 1, 1) := by decide +kernel
theorem dX8_cutToSample_33 : decode cX8_cutToSample 33 = .ok (.ldc2_w 324, 3) := by decide +kernel
theorem dX8_cutToSample_36 : decode cX8_cutToSample 36 = .ok (.land, 1) := by decide +kernel
theorem dX8_cutToSample_37 : decode cX8_cutToSample 37 = .ok (.bipush 23, 2) := by decide +kernel
theorem dX8_cutToSample_39 : decode cX8_cutToSample 39 = .ok (.bipush 127, 2) := by decide +kernel
theorem dX8_cutToSample_41 : decode cX8_cutToSample 41 = .ok (.invokestatic 326, 3) := by decide +kernel
theorem dX8_cutToSample_44 : decode cX8_cutToSample 44 = .ok (.lstore_n 3, 1) := by decide +kernel
theorem dX8_cutToSample_45 : decode cX8_cutToSample 45 = .ok (.goto 25, 3) := by decide +kernel
theorem dX8_cutToSample_48 : decode cX8_cutToSample 48 = .ok (.lload_n 1, 1) := by decide +kernel
theorem dX8_cutToSample_49 : decode cX8_cutToSample 49 = .ok (.bipush 52, 2) := by decide +kernel
theorem dX8_cutToSample_51 : decode cX8_cutToSample 51 = .ok (.lushr, 1) := by decide +kernel
theorem dX8_cutToSample_52 : decode cX8_cutToSample 52 = .ok (.ldc2_w 330, 3) := by decide +kernel
theorem dX8_cutToSample_55 : decode cX8_cutToSample 55 = .ok (.land, 1) := by decide +kernel
theorem dX8_cutToSample_56 : decode cX8_cutToSample 56 = .ok (.lload_n 1, 1) := by decide +kernel
theorem dX8_cutToSample_57 : decode cX8_cutToSample 57 = .ok (.ldc2_w 332, 3) := by decide +kernel
theorem dX8_cutToSample_60 : decode cX8_cutToSample 60 = .ok (.land, 1) := by decide +kernel
theorem dX8_cutToSample_61 : decode cX8_cutToSample 61 = .ok (.bipush 52, 2) := by decide +kernel
theorem dX8_cutToSample_63 : decode cX8_cutToSample 63 = .ok (.sipush 1023, 3) := by decide +kernel
theorem dX8_cutToSample_66 : decode cX8_cutToSample 66 = .ok (.invokestatic 326, 3) := by decide +kernel
theorem dX8_cutToSample_69 : decode cX8_cutToSample 69 = .ok (.lstore_n 3, 1) := by decide +kernel
theorem dX8_cutToSample_70 : decode cX8_cutToSample 70 = .ok (.lload_n 1, 1) := by decide +kernel
theorem dX8_cutToSample_71 : decode cX8_cutToSample 71 = .ok (.lconst 0, 1) := by decide +kernel
theorem dX8_cutToSample_72 : decode cX8_cutToSample 72 = .ok (.lcmp, 1) := by decide +kernel
theorem dX8_cutToSample_73 : decode cX8_cutToSample 73 = .ok (.ifCond .ge 8, 3) := by decide +kernel
theorem dX8_cutToSample_76 : decode cX8_cutToSample 76 = .ok (.lload_n 3, 1) := by decide +kernel
theorem dX8_cutToSample_77 : decode cX8_cutToSample 77 = .ok (.lneg, 1) := by decide +kernel
theorem dX8_cutToSample_78 : decode cX8_cutToSample 78 = .ok (.goto 4, 3) := by decide +kernel
theorem dX8_cutToSample_81 : decode cX8_cutToSample 81 = .ok (.lload_n 3, 1) := by decide +kernel
theorem dX8_cutToSample_82 : decode cX8_cutToSample 82 = .ok (.lreturn, 1) := by decide +kernel
theorem dX8_sizeOfParts_0 : decode cX8_sizeOfParts 0 = .ok (.lload_n 0, 1) := by decide +kernel
theorem dX8_sizeOfParts_1 : decode cX8_sizeOfParts 1 = .ok (.l2i, 1) := by decide +kernel
theorem dX8_sizeOfParts_2 : decode cX8_sizeOfParts 2 = .ok (.iload 5, 2) := by decide +kernel
theorem dX8_sizeOfParts_4 : decode cX8_sizeOfParts 4 = .ok (.isub, 1) := by decide +kernel
theorem dX8_sizeOfParts_5 : decode cX8_sizeOfParts 5 = .ok (.istore 6, 2) := by decide +kernel
theorem dX8_sizeOfParts_7 : decode cX8_sizeOfParts 7 = .ok (.iload 6, 2) := by decide +kernel
theorem dX8_sizeOfParts_9 : decode cX8_sizeOfParts 9 = .ok (.ifCond .ge 5, 3) := by decide +kernel
theorem dX8_sizeOfParts_12 : decode cX8_sizeOfParts 12 = .ok (.lconst 0, 1) := by decide +kernel
theorem dX8_sizeOfParts_13 : decode cX8_sizeOfParts 13 = .ok (.lreturn, 1) := by decide +kernel
theorem dX8_sizeOfParts_14 : decode cX8_sizeOfParts 14 = .ok (.iload 6, 2) := by decide +kernel
theorem dX8_sizeOfParts_16 : decode cX8_sizeOfParts 16 = .ok (.bipush 40, 2) := by decide +kernel
theorem dX8_sizeOfParts_18 : decode cX8_sizeOfParts 18 = .ok (.if_icmp .lt 7, 3) := by decide +kernel
theorem dX8_sizeOfParts_21 : decode cX8_sizeOfParts 21 = .ok (.ldc2_w 294, 3) := by decide +kernel
theorem dX8_sizeOfParts_24 : decode cX8_sizeOfParts 24 = .ok (.lreturn, 1) := by decide +kernel
theorem dX8_sizeOfParts_25 : decode cX8_sizeOfParts 25 = .ok (.lload_n 2, 1) := by decide +kernel
theorem dX8_sizeOfParts_26 : decode cX8_sizeOfParts 26 = .ok (.lconst 1, 1) := by decide +kernel
theorem dX8_sizeOfParts_27 : decode cX8_sizeOfParts 27 = .ok (.iload 4, 2) := by decide +kernel
theorem dX8_sizeOfParts_29 : decode cX8_sizeOfParts 29 = .ok (.lshl, 1) := by decide +kernel
theorem dX8_sizeOfParts_30 : decode cX8_sizeOfParts 30 = .ok (.lor, 1) := by decide +kernel
theorem dX8_sizeOfParts_31 : decode cX8_sizeOfParts 31 = .ok (.lstore 7, 2) := by decide +kernel
theorem dX8_sizeOfParts_33 : decode cX8_sizeOfParts 33 = .ok (.iload 6, 2) := by decide +kernel
theorem dX8_sizeOfParts_35 : decode cX8_sizeOfParts 35 = .ok (.iload 4, 2) := by decide +kernel
theorem dX8_sizeOfParts_37 : decode cX8_sizeOfParts 37 = .ok (.if_icmp .lt 14, 3) := by decide +kernel
theorem dX8_sizeOfParts_40 : decode cX8_sizeOfParts 40 = .ok (.lload 7, 2) := by decide +kernel
theorem dX8_sizeOfParts_42 : decode cX8_sizeOfParts 42 = .ok (.iload 6, 2) := by decide +kernel
theorem dX8_sizeOfParts_44 : decode cX8_sizeOfParts 44 = .ok (.iload 4, 2) := by decide +kernel
theorem dX8_sizeOfParts_46 : decode cX8_sizeOfParts 46 = .ok (.isub, 1) := by decide +kernel
theorem dX8_sizeOfParts_47 : decode cX8_sizeOfParts 47 = .ok (.lshl, 1) := by decide +kernel
theorem dX8_sizeOfParts_48 : decode cX8_sizeOfParts 48 = .ok (.goto 11, 3) := by decide +kernel
theorem dX8_sizeOfParts_51 : decode cX8_sizeOfParts 51 = .ok (.lload 7, 2) := by decide +kernel
theorem dX8_sizeOfParts_53 : decode cX8_sizeOfParts 53 = .ok (.iload 4, 2) := by decide +kernel
theorem dX8_sizeOfParts_55 : decode cX8_sizeOfParts 55 = .ok (.iload 6, 2) := by decide +kernel
theorem dX8_sizeOfParts_57 : decode cX8_sizeOfParts 57 = .ok (.isub, 1) := by decide +kernel
theorem dX8_sizeOfParts_58 : decode cX8_sizeOfParts 58 = .ok (.lushr, 1) := by decide +kernel
theorem dX8_sizeOfParts_59 : decode cX8_sizeOfParts 59 = .ok (.lstore 9, 2) := by decide +kernel
theorem dX8_sizeOfParts_61 : decode cX8_sizeOfParts 61 = .ok (.ldc2_w 294, 3) := by decide +kernel
theorem dX8_sizeOfParts_64 : decode cX8_sizeOfParts 64 = .ok (.lload 9, 2) := by decide +kernel
theorem dX8_sizeOfParts_66 : decode cX8_sizeOfParts 66 = .ok (.invokestatic 313, 3) := by decide +kernel
theorem dX8_sizeOfParts_69 : decode cX8_sizeOfParts 69 = .ok (.lreturn, 1) := by decide +kernel
theorem dX9_init_0 : decode cX9_init 0 = .ok (.aload_n 0, 1) := by decide +kernel
theorem dX9_init_1 : decode cX9_init 1 = .ok (.invokespecial 1, 3) := by decide +kernel
theorem dX9_init_4 : decode cX9_init 4 = .ok (.aload_n 0, 1) := by decide +kernel
theorem dX9_init_5 : decode cX9_init 5 = .ok (.bipush 6, 2) := by decide +kernel
theorem dX9_init_7 : decode cX9_init 7 = .ok (.newarray .boolean, 2) := by decide +kernel
theorem dX9_init_9 : decode cX9_init 9 = .ok (.putfield 7, 3) := by decide +kernel
theorem dX9_init_12 : decode cX9_init 12 = .ok (.aload_n 0, 1) := by decide +kernel
theorem dX9_init_13 : decode cX9_init 13 = .ok (.bipush 6, 2) := by decide +kernel
theorem dX9_init_15 : decode cX9_init 15 = .ok (.newarray .int, 2) := by decide +kernel
theorem dX9_init_17 : decode cX9_init 17 = .ok (.putfield 13, 3) := by decide +kernel
theorem dX9_init_20 : decode cX9_init 20 = .ok (.aload_n 0, 1) := by decide +kernel
theorem dX9_init_21 : decode cX9_init 21 = .ok (.bipush 6, 2) := by decide +kernel
theorem dX9_init_23 : decode cX9_init 23 = .ok (.newarray .int, 2) := by decide +kernel
theorem dX9_init_25 : decode cX9_init 25 = .ok (.putfield 17, 3) := by decide +kernel
theorem dX9_init_28 : decode cX9_init 28 = .ok (.aload_n 0, 1) := by decide +kernel
theorem dX9_init_29 : decode cX9_init 29 = .ok (.sipush 360, 3) := by decide +kernel
theorem dX9_init_32 : decode cX9_init 32 = .ok (.newarray .long, 2) := by decide +kernel
theorem dX9_init_34 : decode cX9_init 34 = .ok (.putfield 20, 3) := by decide +kernel
theorem dX9_init_37 : decode cX9_init 37 = .ok (.aload_n 0, 1) := by decide +kernel
theorem dX9_init_38 : decode cX9_init 38 = .ok (.bipush 60, 2) := by decide +kernel
theorem dX9_init_40 : decode cX9_init 40 = .ok (.newarray .long, 2) := by decide +kernel
theorem dX9_init_42 : decode cX9_init 42 = .ok (.putfield 24, 3) := by decide +kernel
theorem dX9_init_45 : decode cX9_init 45 = .ok (.aload_n 0, 1) := by decide +kernel
theorem dX9_init_46 : decode cX9_init 46 = .ok (.iconst 5, 1) := by decide +kernel
theorem dX9_init_47 : decode cX9_init 47 = .ok (.newarray .int, 2) := by decide +kernel
theorem dX9_init_49 : decode cX9_init 49 = .ok (.putfield 27, 3) := by decide +kernel
theorem dX9_init_52 : decode cX9_init 52 = .ok (.aload_n 0, 1) := by decide +kernel
theorem dX9_init_53 : decode cX9_init 53 = .ok (.iconst 5, 1) := by decide +kernel
theorem dX9_init_54 : decode cX9_init 54 = .ok (.newarray .long, 2) := by decide +kernel
theorem dX9_init_56 : decode cX9_init 56 = .ok (.putfield 30, 3) := by decide +kernel
theorem dX9_init_59 : decode cX9_init 59 = .ok (.aload_n 0, 1) := by decide +kernel
theorem dX9_init_60 : decode cX9_init 60 = .ok (.iconst 5, 1) := by decide +kernel
theorem dX9_init_61 : decode cX9_init 61 = .ok (.newarray .int, 2) := by decide +kernel
theorem dX9_init_63 : decode cX9_init 63 = .ok (.putfield 33, 3) := by decide +kernel
theorem dX9_init_66 : decode cX9_init 66 = .ok (.aload_n 0, 1) := by decide +kernel
theorem dX9_init_67 : decode cX9_init 67 = .ok (.bipush 16, 2) := by decide +kernel
theorem dX9_init_69 : decode cX9_init 69 = .ok (.newarray .long, 2) := by decide +kernel
theorem dX9_init_71 : decode cX9_init 71 = .ok (.putfield 36, 3) := by decide +kernel
theorem dX9_init_74 : decode cX9_init 74 = .ok (.aload_n 0, 1) := by decide +kernel
theorem dX9_init_75 : decode cX9_init 75 = .ok (.bipush 30, 2) := by decide +kernel
theorem dX9_init_77 : decode cX9_init 77 = .ok (.newarray .long, 2) := by decide +kernel
theorem dX9_init_79 : decode cX9_init 79 = .ok (.putfield 39, 3) := by decide +kernel
theorem dX9_init_82 : decode cX9_init 82 = .ok (.aload_n 0, 1) := by decide +kernel
theorem dX9_init_83 : decode cX9_init 83 = .ok (.sipush 300, 3) := by decide +kernel
theorem dX9_init_86 : decode cX9_init 86 = .ok (.newarray .long, 2) := by decide +kernel
theorem dX9_init_88 : decode cX9_init 88 = .ok (.putfield 42, 3) := by decide +kernel
theorem dX9_init_91 : decode cX9_init 91 = .ok (.aload_n 0, 1) := by decide +kernel
theorem dX9_init_92 : decode cX9_init 92 = .ok (.sipush 2100, 3) := by decide +kernel
theorem dX9_init_95 : decode cX9_init 95 = .ok (.newarray .long, 2) := by decide +kernel
theorem dX9_init_97 : decode cX9_init 97 = .ok (.putfield 45, 3) := by decide +kernel
theorem dX9_init_100 : decode cX9_init 100 = .ok (.aload_n 0, 1) := by decide +kernel
theorem dX9_init_101 : decode cX9_init 101 = .ok (.bipush 40, 2) := by decide +kernel
theorem dX9_init_103 : decode cX9_init 103 = .ok (.newarray .int, 2) := by decide +kernel
theorem dX9_init_105 : decode cX9_init 105 = .ok (.putfield 48, 3) := by decide +kernel
theorem dX9_init_108 : decode cX9_init 108 = .ok (.aload_n 0, 1) := by decide +kernel
theorem dX9_init_109 : decode cX9_init 109 = .ok (.bipush 30, 2) := by decide +kernel
theorem dX9_init_111 : decode cX9_init 111 = .ok (.newarray .long, 2) := by decide +kernel
theorem dX9_init_113 : decode cX9_init 113 = .ok (.putfield 51, 3) := by decide +kernel
theorem dX9_init_116 : decode cX9_init 116 = .ok (.aload_n 0, 1) := by decide +kernel
theorem dX9_init_117 : decode cX9_init 117 = .ok (.bipush 40, 2) := by decide +kernel
theorem dX9_init_119 : decode cX9_init 119 = .ok (.newarray .int, 2) := by decide +kernel
theorem dX9_init_121 : decode cX9_init 121 = .ok (.putfield 54, 3) := by decide +kernel
theorem dX9_init_124 : decode cX9_init 124 = .ok (.aload_n 0, 1) := by decide +kernel
theorem dX9_init_125 : decode cX9_init 125 = .ok (.bipush 8, 2) := by decide +kernel
theorem dX9_init_127 : decode cX9_init 127 = .ok (.newarray .int, 2) := by decide +kernel
theorem dX9_init_129 : decode cX9_init 129 = .ok (.putfield 57, 3) := by decide +kernel
theorem dX9_init_132 : decode cX9_init 132 = .ok (.aload_n 0, 1) := by decide +kernel
theorem dX9_init_133 : decode cX9_init 133 = .ok (.iconst 5, 1) := by decide +kernel
theorem dX9_init_134 : decode cX9_init 134 = .ok (.newarray .long, 2) := by decide +kernel
theorem dX9_init_136 : decode cX9_init 136 = .ok (.putfield 60, 3) := by decide +kernel
theorem dX9_init_139 : decode cX9_init 139 = .ok (.aload_n 0, 1) := by decide +kernel
theorem dX9_init_140 : decode cX9_init 140 = .ok (.sipush 4812, 3) := by decide +kernel
theorem dX9_init_143 : decode cX9_init 143 = .ok (.newarray .long, 2) := by decide +kernel
theorem dX9_init_145 : decode cX9_init 145 = .ok (.putfield 63, 3) := by decide +kernel
theorem dX9_init_148 : decode cX9_init 148 = .ok (.aload_n 0, 1) := by decide +kernel
theorem dX9_init_149 : decode cX9_init 149 = .ok (.iconst 3, 1) := by decide +kernel
theorem dX9_init_150 : decode cX9_init 150 = .ok (.newarray .long, 2) := by decide +kernel
theorem dX9_init_152 : decode cX9_init 152 = .ok (.putfield 66, 3) := by decide +kernel
theorem dX9_init_155 : decode cX9_init 155 = .ok (.aload_n 0, 1) := by decide +kernel
theorem dX9_init_156 : decode cX9_init 156 = .ok (.sipush 500, 3) := by decide +kernel
theorem dX9_init_159 : decode cX9_init 159 = .ok (.newarray .long, 2) := by decide +kernel
theorem dX9_init_161 : decode cX9_init 161 = .ok (.putfield 69, 3) := by decide +kernel
theorem dX9_init_164 : decode cX9_init 164 = .ok (.aload_n 0, 1) := by decide +kernel
theorem dX9_init_165 : decode cX9_init 165 = .ok (.sipush 500, 3) := by decide +kernel
theorem dX9_init_168 : decode cX9_init 168 = .ok (.newarray .long, 2) := by decide +kernel
theorem dX9_init_170 : decode cX9_init 170 = .ok (.putfield 72, 3) := by decide +kernel
theorem dX9_init_173 : decode cX9_init 173 = .ok (.aload_n 0, 1) := by decide +kernel
theorem dX9_init_174 : decode cX9_init 174 = .ok (.sipush 500, 3) := by decide +kernel
theorem dX9_init_177 : decode cX9_init 177 = .ok (.newarray .int, 2) := by decide +kernel
theorem dX9_init_179 : decode cX9_init 179 = .ok (.putfield 75, 3) := by decide +kernel
theorem dX9_init_182 : decode cX9_init 182 = .ok (.aload_n 0, 1) := by decide +kernel
theorem dX9_init_183 : decode cX9_init 183 = .ok (.sipush 500, 3) := by decide +kernel
theorem dX9_init_186 : decode cX9_init 186 = .ok (.newarray .long, 2) := by decide +kernel
theorem dX9_init_188 : decode cX9_init 188 = .ok (.putfield 78, 3) := by decide +kernel
theorem dX9_init_191 : decode cX9_init 191 = .ok (.aload_n 0, 1) := by decide +kernel
theorem dX9_init_192 : decode cX9_init 192 = .ok (.sipush 501, 3) := by decide +kernel
theorem dX9_init_195 : decode cX9_init 195 = .ok (.newarray .long, 2) := by decide +kernel
theorem dX9_init_197 : decode cX9_init 197 = .ok (.putfield 81, 3) := by decide +kernel
theorem dX9_init_200 : decode cX9_init 200 = .ok (.aload_n 0, 1) := by decide +kernel
theorem dX9_init_201 : decode cX9_init 201 = .ok (.bipush 12, 2) := by decide +kernel
theorem dX9_init_203 : decode cX9_init 203 = .ok (.newarray .long, 2) := by decide +kernel
theorem dX9_init_205 : decode cX9_init 205 = .ok (.putfield 84, 3) := by decide +kernel
theorem dX9_init_208 : decode cX9_init 208 = .ok (.aload_n 0, 1) := by decide +kernel
theorem dX9_init_209 : decode cX9_init 209 = .ok (.iconst 2, 1) := by decide +kernel
theorem dX9_init_210 : decode cX9_init 210 = .ok (.putfield 87, 3) := by decide +kernel
theorem dX9_init_213 : decode cX9_init 213 = .ok (.aload_n 0, 1) := by decide +kernel
theorem dX9_init_214 : decode cX9_init 214 = .ok (.getfield 36, 3) := by decide +kernel
theorem dX9_init_217 : decode cX9_init 217 = .ok (.iconst 0, 1) := by decide +kernel
theorem dX9_init_218 : decode cX9_init 218 = .ok (.ldc2_w 91, 3) := by decide +kernel
theorem dX9_init_221 : decode cX9_init 221 = .ok (.lastore, 1) := by decide +kernel
theorem dX9_init_222 : decode cX9_init 222 = .ok (.aload_n 0, 1) := by decide +kernel
theorem dX9_init_223 : decode cX9_init 223 = .ok (.getfield 36, 3) := by decide +kernel
theorem dX9_init_226 : decode cX9_init 226 = .ok (.iconst 1, 1) := by decide +kernel
theorem dX9_init_227 : decode cX9_init 227 = .ok (.lconst 1, 1) := by decide +kernel
theorem dX9_init_228 : decode cX9_init 228 = .ok (.lastore, 1) := by decide +kernel
theorem dX9_init_229 : decode cX9_init 229 = .ok (.return_, 1) := by decide +kernel
theorem dX9_in_0 : decode cX9_in 0 = .ok (.lload_n 0, 1) := by decide +kernel
theorem dX9_in_1 : decode cX9_in 1 = .ok (.lload_n 2, 1) := by decide +kernel
theorem dX9_in_2 : decode cX9_in 2 = .ok (.lcmp, 1) := by decide +kernel
theorem dX9_in_3 : decode cX9_in 3 = .ok (.ifCond .lt 14, 3) := by decide +kernel
theorem dX9_in_6 : decode cX9_in 6 = .ok (.lload_n 0, 1) := by decide +kernel
theorem dX9_in_7 : decode cX9_in 7 = .ok (.lload 4, 2) := by decide +kernel
theorem dX9_in_9 : decode cX9_in 9 = .ok (.lcmp, 1) := by decide +kernel
theorem dX9_in_10 : decode cX9_in 10 = .ok (.ifCond .gt 7, 3) := by decide +kernel
theorem dX9_in_13 : decode cX9_in 13 = .ok (.iconst 1, 1) := by decide +kernel
theorem dX9_in_14 : decode cX9_in 14 = .ok (.goto 4, 3) := by decide +kernel
theorem dX9_in_17 : decode cX9_in 17 = .ok (.iconst 0, 1) := by decide +kernel
theorem dX9_in_18 : decode cX9_in 18 = .ok (.ireturn, 1) := by decide +kernel
theorem dX9_meets_0 : decode cX9_meets 0 = .ok (.aload_n 0, 1) := by decide +kernel
theorem dX9_meets_1 : decode cX9_meets 1 = .ok (.iload_n 1, 1) := by decide +kernel
theorem dX9_meets_2 : decode cX9_meets 2 = .ok (.putfield 93, 3) := by decide +kernel
theorem dX9_meets_5 : decode cX9_meets 5 = .ok (.bipush (-10), 2) := by decide +kernel
theorem dX9_meets_7 : decode cX9_meets 7 = .ok (.iload_n 1, 1) := by decide +kernel
theorem dX9_meets_8 : decode cX9_meets 8 = .ok (.isub, 1) := by decide +kernel
theorem dX9_meets_9 : decode cX9_meets 9 = .ok (.ireturn, 1) := by decide +kernel
theorem dX9_isReel_0 : decode cX9_isReel 0 = .ok (.iload_n 0, 1) := by decide +kernel
theorem dX9_isReel_1 : decode cX9_isReel 1 = .ok (.i2l, 1) := by decide +kernel
theorem dX9_isReel_2 : decode cX9_isReel 2 = .ok (.lconst 0, 1) := by decide +kernel
theorem dX9_isReel_3 : decode cX9_isReel 3 = .ok (.ldc2_w 96, 3) := by decide +kernel
theorem dX9_isReel_6 : decode cX9_isReel 6 = .ok (.invokestatic 98, 3) := by decide +kernel
theorem dX9_isReel_9 : decode cX9_isReel 9 = .ok (.ireturn, 1) := by decide +kernel
theorem dX9_reel_0 : decode cX9_reel 0 = .ok (.iload_n 1, 1) := by decide +kernel
theorem dX9_reel_1 : decode cX9_reel 1 = .ok (.invokestatic 102, 3) := by decide +kernel
theorem dX9_reel_4 : decode cX9_reel 4 = .ok (.ifCond .eq 21, 3) := by decide +kernel
theorem dX9_reel_7 : decode cX9_reel 7 = .ok (.iload_n 2, 1) := by decide +kernel
theorem dX9_reel_8 : decode cX9_reel 8 = .ok (.i2l, 1) := by decide +kernel
theorem dX9_reel_9 : decode cX9_reel 9 = .ok (.lconst 0, 1) := by decide +kernel
theorem dX9_reel_10 : decode cX9_reel 10 = .ok (.ldc2_w 96, 3) := by decide +kernel
theorem dX9_reel_13 : decode cX9_reel 13 = .ok (.invokestatic 98, 3) := by decide +kernel
theorem dX9_reel_16 : decode cX9_reel 16 = .ok (.ifCond .eq 9, 3) := by decide +kernel
theorem dX9_reel_19 : decode cX9_reel 19 = .ok (.iload_n 3, 1) := by decide +kernel
theorem dX9_reel_20 : decode cX9_reel 20 = .ok (.bipush 60, 2) := by decide +kernel
theorem dX9_reel_22 : decode cX9_reel 22 = .ok (.if_icmp .le 6, 3) := by decide +kernel
theorem dX9_reel_25 : decode cX9_reel 25 = .ok (.bipush (-2), 2) := by decide +kernel
theorem dX9_reel_27 : decode cX9_reel 27 = .ok (.ireturn, 1) := by decide +kernel
theorem dX9_reel_28 : decode cX9_reel 28 = .ok (.iload_n 3, 1) := by decide +kernel
theorem dX9_reel_29 : decode cX9_reel 29 = .ok (.ifCond .ge 9, 3) := by decide +kernel
theorem dX9_reel_32 : decode cX9_reel 32 = .ok (.aload_n 0, 1) := by decide +kernel
theorem dX9_reel_33 : decode cX9_reel 33 = .ok (.iconst 5, 1) := by decide +kernel
theorem dX9_reel_34 : decode cX9_reel 34 = .ok (.invokevirtual 106, 3) := by decide +kernel
theorem dX9_reel_37 : decode cX9_reel 37 = .ok (.ireturn, 1) := by decide +kernel
theorem dX9_reel_38 : decode cX9_reel 38 = .ok (.aload_n 0, 1) := by decide +kernel
theorem dX9_reel_39 : decode cX9_reel 39 = .ok (.getfield 7, 3) := by decide +kernel
theorem dX9_reel_42 : decode cX9_reel 42 = .ok (.iload_n 1, 1) := by decide +kernel
theorem dX9_reel_43 : decode cX9_reel 43 = .ok (.iconst 1, 1) := by decide +kernel
theorem dX9_reel_44 : decode cX9_reel 44 = .ok (.bastore, 1) := by decide +kernel
theorem dX9_reel_45 : decode cX9_reel 45 = .ok (.aload_n 0, 1) := by decide +kernel
theorem dX9_reel_46 : decode cX9_reel 46 = .ok (.getfield 13, 3) := by decide +kernel
theorem dX9_reel_49 : decode cX9_reel 49 = .ok (.iload_n 1, 1) := by decide +kernel
theorem dX9_reel_50 : decode cX9_reel 50 = .ok (.iload_n 2, 1) := by decide +kernel
theorem dX9_reel_51 : decode cX9_reel 51 = .ok (.iastore, 1) := by decide +kernel
theorem dX9_reel_52 : decode cX9_reel 52 = .ok (.aload_n 0, 1) := by decide +kernel
theorem dX9_reel_53 : decode cX9_reel 53 = .ok (.getfield 17, 3) := by decide +kernel
theorem dX9_reel_56 : decode cX9_reel 56 = .ok (.iload_n 1, 1) := by decide +kernel
theorem dX9_reel_57 : decode cX9_reel 57 = .ok (.iload_n 3, 1) := by decide +kernel
theorem dX9_reel_58 : decode cX9_reel 58 = .ok (.iastore, 1) := by decide +kernel
theorem dX9_reel_59 : decode cX9_reel 59 = .ok (.iconst 0, 1) := by decide +kernel
theorem dX9_reel_60 : decode cX9_reel 60 = .ok (.istore 4, 2) := by decide +kernel
theorem dX9_reel_62 : decode cX9_reel 62 = .ok (.iload 4, 2) := by decide +kernel
theorem dX9_reel_64 : decode cX9_reel 64 = .ok (.bipush 60, 2) := by decide +kernel
theorem dX9_reel_66 : decode cX9_reel 66 = .ok (.if_icmp .ge 22, 3) := by decide +kernel
theorem dX9_reel_69 : decode cX9_reel 69 = .ok (.aload_n 0, 1) := by decide +kernel
theorem dX9_reel_70 : decode cX9_reel 70 = .ok (.getfield 20, 3) := by decide +kernel
theorem dX9_reel_73 : decode cX9_reel 73 = .ok (.bipush 60, 2) := by decide +kernel
theorem dX9_reel_75 : decode cX9_reel 75 = .ok (.iload_n 1, 1) := by decide +kernel
theorem dX9_reel_76 : decode cX9_reel 76 = .ok (.imul, 1) := by decide +kernel
theorem dX9_reel_77 : decode cX9_reel 77 = .ok (.iload 4, 2) := by decide +kernel
theorem dX9_reel_79 : decode cX9_reel 79 = .ok (.iadd, 1) := by decide +kernel
theorem dX9_reel_80 : decode cX9_reel 80 = .ok (.lconst 0, 1) := by decide +kernel
theorem dX9_reel_81 : decode cX9_reel 81 = .ok (.lastore, 1) := by decide +kernel
theorem dX9_reel_82 : decode cX9_reel 82 = .ok (.iinc 4 1, 3) := by decide +kernel
theorem dX9_reel_85 : decode cX9_reel 85 = .ok (.goto (-23), 3) := by decide +kernel
theorem dX9_reel_88 : decode cX9_reel 88 = .ok (.iload_n 3, 1) := by decide +kernel
theorem dX9_reel_89 : decode cX9_reel 89 = .ok (.ireturn, 1) := by decide +kernel
theorem dX9_lose_0 : decode cX9_lose 0 = .ok (.iload_n 1, 1) := by decide +kernel
theorem dX9_lose_1 : decode cX9_lose 1 = .ok (.invokestatic 102, 3) := by decide +kernel
theorem dX9_lose_4 : decode cX9_lose 4 = .ok (.ifCond .ne 6, 3) := by decide +kernel
theorem dX9_lose_7 : decode cX9_lose 7 = .ok (.bipush (-2), 2) := by decide +kernel
theorem dX9_lose_9 : decode cX9_lose 9 = .ok (.ireturn, 1) := by decide +kernel
theorem dX9_lose_10 : decode cX9_lose 10 = .ok (.aload_n 0, 1) := by decide +kernel
theorem dX9_lose_11 : decode cX9_lose 11 = .ok (.getfield 7, 3) := by decide +kernel
theorem dX9_lose_14 : decode cX9_lose 14 = .ok (.iload_n 1, 1) := by decide +kernel
theorem dX9_lose_15 : decode cX9_lose 15 = .ok (.baload, 1) := by decide +kernel
theorem dX9_lose_16 : decode cX9_lose 16 = .ok (.ifCond .ne 9, 3) := by decide +kernel
theorem dX9_lose_19 : decode cX9_lose 19 = .ok (.aload_n 0, 1) := by decide +kernel
theorem dX9_lose_20 : decode cX9_lose 20 = .ok (.iconst 1, 1) := by decide +kernel
theorem dX9_lose_21 : decode cX9_lose 21 = .ok (.invokevirtual 106, 3) := by decide +kernel
theorem dX9_lose_24 : decode cX9_lose 24 = .ok (.ireturn, 1) := by decide +kernel
theorem dX9_lose_25 : decode cX9_lose 25 = .ok (.aload_n 0, 1) := by decide +kernel
theorem dX9_lose_26 : decode cX9_lose 26 = .ok (.getfield 7, 3) := by decide +kernel
theorem dX9_lose_29 : decode cX9_lose 29 = .ok (.iload_n 1, 1) := by decide +kernel
theorem dX9_lose_30 : decode cX9_lose 30 = .ok (.iconst 0, 1) := by decide +kernel
theorem dX9_lose_31 : decode cX9_lose 31 = .ok (.bastore, 1) := by decide +kernel
theorem dX9_lose_32 : decode cX9_lose 32 = .ok (.aload_n 0, 1) := by decide +kernel
theorem dX9_lose_33 : decode cX9_lose 33 = .ok (.getfield 17, 3) := by decide +kernel
theorem dX9_lose_36 : decode cX9_lose 36 = .ok (.iload_n 1, 1) := by decide +kernel
theorem dX9_lose_37 : decode cX9_lose 37 = .ok (.iaload, 1) := by decide +kernel
theorem dX9_lose_38 : decode cX9_lose 38 = .ok (.ireturn, 1) := by decide +kernel
theorem dX9_laid_0 : decode cX9_laid 0 = .ok (.iload_n 0, 1) := by decide +kernel
theorem dX9_laid_1 : decode cX9_laid 1 = .ok (.tableswitch 93 0 5 #[39, 44, 49, 93, 53, 73], 39) := by decide +kernel
theorem dX9_laid_40 : decode cX9_laid 40 = .ok (.lload_n 1, 1) := by decide +kernel
theorem dX9_laid_41 : decode cX9_laid 41 = .ok (.l2i, 1) := by decide +kernel
theorem dX9_laid_42 : decode cX9_laid 42 = .ok (.i2b, 1) := by decide +kernel
theorem dX9_laid_43 : decode cX9_laid 43 = .ok (.i2l, 1) := by decide +kernel
theorem dX9_laid_44 : decode cX9_laid 44 = .ok (.lreturn, 1) := by decide +kernel
theorem dX9_laid_45 : decode cX9_laid 45 = .ok (.lload_n 1, 1) := by decide +kernel
theorem dX9_laid_46 : decode cX9_laid 46 = .ok (.l2i, 1) := by decide +kernel
theorem dX9_laid_47 : decode cX9_laid 47 = .ok (.i2s, 1) := by decide +kernel
theorem dX9_laid_48 : decode cX9_laid 48 = .ok (.i2l, 1) := by decide +kernel
theorem dX9_laid_49 : decode cX9_laid 49 = .ok (.lreturn, 1) := by decide +kernel
theorem dX9_laid_50 : decode cX9_laid 50 = .ok (.lload_n 1, 1) := by decide +kernel
theorem dX9_laid_51 : decode cX9_laid 51 = .ok (.l2i, 1) := by decide +kernel
theorem dX9_laid_52 : decode cX9_laid 52 = .ok (.i2l, 1) := by decide +kernel
theorem dX9_laid_53 : decode cX9_laid 53 = .ok (.lreturn, 1) := by decide +kernel
theorem dX9_laid_54 : decode cX9_laid 54 = .ok (.lload_n 1, 1) := by decide +kernel
theorem dX9_laid_55 : decode cX9_laid 55 = .ok (.l2i, 1) := by decide +kernel
theorem dX9_laid_56 : decode cX9_laid 56 = .ok (.ldc 110, 2) := by decide +kernel
theorem dX9_laid_58 : decode cX9_laid 58 = .ok (.iand, 1) := by decide +kernel
theorem dX9_laid_59 : decode cX9_laid 59 = .ok (.ldc 111, 2) := by decide +kernel
theorem dX9_laid_61 : decode cX9_laid 61 = .ok (.if_icmp .le 9, 3) := by decide +kernel
theorem dX9_laid_64 : decode cX9_laid 64 = .ok (.ldc2_w 112, 3) := by decide +kernel
theorem dX9_laid_67 : decode cX9_laid 67 = .ok (.goto 6, 3) := by decide +kernel
theorem dX9_laid_70 : decode cX9_laid 70 = .ok (.lload_n 1, 1) := by decide +kernel
theorem dX9_laid_71 : decode cX9_laid 71 = .ok (.l2i, 1) := by decide +kernel
theorem dX9_laid_72 : decode cX9_laid 72 = .ok (.i2l, 1) := by decide +kernel
theorem dX9_laid_73 : decode cX9_laid 73 = .ok (.lreturn, 1) := by decide +kernel
theorem dX9_laid_74 : decode cX9_laid 74 = .ok (.lload_n 1, 1) := by decide +kernel
theorem dX9_laid_75 : decode cX9_laid 75 = .ok (.ldc2_w 114, 3) := by decide +kernel
theorem dX9_laid_78 : decode cX9_laid 78 = .ok (.land, 1) := by decide +kernel
theorem dX9_laid_79 : decode cX9_laid 79 = .ok (.ldc2_w 116, 3) := by decide +kernel
theorem dX9_laid_82 : decode cX9_laid 82 = .ok (.lcmp, 1) := by decide +kernel
theorem dX9_laid_83 : decode cX9_laid 83 = .ok (.ifCond .le 9, 3) := by decide +kernel
theorem dX9_laid_86 : decode cX9_laid 86 = .ok (.ldc2_w 118, 3) := by decide +kernel
theorem dX9_laid_89 : decode cX9_laid 89 = .ok (.goto 4, 3) := by decide +kernel
theorem dX9_laid_92 : decode cX9_laid 92 = .ok (.lload_n 1, 1) := by decide +kernel
theorem dX9_laid_93 : decode cX9_laid 93 = .ok (.lreturn, 1) := by decide +kernel
theorem dX9_laid_94 : decode cX9_laid 94 = .ok (.lload_n 1, 1) := by decide +kernel
theorem dX9_laid_95 : decode cX9_laid 95 = .ok (.lreturn, 1) := by decide +kernel
theorem dX9_lacks_0 : decode cX9_lacks 0 = .ok (.aload_n 0, 1) := by decide +kernel
theorem dX9_lacks_1 : decode cX9_lacks 1 = .ok (.getfield 7, 3) := by decide +kernel
theorem dX9_lacks_4 : decode cX9_lacks 4 = .ok (.iload_n 1, 1) := by decide +kernel
theorem dX9_lacks_5 : decode cX9_lacks 5 = .ok (.baload, 1) := by decide +kernel
theorem dX9_lacks_6 : decode cX9_lacks 6 = .ok (.ifCond .ne 7, 3) := by decide +kernel
theorem dX9_lacks_9 : decode cX9_lacks 9 = .ok (.iconst 1, 1) := by decide +kernel
theorem dX9_lacks_10 : decode cX9_lacks 10 = .ok (.goto 40, 3) := by decide +kernel
theorem dX9_lacks_13 : decode cX9_lacks 13 = .ok (.aload_n 0, 1) := by decide +kernel
theorem dX9_lacks_14 : decode cX9_lacks 14 = .ok (.getfield 13, 3) := by decide +kernel
theorem dX9_lacks_17 : decode cX9_lacks 17 = .ok (.iload_n 1, 1) := by decide +kernel
theorem dX9_lacks_18 : decode cX9_lacks 18 = .ok (.iaload, 1) := by decide +kernel
theorem dX9_lacks_19 : decode cX9_lacks 19 = .ok (.iload_n 2, 1) := by decide +kernel
theorem dX9_lacks_20 : decode cX9_lacks 20 = .ok (.if_icmp .eq 7, 3) := by decide +kernel
theorem dX9_lacks_23 : decode cX9_lacks 23 = .ok (.iconst 3, 1) := by decide +kernel
theorem dX9_lacks_24 : decode cX9_lacks 24 = .ok (.goto 26, 3) := by decide +kernel
theorem dX9_lacks_27 : decode cX9_lacks 27 = .ok (.iload_n 3, 1) := by decide +kernel
theorem dX9_lacks_28 : decode cX9_lacks 28 = .ok (.i2l, 1) := by decide +kernel
theorem dX9_lacks_29 : decode cX9_lacks 29 = .ok (.lconst 0, 1) := by decide +kernel
theorem dX9_lacks_30 : decode cX9_lacks 30 = .ok (.aload_n 0, 1) := by decide +kernel
theorem dX9_lacks_31 : decode cX9_lacks 31 = .ok (.getfield 17, 3) := by decide +kernel
theorem dX9_lacks_34 : decode cX9_lacks 34 = .ok (.iload_n 1, 1) := by decide +kernel
theorem dX9_lacks_35 : decode cX9_lacks 35 = .ok (.iaload, 1) := by decide +kernel
theorem dX9_lacks_36 : decode cX9_lacks 36 = .ok (.iconst 1, 1) := by decide +kernel
theorem dX9_lacks_37 : decode cX9_lacks 37 = .ok (.isub, 1) := by decide +kernel
theorem dX9_lacks_38 : decode cX9_lacks 38 = .ok (.i2l, 1) := by decide +kernel
theorem dX9_lacks_39 : decode cX9_lacks 39 = .ok (.invokestatic 98, 3) := by decide +kernel
theorem dX9_lacks_42 : decode cX9_lacks 42 = .ok (.ifCond .eq 7, 3) := by decide +kernel
theorem dX9_lacks_45 : decode cX9_lacks 45 = .ok (.iconst 0, 1) := by decide +kernel
theorem dX9_lacks_46 : decode cX9_lacks 46 = .ok (.goto 4, 3) := by decide +kernel
theorem dX9_lacks_49 : decode cX9_lacks 49 = .ok (.iconst 2, 1) := by decide +kernel
theorem dX9_lacks_50 : decode cX9_lacks 50 = .ok (.ireturn, 1) := by decide +kernel
theorem dX9_put_0 : decode cX9_put 0 = .ok (.iload_n 1, 1) := by decide +kernel
theorem dX9_put_1 : decode cX9_put 1 = .ok (.invokestatic 102, 3) := by decide +kernel
theorem dX9_put_4 : decode cX9_put 4 = .ok (.ifCond .eq 15, 3) := by decide +kernel
theorem dX9_put_7 : decode cX9_put 7 = .ok (.iload_n 2, 1) := by decide +kernel
theorem dX9_put_8 : decode cX9_put 8 = .ok (.i2l, 1) := by decide +kernel
theorem dX9_put_9 : decode cX9_put 9 = .ok (.lconst 0, 1) := by decide +kernel
theorem dX9_put_10 : decode cX9_put 10 = .ok (.ldc2_w 96, 3) := by decide +kernel
theorem dX9_put_13 : decode cX9_put 13 = .ok (.invokestatic 98, 3) := by decide +kernel
theorem dX9_put_16 : decode cX9_put 16 = .ok (.ifCond .ne 6, 3) := by decide +kernel
theorem dX9_put_19 : decode cX9_put 19 = .ok (.bipush (-2), 2) := by decide +kernel
theorem dX9_put_21 : decode cX9_put 21 = .ok (.ireturn, 1) := by decide +kernel
theorem dX9_put_22 : decode cX9_put 22 = .ok (.aload_n 0, 1) := by decide +kernel
theorem dX9_put_23 : decode cX9_put 23 = .ok (.iload_n 1, 1) := by decide +kernel
theorem dX9_put_24 : decode cX9_put 24 = .ok (.iload_n 2, 1) := by decide +kernel
theorem dX9_put_25 : decode cX9_put 25 = .ok (.iload_n 3, 1) := by decide +kernel
theorem dX9_put_26 : decode cX9_put 26 = .ok (.invokevirtual 120, 3) := by decide +kernel
theorem dX9_put_29 : decode cX9_put 29 = .ok (.istore 6, 2) := by decide +kernel
theorem dX9_put_31 : decode cX9_put 31 = .ok (.iload 6, 2) := by decide +kernel
theorem dX9_put_33 : decode cX9_put 33 = .ok (.ifCond .le 10, 3) := by decide +kernel
theorem dX9_put_36 : decode cX9_put 36 = .ok (.aload_n 0, 1) := by decide +kernel
theorem dX9_put_37 : decode cX9_put 37 = .ok (.iload 6, 2) := by decide +kernel
theorem dX9_put_39 : decode cX9_put 39 = .ok (.invokevirtual 106, 3) := by decide +kernel
theorem dX9_put_42 : decode cX9_put 42 = .ok (.ireturn, 1) := by decide +kernel
theorem dX9_put_43 : decode cX9_put 43 = .ok (.aload_n 0, 1) := by decide +kernel
theorem dX9_put_44 : decode cX9_put 44 = .ok (.getfield 20, 3) := by decide +kernel
theorem dX9_put_47 : decode cX9_put 47 = .ok (.bipush 60, 2) := by decide +kernel
theorem dX9_put_49 : decode cX9_put 49 = .ok (.iload_n 1, 1) := by decide +kernel
theorem dX9_put_50 : decode cX9_put 50 = .ok (.imul, 1) := by decide +kernel
theorem dX9_put_51 : decode cX9_put 51 = .ok (.iload_n 3, 1) := by decide +kernel
theorem dX9_put_52 : decode cX9_put 52 = .ok (.iadd, 1) := by decide +kernel
theorem dX9_put_53 : decode cX9_put 53 = .ok (.iload_n 2, 1) := by decide +kernel
theorem dX9_put_54 : decode cX9_put 54 = .ok (.lload 4, 2) := by decide +kernel
theorem dX9_put_56 : decode cX9_put 56 = .ok (.invokestatic 124, 3) := by decide +kernel
theorem dX9_put_59 : decode cX9_put 59 = .ok (.lastore, 1) := by decide +kernel
theorem dX9_put_60 : decode cX9_put 60 = .ok (.iconst 1, 1) := by decide +kernel
theorem dX9_put_61 : decode cX9_put 61 = .ok (.ireturn, 1) := by decide +kernel
theorem dX9_get_0 : decode cX9_get 0 = .ok (.iload_n 1, 1) := by decide +kernel
theorem dX9_get_1 : decode cX9_get 1 = .ok (.invokestatic 102, 3) := by decide +kernel
theorem dX9_get_4 : decode cX9_get 4 = .ok (.ifCond .eq 15, 3) := by decide +kernel
theorem dX9_get_7 : decode cX9_get 7 = .ok (.iload_n 2, 1) := by decide +kernel
theorem dX9_get_8 : decode cX9_get 8 = .ok (.i2l, 1) := by decide +kernel
theorem dX9_get_9 : decode cX9_get 9 = .ok (.lconst 0, 1) := by decide +kernel
theorem dX9_get_10 : decode cX9_get 10 = .ok (.ldc2_w 96, 3) := by decide +kernel
theorem dX9_get_13 : decode cX9_get 13 = .ok (.invokestatic 98, 3) := by decide +kernel
theorem dX9_get_16 : decode cX9_get 16 = .ok (.ifCond .ne 5, 3) := by decide +kernel
theorem dX9_get_19 : decode cX9_get 19 = .ok (.lconst 0, 1) := by decide +kernel
theorem dX9_get_20 : decode cX9_get 20 = .ok (.lreturn, 1) := by decide +kernel
theorem dX9_get_21 : decode cX9_get 21 = .ok (.aload_n 0, 1) := by decide +kernel
theorem dX9_get_22 : decode cX9_get 22 = .ok (.iload_n 1, 1) := by decide +kernel
theorem dX9_get_23 : decode cX9_get 23 = .ok (.iload_n 2, 1) := by decide +kernel
theorem dX9_get_24 : decode cX9_get 24 = .ok (.iload_n 3, 1) := by decide +kernel
theorem dX9_get_25 : decode cX9_get 25 = .ok (.invokevirtual 120, 3) := by decide +kernel
theorem dX9_get_28 : decode cX9_get 28 = .ok (.istore 4, 2) := by decide +kernel
theorem dX9_get_30 : decode cX9_get 30 = .ok (.iload 4, 2) := by decide +kernel
theorem dX9_get_32 : decode cX9_get 32 = .ok (.ifCond .le 13, 3) := by decide +kernel
theorem dX9_get_35 : decode cX9_get 35 = .ok (.aload_n 0, 1) := by decide +kernel
theorem dX9_get_36 : decode cX9_get 36 = .ok (.iload 4, 2) := by decide +kernel
theorem dX9_get_38 : decode cX9_get 38 = .ok (.invokevirtual 106, 3) := by decide +kernel
theorem dX9_get_41 : decode cX9_get 41 = .ok (.istore 5, 2) := by decide +kernel
theorem dX9_get_43 : decode cX9_get 43 = .ok (.lconst 0, 1) := by decide +kernel
theorem dX9_get_44 : decode cX9_get 44 = .ok (.lreturn, 1) := by decide +kernel
theorem dX9_get_45 : decode cX9_get 45 = .ok (.aload_n 0, 1) := by decide +kernel
theorem dX9_get_46 : decode cX9_get 46 = .ok (.getfield 20, 3) := by decide +kernel
theorem dX9_get_49 : decode cX9_get 49 = .ok (.bipush 60, 2) := by decide +kernel
theorem dX9_get_51 : decode cX9_get 51 = .ok (.iload_n 1, 1) := by decide +kernel
theorem dX9_get_52 : decode cX9_get 52 = .ok (.imul, 1) := by decide +kernel
theorem dX9_get_53 : decode cX9_get 53 = .ok (.iload_n 3, 1) := by decide +kernel
theorem dX9_get_54 : decode cX9_get 54 = .ok (.iadd, 1) := by decide +kernel
theorem dX9_get_55 : decode cX9_get 55 = .ok (.laload, 1) := by decide +kernel
theorem dX9_get_56 : decode cX9_get 56 = .ok (.lreturn, 1) := by decide +kernel
theorem dX9_copy_0 : decode cX9_copy 0 = .ok (.iload_n 1, 1) := by decide +kernel
theorem dX9_copy_1 : decode cX9_copy 1 = .ok (.invokestatic 102, 3) := by decide +kernel
theorem dX9_copy_4 : decode cX9_copy 4 = .ok (.ifCond .eq 10, 3) := by decide +kernel
theorem dX9_copy_7 : decode cX9_copy 7 = .ok (.iload_n 3, 1) := by decide +kernel
theorem dX9_copy_8 : decode cX9_copy 8 = .ok (.invokestatic 102, 3) := by decide +kernel
theorem dX9_copy_11 : decode cX9_copy 11 = .ok (.ifCond .ne 6, 3) := by decide +kernel
theorem dX9_copy_14 : decode cX9_copy 14 = .ok (.bipush (-2), 2) := by decide +kernel
theorem dX9_copy_16 : decode cX9_copy 16 = .ok (.ireturn, 1) := by decide +kernel
theorem dX9_copy_17 : decode cX9_copy 17 = .ok (.aload_n 0, 1) := by decide +kernel
theorem dX9_copy_18 : decode cX9_copy 18 = .ok (.getfield 7, 3) := by decide +kernel
theorem dX9_copy_21 : decode cX9_copy 21 = .ok (.iload_n 1, 1) := by decide +kernel
theorem dX9_copy_22 : decode cX9_copy 22 = .ok (.baload, 1) := by decide +kernel
theorem dX9_copy_23 : decode cX9_copy 23 = .ok (.ifCond .eq 12, 3) := by decide +kernel
theorem dX9_copy_26 : decode cX9_copy 26 = .ok (.aload_n 0, 1) := by decide +kernel
theorem dX9_copy_27 : decode cX9_copy 27 = .ok (.getfield 7, 3) := by decide +kernel
theorem dX9_copy_30 : decode cX9_copy 30 = .ok (.iload_n 3, 1) := by decide +kernel
theorem dX9_copy_31 : decode cX9_copy 31 = .ok (.baload, 1) := by decide +kernel
theorem dX9_copy_32 : decode cX9_copy 32 = .ok (.ifCond .ne 9, 3) := by decide +kernel
theorem dX9_copy_35 : decode cX9_copy 35 = .ok (.aload_n 0, 1) := by decide +kernel
theorem dX9_copy_36 : decode cX9_copy 36 = .ok (.iconst 1, 1) := by decide +kernel
theorem dX9_copy_37 : decode cX9_copy 37 = .ok (.invokevirtual 106, 3) := by decide +kernel
theorem dX9_copy_40 : decode cX9_copy 40 = .ok (.ireturn, 1) := by decide +kernel
theorem dX9_copy_41 : decode cX9_copy 41 = .ok (.aload_n 0, 1) := by decide +kernel
theorem dX9_copy_42 : decode cX9_copy 42 = .ok (.getfield 13, 3) := by decide +kernel
theorem dX9_copy_45 : decode cX9_copy 45 = .ok (.iload_n 1, 1) := by decide +kernel
theorem dX9_copy_46 : decode cX9_copy 46 = .ok (.iaload, 1) := by decide +kernel
theorem dX9_copy_47 : decode cX9_copy 47 = .ok (.aload_n 0, 1) := by decide +kernel
theorem dX9_copy_48 : decode cX9_copy 48 = .ok (.getfield 13, 3) := by decide +kernel
theorem dX9_copy_51 : decode cX9_copy 51 = .ok (.iload_n 3, 1) := by decide +kernel
theorem dX9_copy_52 : decode cX9_copy 52 = .ok (.iaload, 1) := by decide +kernel
theorem dX9_copy_53 : decode cX9_copy 53 = .ok (.if_icmp .eq 9, 3) := by decide +kernel
theorem dX9_copy_56 : decode cX9_copy 56 = .ok (.aload_n 0, 1) := by decide +kernel
theorem dX9_copy_57 : decode cX9_copy 57 = .ok (.iconst 4, 1) := by decide +kernel
theorem dX9_copy_58 : decode cX9_copy 58 = .ok (.invokevirtual 106, 3) := by decide +kernel
theorem dX9_copy_61 : decode cX9_copy 61 = .ok (.ireturn, 1) := by decide +kernel
theorem dX9_copy_62 : decode cX9_copy 62 = .ok (.iload_n 2, 1) := by decide +kernel
theorem dX9_copy_63 : decode cX9_copy 63 = .ok (.ifCond .lt 48, 3) := by decide +kernel
theorem dX9_copy_66 : decode cX9_copy 66 = .ok (.iload 4, 2) := by decide +kernel
theorem dX9_copy_68 : decode cX9_copy 68 = .ok (.ifCond .lt 43, 3) := by decide +kernel
theorem dX9_copy_71 : decode cX9_copy 71 = .ok (.iload 5, 2) := by decide +kernel
theorem dX9_copy_73 : decode cX9_copy 73 = .ok (.ifCond .lt 38, 3) := by decide +kernel
theorem dX9_copy_76 : decode cX9_copy 76 = .ok (.iload_n 2, 1) := by decide +kernel
theorem dX9_copy_77 : decode cX9_copy 77 = .ok (.i2l, 1) := by decide +kernel
theorem dX9_copy_78 : decode cX9_copy 78 = .ok (.iload 5, 2) := by decide +kernel
theorem dX9_copy_80 : decode cX9_copy 80 = .ok (.i2l, 1) := by decide +kernel
theorem dX9_copy_81 : decode cX9_copy 81 = .ok (.ladd, 1) := by decide +kernel
theorem dX9_copy_82 : decode cX9_copy 82 = .ok (.aload_n 0, 1) := by decide +kernel
theorem dX9_copy_83 : decode cX9_copy 83 = .ok (.getfield 17, 3) := by decide +kernel
theorem dX9_copy_86 : decode cX9_copy 86 = .ok (.iload_n 1, 1) := by decide +kernel
theorem dX9_copy_87 : decode cX9_copy 87 = .ok (.iaload, 1) := by decide +kernel
theorem dX9_copy_88 : decode cX9_copy 88 = .ok (.i2l, 1) := by decide +kernel
theorem dX9_copy_89 : decode cX9_copy 89 = .ok (.lcmp, 1) := by decide +kernel
theorem dX9_copy_90 : decode cX9_copy 90 = .ok (.ifCond .gt 21, 3) := by decide +kernel
theorem dX9_copy_93 : decode cX9_copy 93 = .ok (.iload 4, 2) := by decide +kernel
theorem dX9_copy_95 : decode cX9_copy 95 = .ok (.i2l, 1) := by decide +kernel
theorem dX9_copy_96 : decode cX9_copy 96 = .ok (.iload 5, 2) := by decide +kernel
theorem dX9_copy_98 : decode cX9_copy 98 = .ok (.i2l, 1) := by decide +kernel
theorem dX9_copy_99 : decode cX9_copy 99 = .ok (.ladd, 1) := by decide +kernel
theorem dX9_copy_100 : decode cX9_copy 100 = .ok (.aload_n 0, 1) := by decide +kernel
theorem dX9_copy_101 : decode cX9_copy 101 = .ok (.getfield 17, 3) := by decide +kernel
theorem dX9_copy_104 : decode cX9_copy 104 = .ok (.iload_n 3, 1) := by decide +kernel
theorem dX9_copy_105 : decode cX9_copy 105 = .ok (.iaload, 1) := by decide +kernel
theorem dX9_copy_106 : decode cX9_copy 106 = .ok (.i2l, 1) := by decide +kernel
theorem dX9_copy_107 : decode cX9_copy 107 = .ok (.lcmp, 1) := by decide +kernel
theorem dX9_copy_108 : decode cX9_copy 108 = .ok (.ifCond .le 9, 3) := by decide +kernel
theorem dX9_copy_111 : decode cX9_copy 111 = .ok (.aload_n 0, 1) := by decide +kernel
theorem dX9_copy_112 : decode cX9_copy 112 = .ok (.iconst 2, 1) := by decide +kernel
theorem dX9_copy_113 : decode cX9_copy 113 = .ok (.invokevirtual 106, 3) := by decide +kernel
theorem dX9_copy_116 : decode cX9_copy 116 = .ok (.ireturn, 1) := by decide +kernel
theorem dX9_copy_117 : decode cX9_copy 117 = .ok (.iconst 0, 1) := by decide +kernel
theorem dX9_copy_118 : decode cX9_copy 118 = .ok (.istore 6, 2) := by decide +kernel
theorem dX9_copy_120 : decode cX9_copy 120 = .ok (.iload 6, 2) := by decide +kernel
theorem dX9_copy_122 : decode cX9_copy 122 = .ok (.iload 5, 2) := by decide +kernel
theorem dX9_copy_124 : decode cX9_copy 124 = .ok (.if_icmp .ge 30, 3) := by decide +kernel
theorem dX9_copy_127 : decode cX9_copy 127 = .ok (.aload_n 0, 1) := by decide +kernel
theorem dX9_copy_128 : decode cX9_copy 128 = .ok (.getfield 24, 3) := by decide +kernel
theorem dX9_copy_131 : decode cX9_copy 131 = .ok (.iload 6, 2) := by decide +kernel
theorem dX9_copy_133 : decode cX9_copy 133 = .ok (.aload_n 0, 1) := by decide +kernel
theorem dX9_copy_134 : decode cX9_copy 134 = .ok (.getfield 20, 3) := by decide +kernel
theorem dX9_copy_137 : decode cX9_copy 137 = .ok (.bipush 60, 2) := by decide +kernel
theorem dX9_copy_139 : decode cX9_copy 139 = .ok (.iload_n 1, 1) := by decide +kernel
theorem dX9_copy_140 : decode cX9_copy 140 = .ok (.imul, 1) := by decide +kernel
theorem dX9_copy_141 : decode cX9_copy 141 = .ok (.iload_n 2, 1) := by decide +kernel
theorem dX9_copy_142 : decode cX9_copy 142 = .ok (.iadd, 1) := by decide +kernel
theorem dX9_copy_143 : decode cX9_copy 143 = .ok (.iload 6, 2) := by decide +kernel
theorem dX9_copy_145 : decode cX9_copy 145 = .ok (.iadd, 1) := by decide +kernel
theorem dX9_copy_146 : decode cX9_copy 146 = .ok (.laload, 1) := by decide +kernel
theorem dX9_copy_147 : decode cX9_copy 147 = .ok (.lastore, 1) := by decide +kernel
theorem dX9_copy_148 : decode cX9_copy 148 = .ok (.iinc 6 1, 3) := by decide +kernel
theorem dX9_copy_151 : decode cX9_copy 151 = .ok (.goto (-31), 3) := by decide +kernel
theorem dX9_copy_154 : decode cX9_copy 154 = .ok (.iconst 0, 1) := by decide +kernel
theorem dX9_copy_155 : decode cX9_copy 155 = .ok (.istore 6, 2) := by decide +kernel
theorem dX9_copy_157 : decode cX9_copy 157 = .ok (.iload 6, 2) := by decide +kernel
theorem dX9_copy_159 : decode cX9_copy 159 = .ok (.iload 5, 2) := by decide +kernel
theorem dX9_copy_161 : decode cX9_copy 161 = .ok (.if_icmp .ge 31, 3) := by decide +kernel
theorem dX9_copy_164 : decode cX9_copy 164 = .ok (.aload_n 0, 1) := by decide +kernel
theorem dX9_copy_165 : decode cX9_copy 165 = .ok (.getfield 20, 3) := by decide +kernel
theorem dX9_copy_168 : decode cX9_copy 168 = .ok (.bipush 60, 2) := by decide +kernel
theorem dX9_copy_170 : decode cX9_copy 170 = .ok (.iload_n 3, 1) := by decide +kernel
theorem dX9_copy_171 : decode cX9_copy 171 = .ok (.imul, 1) := by decide +kernel
theorem dX9_copy_172 : decode cX9_copy 172 = .ok (.iload 4, 2) := by decide +kernel
theorem dX9_copy_174 : decode cX9_copy 174 = .ok (.iadd, 1) := by decide +kernel
theorem dX9_copy_175 : decode cX9_copy 175 = .ok (.iload 6, 2) := by decide +kernel
theorem dX9_copy_177 : decode cX9_copy 177 = .ok (.iadd, 1) := by decide +kernel
theorem dX9_copy_178 : decode cX9_copy 178 = .ok (.aload_n 0, 1) := by decide +kernel
theorem dX9_copy_179 : decode cX9_copy 179 = .ok (.getfield 24, 3) := by decide +kernel
theorem dX9_copy_182 : decode cX9_copy 182 = .ok (.iload 6, 2) := by decide +kernel
theorem dX9_copy_184 : decode cX9_copy 184 = .ok (.laload, 1) := by decide +kernel
theorem dX9_copy_185 : decode cX9_copy 185 = .ok (.lastore, 1) := by decide +kernel
theorem dX9_copy_186 : decode cX9_copy 186 = .ok (.iinc 6 1, 3) := by decide +kernel
theorem dX9_copy_189 : decode cX9_copy 189 = .ok (.goto (-32), 3) := by decide +kernel
theorem dX9_copy_192 : decode cX9_copy 192 = .ok (.iconst 1, 1) := by decide +kernel
theorem dX9_copy_193 : decode cX9_copy 193 = .ok (.ireturn, 1) := by decide +kernel
theorem dX9_sampleOf_0 : decode cX9_sampleOf 0 = .ok (.aload_n 0, 1) := by decide +kernel
theorem dX9_sampleOf_1 : decode cX9_sampleOf 1 = .ok (.getfield 20, 3) := by decide +kernel
theorem dX9_sampleOf_4 : decode cX9_sampleOf 4 = .ok (.iload_n 1, 1) := by decide +kernel
theorem dX9_sampleOf_5 : decode cX9_sampleOf 5 = .ok (.laload, 1) := by decide +kernel
theorem dX9_sampleOf_6 : decode cX9_sampleOf 6 = .ok (.lstore_n 3, 1) := by decide +kernel
theorem dX9_sampleOf_7 : decode cX9_sampleOf 7 = .ok (.lload_n 3, 1) := by decide +kernel
theorem dX9_sampleOf_8 : decode cX9_sampleOf 8 = .ok (.lstore 5, 2) := by decide +kernel
theorem dX9_sampleOf_10 : decode cX9_sampleOf 10 = .ok (.iload_n 2, 1) := by decide +kernel
theorem dX9_sampleOf_11 : decode cX9_sampleOf 11 = .ok (.iconst 4, 1) := by decide +kernel
theorem dX9_sampleOf_12 : decode cX9_sampleOf 12 = .ok (.if_icmp .ne 44, 3) := by decide +kernel
end
section
theorem dX9_sampleOf_15 : decode cX9_sampleOf 15 = .ok (.lload_n 3, 1) := by decide +kernel
theorem dX9_sampleOf_16 : decode cX9_sampleOf 16 = .ok (.l2i, 1) := by decide +kernel
theorem dX9_sampleOf_17 : decode cX9_sampleOf 17 = .ok (.ldc 128, 2) := by decide +kernel
theorem dX9_sampleOf_19 : decode cX9_sampleOf 19 = .ok (.if_icmp .ne 26, 3) := by decide +kernel
theorem dX9_sampleOf_22 : decode cX9_sampleOf 22 = .ok (.aload_n 0, 1) := by decide +kernel
theorem dX9_sampleOf_23 : decode cX9_sampleOf 23 = .ok (.getfield 129, 3) := by decide +kernel
theorem dX9_sampleOf_26 : decode cX9_sampleOf 26 = .ok (.ifCond .ne 7, 3) := by decide +kernel
theorem dX9_sampleOf_29 : decode cX9_sampleOf 29 = .ok (.lconst 0, 1) := by decide +kernel
theorem dX9_sampleOf_30 : decode cX9_sampleOf 30 = .ok (.goto 14, 3) := by decide +kernel
theorem dX9_sampleOf_33 : decode cX9_sampleOf 33 = .ok (.aload_n 0, 1) := by decide +kernel
theorem dX9_sampleOf_34 : decode cX9_sampleOf 34 = .ok (.getfield 42, 3) := by decide +kernel
theorem dX9_sampleOf_37 : decode cX9_sampleOf 37 = .ok (.aload_n 0, 1) := by decide +kernel
theorem dX9_sampleOf_38 : decode cX9_sampleOf 38 = .ok (.getfield 129, 3) := by decide +kernel
theorem dX9_sampleOf_41 : decode cX9_sampleOf 41 = .ok (.iconst 1, 1) := by decide +kernel
theorem dX9_sampleOf_42 : decode cX9_sampleOf 42 = .ok (.isub, 1) := by decide +kernel
theorem dX9_sampleOf_43 : decode cX9_sampleOf 43 = .ok (.laload, 1) := by decide +kernel
theorem dX9_sampleOf_44 : decode cX9_sampleOf 44 = .ok (.lreturn, 1) := by decide +kernel
theorem dX9_sampleOf_45 : decode cX9_sampleOf 45 = .ok (.lload_n 3, 1) := by decide +kernel
theorem dX9_sampleOf_46 : decode cX9_sampleOf 46 = .ok (.l2i, 1) := by decide +kernel
theorem dX9_sampleOf_47 : decode cX9_sampleOf 47 = .ok (.invokestatic 132, 3) := by decide +kernel
theorem dX9_sampleOf_50 : decode cX9_sampleOf 50 = .ok (.f2l, 1) := by decide +kernel
theorem dX9_sampleOf_51 : decode cX9_sampleOf 51 = .ok (.lstore 5, 2) := by decide +kernel
theorem dX9_sampleOf_53 : decode cX9_sampleOf 53 = .ok (.goto 46, 3) := by decide +kernel
theorem dX9_sampleOf_56 : decode cX9_sampleOf 56 = .ok (.iload_n 2, 1) := by decide +kernel
theorem dX9_sampleOf_57 : decode cX9_sampleOf 57 = .ok (.iconst 5, 1) := by decide +kernel
theorem dX9_sampleOf_58 : decode cX9_sampleOf 58 = .ok (.if_icmp .ne 41, 3) := by decide +kernel
theorem dX9_sampleOf_61 : decode cX9_sampleOf 61 = .ok (.lload_n 3, 1) := by decide +kernel
theorem dX9_sampleOf_62 : decode cX9_sampleOf 62 = .ok (.ldc2_w 118, 3) := by decide +kernel
theorem dX9_sampleOf_65 : decode cX9_sampleOf 65 = .ok (.lcmp, 1) := by decide +kernel
theorem dX9_sampleOf_66 : decode cX9_sampleOf 66 = .ok (.ifCond .ne 26, 3) := by decide +kernel
theorem dX9_sampleOf_69 : decode cX9_sampleOf 69 = .ok (.aload_n 0, 1) := by decide +kernel
theorem dX9_sampleOf_70 : decode cX9_sampleOf 70 = .ok (.getfield 129, 3) := by decide +kernel
theorem dX9_sampleOf_73 : decode cX9_sampleOf 73 = .ok (.ifCond .ne 7, 3) := by decide +kernel
theorem dX9_sampleOf_76 : decode cX9_sampleOf 76 = .ok (.lconst 0, 1) := by decide +kernel
theorem dX9_sampleOf_77 : decode cX9_sampleOf 77 = .ok (.goto 14, 3) := by decide +kernel
theorem dX9_sampleOf_80 : decode cX9_sampleOf 80 = .ok (.aload_n 0, 1) := by decide +kernel
theorem dX9_sampleOf_81 : decode cX9_sampleOf 81 = .ok (.getfield 42, 3) := by decide +kernel
theorem dX9_sampleOf_84 : decode cX9_sampleOf 84 = .ok (.aload_n 0, 1) := by decide +kernel
theorem dX9_sampleOf_85 : decode cX9_sampleOf 85 = .ok (.getfield 129, 3) := by decide +kernel
theorem dX9_sampleOf_88 : decode cX9_sampleOf 88 = .ok (.iconst 1, 1) := by decide +kernel
theorem dX9_sampleOf_89 : decode cX9_sampleOf 89 = .ok (.isub, 1) := by decide +kernel
theorem dX9_sampleOf_90 : decode cX9_sampleOf 90 = .ok (.laload, 1) := by decide +kernel
theorem dX9_sampleOf_91 : decode cX9_sampleOf 91 = .ok (.lreturn, 1) := by decide +kernel
theorem dX9_sampleOf_92 : decode cX9_sampleOf 92 = .ok (.lload_n 3, 1) := by decide +kernel
theorem dX9_sampleOf_93 : decode cX9_sampleOf 93 = .ok (.invokestatic 138, 3) := by decide +kernel
theorem dX9_sampleOf_96 : decode cX9_sampleOf 96 = .ok (.d2l, 1) := by decide +kernel
theorem dX9_sampleOf_97 : decode cX9_sampleOf 97 = .ok (.lstore 5, 2) := by decide +kernel
theorem dX9_sampleOf_99 : decode cX9_sampleOf 99 = .ok (.lload 5, 2) := by decide +kernel
theorem dX9_sampleOf_101 : decode cX9_sampleOf 101 = .ok (.ldc2_w 144, 3) := by decide +kernel
theorem dX9_sampleOf_104 : decode cX9_sampleOf 104 = .ok (.lcmp, 1) := by decide +kernel
theorem dX9_sampleOf_105 : decode cX9_sampleOf 105 = .ok (.ifCond .le 9, 3) := by decide +kernel
theorem dX9_sampleOf_108 : decode cX9_sampleOf 108 = .ok (.ldc2_w 144, 3) := by decide +kernel
theorem dX9_sampleOf_111 : decode cX9_sampleOf 111 = .ok (.goto 20, 3) := by decide +kernel
theorem dX9_sampleOf_114 : decode cX9_sampleOf 114 = .ok (.lload 5, 2) := by decide +kernel
theorem dX9_sampleOf_116 : decode cX9_sampleOf 116 = .ok (.ldc2_w 146, 3) := by decide +kernel
theorem dX9_sampleOf_119 : decode cX9_sampleOf 119 = .ok (.lcmp, 1) := by decide +kernel
theorem dX9_sampleOf_120 : decode cX9_sampleOf 120 = .ok (.ifCond .ge 9, 3) := by decide +kernel
theorem dX9_sampleOf_123 : decode cX9_sampleOf 123 = .ok (.ldc2_w 146, 3) := by decide +kernel
theorem dX9_sampleOf_126 : decode cX9_sampleOf 126 = .ok (.goto 5, 3) := by decide +kernel
theorem dX9_sampleOf_129 : decode cX9_sampleOf 129 = .ok (.lload 5, 2) := by decide +kernel
theorem dX9_sampleOf_131 : decode cX9_sampleOf 131 = .ok (.lreturn, 1) := by decide +kernel
theorem dX9_sample_0 : decode cX9_sample 0 = .ok (.iload_n 1, 1) := by decide +kernel
theorem dX9_sample_1 : decode cX9_sample 1 = .ok (.invokestatic 102, 3) := by decide +kernel
theorem dX9_sample_4 : decode cX9_sample 4 = .ok (.ifCond .ne 5, 3) := by decide +kernel
theorem dX9_sample_7 : decode cX9_sample 7 = .ok (.lconst 0, 1) := by decide +kernel
theorem dX9_sample_8 : decode cX9_sample 8 = .ok (.lreturn, 1) := by decide +kernel
theorem dX9_sample_9 : decode cX9_sample 9 = .ok (.aload_n 0, 1) := by decide +kernel
theorem dX9_sample_10 : decode cX9_sample 10 = .ok (.iload_n 1, 1) := by decide +kernel
theorem dX9_sample_11 : decode cX9_sample 11 = .ok (.aload_n 0, 1) := by decide +kernel
theorem dX9_sample_12 : decode cX9_sample 12 = .ok (.getfield 13, 3) := by decide +kernel
theorem dX9_sample_15 : decode cX9_sample 15 = .ok (.iload_n 1, 1) := by decide +kernel
theorem dX9_sample_16 : decode cX9_sample 16 = .ok (.iaload, 1) := by decide +kernel
theorem dX9_sample_17 : decode cX9_sample 17 = .ok (.iload_n 2, 1) := by decide +kernel
theorem dX9_sample_18 : decode cX9_sample 18 = .ok (.invokevirtual 120, 3) := by decide +kernel
theorem dX9_sample_21 : decode cX9_sample 21 = .ok (.istore_n 3, 1) := by decide +kernel
theorem dX9_sample_22 : decode cX9_sample 22 = .ok (.iload_n 3, 1) := by decide +kernel
theorem dX9_sample_23 : decode cX9_sample 23 = .ok (.ifCond .le 12, 3) := by decide +kernel
theorem dX9_sample_26 : decode cX9_sample 26 = .ok (.aload_n 0, 1) := by decide +kernel
theorem dX9_sample_27 : decode cX9_sample 27 = .ok (.iload_n 3, 1) := by decide +kernel
theorem dX9_sample_28 : decode cX9_sample 28 = .ok (.invokevirtual 106, 3) := by decide +kernel
theorem dX9_sample_31 : decode cX9_sample 31 = .ok (.istore 4, 2) := by decide +kernel
theorem dX9_sample_33 : decode cX9_sample 33 = .ok (.lconst 0, 1) := by decide +kernel
theorem dX9_sample_34 : decode cX9_sample 34 = .ok (.lreturn, 1) := by decide +kernel
theorem dX9_sample_35 : decode cX9_sample 35 = .ok (.aload_n 0, 1) := by decide +kernel
theorem dX9_sample_36 : decode cX9_sample 36 = .ok (.bipush 60, 2) := by decide +kernel
theorem dX9_sample_38 : decode cX9_sample 38 = .ok (.iload_n 1, 1) := by decide +kernel
theorem dX9_sample_39 : decode cX9_sample 39 = .ok (.imul, 1) := by decide +kernel
theorem dX9_sample_40 : decode cX9_sample 40 = .ok (.iload_n 2, 1) := by decide +kernel
theorem dX9_sample_41 : decode cX9_sample 41 = .ok (.iadd, 1) := by decide +kernel
theorem dX9_sample_42 : decode cX9_sample 42 = .ok (.aload_n 0, 1) := by decide +kernel
theorem dX9_sample_43 : decode cX9_sample 43 = .ok (.getfield 13, 3) := by decide +kernel
theorem dX9_sample_46 : decode cX9_sample 46 = .ok (.iload_n 1, 1) := by decide +kernel
theorem dX9_sample_47 : decode cX9_sample 47 = .ok (.iaload, 1) := by decide +kernel
theorem dX9_sample_48 : decode cX9_sample 48 = .ok (.invokevirtual 148, 3) := by decide +kernel
theorem dX9_sample_51 : decode cX9_sample 51 = .ok (.lreturn, 1) := by decide +kernel
theorem dX9_stage_0 : decode cX9_stage 0 = .ok (.iload_n 1, 1) := by decide +kernel
theorem dX9_stage_1 : decode cX9_stage 1 = .ok (.tableswitch 138 0 3 #[31, 52, 78, 104], 31) := by decide +kernel
theorem dX9_stage_32 : decode cX9_stage 32 = .ok (.lload_n 2, 1) := by decide +kernel
theorem dX9_stage_33 : decode cX9_stage 33 = .ok (.lconst 0, 1) := by decide +kernel
theorem dX9_stage_34 : decode cX9_stage 34 = .ok (.lcmp, 1) := by decide +kernel
theorem dX9_stage_35 : decode cX9_stage 35 = .ok (.ifCond .ne 12, 3) := by decide +kernel
theorem dX9_stage_38 : decode cX9_stage 38 = .ok (.iload 4, 2) := by decide +kernel
theorem dX9_stage_40 : decode cX9_stage 40 = .ok (.ifCond .ne 7, 3) := by decide +kernel
theorem dX9_stage_43 : decode cX9_stage 43 = .ok (.iconst 1, 1) := by decide +kernel
theorem dX9_stage_44 : decode cX9_stage 44 = .ok (.goto 4, 3) := by decide +kernel
theorem dX9_stage_47 : decode cX9_stage 47 = .ok (.iconst 0, 1) := by decide +kernel
theorem dX9_stage_48 : decode cX9_stage 48 = .ok (.istore 5, 2) := by decide +kernel
theorem dX9_stage_50 : decode cX9_stage 50 = .ok (.goto 127, 3) := by decide +kernel
theorem dX9_stage_53 : decode cX9_stage 53 = .ok (.lload_n 2, 1) := by decide +kernel
theorem dX9_stage_54 : decode cX9_stage 54 = .ok (.lconst 0, 1) := by decide +kernel
theorem dX9_stage_55 : decode cX9_stage 55 = .ok (.ldc2_w 152, 3) := by decide +kernel
theorem dX9_stage_58 : decode cX9_stage 58 = .ok (.invokestatic 98, 3) := by decide +kernel
theorem dX9_stage_61 : decode cX9_stage 61 = .ok (.ifCond .eq 12, 3) := by decide +kernel
theorem dX9_stage_64 : decode cX9_stage 64 = .ok (.iload 4, 2) := by decide +kernel
theorem dX9_stage_66 : decode cX9_stage 66 = .ok (.ifCond .ne 7, 3) := by decide +kernel
theorem dX9_stage_69 : decode cX9_stage 69 = .ok (.iconst 1, 1) := by decide +kernel
theorem dX9_stage_70 : decode cX9_stage 70 = .ok (.goto 4, 3) := by decide +kernel
theorem dX9_stage_73 : decode cX9_stage 73 = .ok (.iconst 0, 1) := by decide +kernel
theorem dX9_stage_74 : decode cX9_stage 74 = .ok (.istore 5, 2) := by decide +kernel
theorem dX9_stage_76 : decode cX9_stage 76 = .ok (.goto 101, 3) := by decide +kernel
theorem dX9_stage_79 : decode cX9_stage 79 = .ok (.lload_n 2, 1) := by decide +kernel
theorem dX9_stage_80 : decode cX9_stage 80 = .ok (.lconst 1, 1) := by decide +kernel
theorem dX9_stage_81 : decode cX9_stage 81 = .ok (.ldc2_w 154, 3) := by decide +kernel
theorem dX9_stage_84 : decode cX9_stage 84 = .ok (.invokestatic 98, 3) := by decide +kernel
theorem dX9_stage_87 : decode cX9_stage 87 = .ok (.ifCond .eq 12, 3) := by decide +kernel
theorem dX9_stage_90 : decode cX9_stage 90 = .ok (.iload 4, 2) := by decide +kernel
theorem dX9_stage_92 : decode cX9_stage 92 = .ok (.ifCond .ne 7, 3) := by decide +kernel
theorem dX9_stage_95 : decode cX9_stage 95 = .ok (.iconst 1, 1) := by decide +kernel
theorem dX9_stage_96 : decode cX9_stage 96 = .ok (.goto 4, 3) := by decide +kernel
theorem dX9_stage_99 : decode cX9_stage 99 = .ok (.iconst 0, 1) := by decide +kernel
theorem dX9_stage_100 : decode cX9_stage 100 = .ok (.istore 5, 2) := by decide +kernel
theorem dX9_stage_102 : decode cX9_stage 102 = .ok (.goto 75, 3) := by decide +kernel
theorem dX9_stage_105 : decode cX9_stage 105 = .ok (.lload_n 2, 1) := by decide +kernel
theorem dX9_stage_106 : decode cX9_stage 106 = .ok (.lconst 1, 1) := by decide +kernel
theorem dX9_stage_107 : decode cX9_stage 107 = .ok (.ldc2_w 154, 3) := by decide +kernel
theorem dX9_stage_110 : decode cX9_stage 110 = .ok (.invokestatic 98, 3) := by decide +kernel
theorem dX9_stage_113 : decode cX9_stage 113 = .ok (.ifCond .eq 20, 3) := by decide +kernel
theorem dX9_stage_116 : decode cX9_stage 116 = .ok (.iload 4, 2) := by decide +kernel
theorem dX9_stage_118 : decode cX9_stage 118 = .ok (.i2l, 1) := by decide +kernel
theorem dX9_stage_119 : decode cX9_stage 119 = .ok (.lconst 0, 1) := by decide +kernel
theorem dX9_stage_120 : decode cX9_stage 120 = .ok (.ldc2_w 152, 3) := by decide +kernel
theorem dX9_stage_123 : decode cX9_stage 123 = .ok (.invokestatic 98, 3) := by decide +kernel
theorem dX9_stage_126 : decode cX9_stage 126 = .ok (.ifCond .eq 7, 3) := by decide +kernel
theorem dX9_stage_129 : decode cX9_stage 129 = .ok (.iconst 1, 1) := by decide +kernel
theorem dX9_stage_130 : decode cX9_stage 130 = .ok (.goto 4, 3) := by decide +kernel
theorem dX9_stage_133 : decode cX9_stage 133 = .ok (.iconst 0, 1) := by decide +kernel
theorem dX9_stage_134 : decode cX9_stage 134 = .ok (.istore 5, 2) := by decide +kernel
theorem dX9_stage_136 : decode cX9_stage 136 = .ok (.goto 41, 3) := by decide +kernel
theorem dX9_stage_139 : decode cX9_stage 139 = .ok (.iload_n 1, 1) := by decide +kernel
theorem dX9_stage_140 : decode cX9_stage 140 = .ok (.iconst 4, 1) := by decide +kernel
theorem dX9_stage_141 : decode cX9_stage 141 = .ok (.if_icmp .ne 33, 3) := by decide +kernel
theorem dX9_stage_144 : decode cX9_stage 144 = .ok (.lload_n 2, 1) := by decide +kernel
theorem dX9_stage_145 : decode cX9_stage 145 = .ok (.lconst 0, 1) := by decide +kernel
theorem dX9_stage_146 : decode cX9_stage 146 = .ok (.ldc2_w 152, 3) := by decide +kernel
theorem dX9_stage_149 : decode cX9_stage 149 = .ok (.invokestatic 98, 3) := by decide +kernel
theorem dX9_stage_152 : decode cX9_stage 152 = .ok (.ifCond .eq 22, 3) := by decide +kernel
theorem dX9_stage_155 : decode cX9_stage 155 = .ok (.iload 4, 2) := by decide +kernel
theorem dX9_stage_157 : decode cX9_stage 157 = .ok (.i2l, 1) := by decide +kernel
theorem dX9_stage_158 : decode cX9_stage 158 = .ok (.ldc2_w 156, 3) := by decide +kernel
theorem dX9_stage_161 : decode cX9_stage 161 = .ok (.ldc2_w 158, 3) := by decide +kernel
theorem dX9_stage_164 : decode cX9_stage 164 = .ok (.invokestatic 98, 3) := by decide +kernel
theorem dX9_stage_167 : decode cX9_stage 167 = .ok (.ifCond .eq 7, 3) := by decide +kernel
theorem dX9_stage_170 : decode cX9_stage 170 = .ok (.iconst 1, 1) := by decide +kernel
theorem dX9_stage_171 : decode cX9_stage 171 = .ok (.goto 4, 3) := by decide +kernel
theorem dX9_stage_174 : decode cX9_stage 174 = .ok (.iconst 0, 1) := by decide +kernel
theorem dX9_stage_175 : decode cX9_stage 175 = .ok (.istore 5, 2) := by decide +kernel
theorem dX9_stage_177 : decode cX9_stage 177 = .ok (.iload 5, 2) := by decide +kernel
theorem dX9_stage_179 : decode cX9_stage 179 = .ok (.ifCond .ne 6, 3) := by decide +kernel
theorem dX9_stage_182 : decode cX9_stage 182 = .ok (.bipush (-2), 2) := by decide +kernel
theorem dX9_stage_184 : decode cX9_stage 184 = .ok (.ireturn, 1) := by decide +kernel
theorem dX9_stage_185 : decode cX9_stage 185 = .ok (.aload_n 0, 1) := by decide +kernel
theorem dX9_stage_186 : decode cX9_stage 186 = .ok (.getfield 129, 3) := by decide +kernel
theorem dX9_stage_189 : decode cX9_stage 189 = .ok (.ifCond .le 6, 3) := by decide +kernel
theorem dX9_stage_192 : decode cX9_stage 192 = .ok (.bipush (-3), 2) := by decide +kernel
theorem dX9_stage_194 : decode cX9_stage 194 = .ok (.ireturn, 1) := by decide +kernel
theorem dX9_stage_195 : decode cX9_stage 195 = .ok (.aload_n 0, 1) := by decide +kernel
theorem dX9_stage_196 : decode cX9_stage 196 = .ok (.getfield 160, 3) := by decide +kernel
theorem dX9_stage_199 : decode cX9_stage 199 = .ok (.iconst 5, 1) := by decide +kernel
theorem dX9_stage_200 : decode cX9_stage 200 = .ok (.if_icmp .ne 6, 3) := by decide +kernel
theorem dX9_stage_203 : decode cX9_stage 203 = .ok (.bipush (-4), 2) := by decide +kernel
theorem dX9_stage_205 : decode cX9_stage 205 = .ok (.ireturn, 1) := by decide +kernel
theorem dX9_stage_206 : decode cX9_stage 206 = .ok (.aload_n 0, 1) := by decide +kernel
theorem dX9_stage_207 : decode cX9_stage 207 = .ok (.getfield 27, 3) := by decide +kernel
theorem dX9_stage_210 : decode cX9_stage 210 = .ok (.aload_n 0, 1) := by decide +kernel
theorem dX9_stage_211 : decode cX9_stage 211 = .ok (.getfield 160, 3) := by decide +kernel
theorem dX9_stage_214 : decode cX9_stage 214 = .ok (.iload_n 1, 1) := by decide +kernel
theorem dX9_stage_215 : decode cX9_stage 215 = .ok (.iastore, 1) := by decide +kernel
theorem dX9_stage_216 : decode cX9_stage 216 = .ok (.aload_n 0, 1) := by decide +kernel
theorem dX9_stage_217 : decode cX9_stage 217 = .ok (.getfield 30, 3) := by decide +kernel
theorem dX9_stage_220 : decode cX9_stage 220 = .ok (.aload_n 0, 1) := by decide +kernel
theorem dX9_stage_221 : decode cX9_stage 221 = .ok (.getfield 160, 3) := by decide +kernel
theorem dX9_stage_224 : decode cX9_stage 224 = .ok (.lload_n 2, 1) := by decide +kernel
theorem dX9_stage_225 : decode cX9_stage 225 = .ok (.lastore, 1) := by decide +kernel
theorem dX9_stage_226 : decode cX9_stage 226 = .ok (.aload_n 0, 1) := by decide +kernel
theorem dX9_stage_227 : decode cX9_stage 227 = .ok (.getfield 33, 3) := by decide +kernel
theorem dX9_stage_230 : decode cX9_stage 230 = .ok (.aload_n 0, 1) := by decide +kernel
theorem dX9_stage_231 : decode cX9_stage 231 = .ok (.getfield 160, 3) := by decide +kernel
theorem dX9_stage_234 : decode cX9_stage 234 = .ok (.iload 4, 2) := by decide +kernel
theorem dX9_stage_236 : decode cX9_stage 236 = .ok (.iastore, 1) := by decide +kernel
theorem dX9_stage_237 : decode cX9_stage 237 = .ok (.iconst 0, 1) := by decide +kernel
theorem dX9_stage_238 : decode cX9_stage 238 = .ok (.istore 6, 2) := by decide +kernel
theorem dX9_stage_240 : decode cX9_stage 240 = .ok (.iload 6, 2) := by decide +kernel
theorem dX9_stage_242 : decode cX9_stage 242 = .ok (.bipush 6, 2) := by decide +kernel
theorem dX9_stage_244 : decode cX9_stage 244 = .ok (.if_icmp .ge 25, 3) := by decide +kernel
theorem dX9_stage_247 : decode cX9_stage 247 = .ok (.aload_n 0, 1) := by decide +kernel
theorem dX9_stage_248 : decode cX9_stage 248 = .ok (.getfield 39, 3) := by decide +kernel
theorem dX9_stage_251 : decode cX9_stage 251 = .ok (.bipush 6, 2) := by decide +kernel
theorem dX9_stage_253 : decode cX9_stage 253 = .ok (.aload_n 0, 1) := by decide +kernel
theorem dX9_stage_254 : decode cX9_stage 254 = .ok (.getfield 160, 3) := by decide +kernel
theorem dX9_stage_257 : decode cX9_stage 257 = .ok (.imul, 1) := by decide +kernel
theorem dX9_stage_258 : decode cX9_stage 258 = .ok (.iload 6, 2) := by decide +kernel
theorem dX9_stage_260 : decode cX9_stage 260 = .ok (.iadd, 1) := by decide +kernel
theorem dX9_stage_261 : decode cX9_stage 261 = .ok (.lconst 0, 1) := by decide +kernel
theorem dX9_stage_262 : decode cX9_stage 262 = .ok (.lastore, 1) := by decide +kernel
theorem dX9_stage_263 : decode cX9_stage 263 = .ok (.iinc 6 1, 3) := by decide +kernel
theorem dX9_stage_266 : decode cX9_stage 266 = .ok (.goto (-26), 3) := by decide +kernel
theorem dX9_stage_269 : decode cX9_stage 269 = .ok (.aload_n 0, 1) := by decide +kernel
theorem dX9_stage_270 : decode cX9_stage 270 = .ok (.dup, 1) := by decide +kernel
theorem dX9_stage_271 : decode cX9_stage 271 = .ok (.getfield 160, 3) := by decide +kernel
theorem dX9_stage_274 : decode cX9_stage 274 = .ok (.iconst 1, 1) := by decide +kernel
theorem dX9_stage_275 : decode cX9_stage 275 = .ok (.iadd, 1) := by decide +kernel
theorem dX9_stage_276 : decode cX9_stage 276 = .ok (.putfield 160, 3) := by decide +kernel
theorem dX9_stage_279 : decode cX9_stage 279 = .ok (.aload_n 0, 1) := by decide +kernel
theorem dX9_stage_280 : decode cX9_stage 280 = .ok (.getfield 160, 3) := by decide +kernel
theorem dX9_stage_283 : decode cX9_stage 283 = .ok (.iconst 1, 1) := by decide +kernel
theorem dX9_stage_284 : decode cX9_stage 284 = .ok (.isub, 1) := by decide +kernel
theorem dX9_stage_285 : decode cX9_stage 285 = .ok (.ireturn, 1) := by decide +kernel
theorem dX9_isSample_0 : decode cX9_isSample 0 = .ok (.lload_n 0, 1) := by decide +kernel
theorem dX9_isSample_1 : decode cX9_isSample 1 = .ok (.ldc2_w 146, 3) := by decide +kernel
theorem dX9_isSample_4 : decode cX9_isSample 4 = .ok (.ldc2_w 144, 3) := by decide +kernel
theorem dX9_isSample_7 : decode cX9_isSample 7 = .ok (.invokestatic 98, 3) := by decide +kernel
theorem dX9_isSample_10 : decode cX9_isSample 10 = .ok (.ireturn, 1) := by decide +kernel
theorem dX9_levels_0 : decode cX9_levels 0 = .ok (.iload_n 1, 1) := by decide +kernel
theorem dX9_levels_1 : decode cX9_levels 1 = .ok (.i2l, 1) := by decide +kernel
theorem dX9_levels_2 : decode cX9_levels 2 = .ok (.ldc2_w 163, 3) := by decide +kernel
theorem dX9_levels_5 : decode cX9_levels 5 = .ok (.ldc2_w 165, 3) := by decide +kernel
theorem dX9_levels_8 : decode cX9_levels 8 = .ok (.invokestatic 98, 3) := by decide +kernel
theorem dX9_levels_11 : decode cX9_levels 11 = .ok (.ifCond .eq 37, 3) := by decide +kernel
theorem dX9_levels_14 : decode cX9_levels 14 = .ok (.lload_n 2, 1) := by decide +kernel
theorem dX9_levels_15 : decode cX9_levels 15 = .ok (.invokestatic 167, 3) := by decide +kernel
theorem dX9_levels_18 : decode cX9_levels 18 = .ok (.ifCond .eq 30, 3) := by decide +kernel
theorem dX9_levels_21 : decode cX9_levels 21 = .ok (.lload 4, 2) := by decide +kernel
theorem dX9_levels_23 : decode cX9_levels 23 = .ok (.lconst 1, 1) := by decide +kernel
theorem dX9_levels_24 : decode cX9_levels 24 = .ok (.ldc2_w 171, 3) := by decide +kernel
theorem dX9_levels_27 : decode cX9_levels 27 = .ok (.invokestatic 98, 3) := by decide +kernel
theorem dX9_levels_30 : decode cX9_levels 30 = .ok (.ifCond .eq 18, 3) := by decide +kernel
theorem dX9_levels_33 : decode cX9_levels 33 = .ok (.lload_n 2, 1) := by decide +kernel
theorem dX9_levels_34 : decode cX9_levels 34 = .ok (.iload_n 1, 1) := by decide +kernel
theorem dX9_levels_35 : decode cX9_levels 35 = .ok (.iconst 1, 1) := by decide +kernel
theorem dX9_levels_36 : decode cX9_levels 36 = .ok (.isub, 1) := by decide +kernel
theorem dX9_levels_37 : decode cX9_levels 37 = .ok (.i2l, 1) := by decide +kernel
theorem dX9_levels_38 : decode cX9_levels 38 = .ok (.lload 4, 2) := by decide +kernel
theorem dX9_levels_40 : decode cX9_levels 40 = .ok (.lmul, 1) := by decide +kernel
theorem dX9_levels_41 : decode cX9_levels 41 = .ok (.ladd, 1) := by decide +kernel
theorem dX9_levels_42 : decode cX9_levels 42 = .ok (.invokestatic 167, 3) := by decide +kernel
theorem dX9_levels_45 : decode cX9_levels 45 = .ok (.ifCond .ne 6, 3) := by decide +kernel
theorem dX9_levels_48 : decode cX9_levels 48 = .ok (.bipush (-2), 2) := by decide +kernel
theorem dX9_levels_50 : decode cX9_levels 50 = .ok (.ireturn, 1) := by decide +kernel
theorem dX9_levels_51 : decode cX9_levels 51 = .ok (.aload_n 0, 1) := by decide +kernel
theorem dX9_levels_52 : decode cX9_levels 52 = .ok (.getfield 129, 3) := by decide +kernel
theorem dX9_levels_55 : decode cX9_levels 55 = .ok (.ifCond .le 6, 3) := by decide +kernel
theorem dX9_levels_58 : decode cX9_levels 58 = .ok (.bipush (-3), 2) := by decide +kernel
theorem dX9_levels_60 : decode cX9_levels 60 = .ok (.ireturn, 1) := by decide +kernel
theorem dX9_levels_61 : decode cX9_levels 61 = .ok (.aload_n 0, 1) := by decide +kernel
theorem dX9_levels_62 : decode cX9_levels 62 = .ok (.iload_n 1, 1) := by decide +kernel
theorem dX9_levels_63 : decode cX9_levels 63 = .ok (.putfield 87, 3) := by decide +kernel
theorem dX9_levels_66 : decode cX9_levels 66 = .ok (.iconst 0, 1) := by decide +kernel
theorem dX9_levels_67 : decode cX9_levels 67 = .ok (.istore 6, 2) := by decide +kernel
theorem dX9_levels_69 : decode cX9_levels 69 = .ok (.iload 6, 2) := by decide +kernel
theorem dX9_levels_71 : decode cX9_levels 71 = .ok (.iload_n 1, 1) := by decide +kernel
theorem dX9_levels_72 : decode cX9_levels 72 = .ok (.if_icmp .ge 24, 3) := by decide +kernel
theorem dX9_levels_75 : decode cX9_levels 75 = .ok (.aload_n 0, 1) := by decide +kernel
theorem dX9_levels_76 : decode cX9_levels 76 = .ok (.getfield 36, 3) := by decide +kernel
theorem dX9_levels_79 : decode cX9_levels 79 = .ok (.iload 6, 2) := by decide +kernel
theorem dX9_levels_81 : decode cX9_levels 81 = .ok (.lload_n 2, 1) := by decide +kernel
theorem dX9_levels_82 : decode cX9_levels 82 = .ok (.iload 6, 2) := by decide +kernel
theorem dX9_levels_84 : decode cX9_levels 84 = .ok (.i2l, 1) := by decide +kernel
theorem dX9_levels_85 : decode cX9_levels 85 = .ok (.lload 4, 2) := by decide +kernel
theorem dX9_levels_87 : decode cX9_levels 87 = .ok (.lmul, 1) := by decide +kernel
theorem dX9_levels_88 : decode cX9_levels 88 = .ok (.ladd, 1) := by decide +kernel
theorem dX9_levels_89 : decode cX9_levels 89 = .ok (.lastore, 1) := by decide +kernel
theorem dX9_levels_90 : decode cX9_levels 90 = .ok (.iinc 6 1, 3) := by decide +kernel
theorem dX9_levels_93 : decode cX9_levels 93 = .ok (.goto (-24), 3) := by decide +kernel
theorem dX9_levels_96 : decode cX9_levels 96 = .ok (.iconst 1, 1) := by decide +kernel
theorem dX9_levels_97 : decode cX9_levels 97 = .ok (.ireturn, 1) := by decide +kernel
theorem dX9_level_0 : decode cX9_level 0 = .ok (.iload_n 1, 1) := by decide +kernel
theorem dX9_level_1 : decode cX9_level 1 = .ok (.i2l, 1) := by decide +kernel
theorem dX9_level_2 : decode cX9_level 2 = .ok (.lconst 0, 1) := by decide +kernel
theorem dX9_level_3 : decode cX9_level 3 = .ok (.aload_n 0, 1) := by decide +kernel
theorem dX9_level_4 : decode cX9_level 4 = .ok (.getfield 87, 3) := by decide +kernel
theorem dX9_level_7 : decode cX9_level 7 = .ok (.iconst 1, 1) := by decide +kernel
theorem dX9_level_8 : decode cX9_level 8 = .ok (.isub, 1) := by decide +kernel
theorem dX9_level_9 : decode cX9_level 9 = .ok (.i2l, 1) := by decide +kernel
theorem dX9_level_10 : decode cX9_level 10 = .ok (.invokestatic 98, 3) := by decide +kernel
theorem dX9_level_13 : decode cX9_level 13 = .ok (.ifCond .eq 50, 3) := by decide +kernel
theorem dX9_level_16 : decode cX9_level 16 = .ok (.lload_n 2, 1) := by decide +kernel
theorem dX9_level_17 : decode cX9_level 17 = .ok (.invokestatic 167, 3) := by decide +kernel
theorem dX9_level_20 : decode cX9_level 20 = .ok (.ifCond .eq 43, 3) := by decide +kernel
theorem dX9_level_23 : decode cX9_level 23 = .ok (.iload_n 1, 1) := by decide +kernel
theorem dX9_level_24 : decode cX9_level 24 = .ok (.ifCond .le 16, 3) := by decide +kernel
theorem dX9_level_27 : decode cX9_level 27 = .ok (.aload_n 0, 1) := by decide +kernel
theorem dX9_level_28 : decode cX9_level 28 = .ok (.getfield 36, 3) := by decide +kernel
theorem dX9_level_31 : decode cX9_level 31 = .ok (.iload_n 1, 1) := by decide +kernel
theorem dX9_level_32 : decode cX9_level 32 = .ok (.iconst 1, 1) := by decide +kernel
theorem dX9_level_33 : decode cX9_level 33 = .ok (.isub, 1) := by decide +kernel
theorem dX9_level_34 : decode cX9_level 34 = .ok (.laload, 1) := by decide +kernel
theorem dX9_level_35 : decode cX9_level 35 = .ok (.lload_n 2, 1) := by decide +kernel
theorem dX9_level_36 : decode cX9_level 36 = .ok (.lcmp, 1) := by decide +kernel
theorem dX9_level_37 : decode cX9_level 37 = .ok (.ifCond .ge 26, 3) := by decide +kernel
theorem dX9_level_40 : decode cX9_level 40 = .ok (.iload_n 1, 1) := by decide +kernel
theorem dX9_level_41 : decode cX9_level 41 = .ok (.iconst 1, 1) := by decide +kernel
theorem dX9_level_42 : decode cX9_level 42 = .ok (.iadd, 1) := by decide +kernel
theorem dX9_level_43 : decode cX9_level 43 = .ok (.aload_n 0, 1) := by decide +kernel
theorem dX9_level_44 : decode cX9_level 44 = .ok (.getfield 87, 3) := by decide +kernel
theorem dX9_level_47 : decode cX9_level 47 = .ok (.if_icmp .ge 19, 3) := by decide +kernel
theorem dX9_level_50 : decode cX9_level 50 = .ok (.aload_n 0, 1) := by decide +kernel
theorem dX9_level_51 : decode cX9_level 51 = .ok (.getfield 36, 3) := by decide +kernel
theorem dX9_level_54 : decode cX9_level 54 = .ok (.iload_n 1, 1) := by decide +kernel
theorem dX9_level_55 : decode cX9_level 55 = .ok (.iconst 1, 1) := by decide +kernel
theorem dX9_level_56 : decode cX9_level 56 = .ok (.iadd, 1) := by decide +kernel
theorem dX9_level_57 : decode cX9_level 57 = .ok (.laload, 1) := by decide +kernel
theorem dX9_level_58 : decode cX9_level 58 = .ok (.lload_n 2, 1) := by decide +kernel
theorem dX9_level_59 : decode cX9_level 59 = .ok (.lcmp, 1) := by decide +kernel
theorem dX9_level_60 : decode cX9_level 60 = .ok (.ifCond .gt 6, 3) := by decide +kernel
theorem dX9_level_63 : decode cX9_level 63 = .ok (.bipush (-2), 2) := by decide +kernel
theorem dX9_level_65 : decode cX9_level 65 = .ok (.ireturn, 1) := by decide +kernel
theorem dX9_level_66 : decode cX9_level 66 = .ok (.aload_n 0, 1) := by decide +kernel
theorem dX9_level_67 : decode cX9_level 67 = .ok (.getfield 129, 3) := by decide +kernel
theorem dX9_level_70 : decode cX9_level 70 = .ok (.ifCond .le 6, 3) := by decide +kernel
theorem dX9_level_73 : decode cX9_level 73 = .ok (.bipush (-3), 2) := by decide +kernel
theorem dX9_level_75 : decode cX9_level 75 = .ok (.ireturn, 1) := by decide +kernel
theorem dX9_level_76 : decode cX9_level 76 = .ok (.aload_n 0, 1) := by decide +kernel
theorem dX9_level_77 : decode cX9_level 77 = .ok (.getfield 36, 3) := by decide +kernel
theorem dX9_level_80 : decode cX9_level 80 = .ok (.iload_n 1, 1) := by decide +kernel
theorem dX9_level_81 : decode cX9_level 81 = .ok (.lload_n 2, 1) := by decide +kernel
theorem dX9_level_82 : decode cX9_level 82 = .ok (.lastore, 1) := by decide +kernel
theorem dX9_level_83 : decode cX9_level 83 = .ok (.iconst 1, 1) := by decide +kernel
theorem dX9_level_84 : decode cX9_level 84 = .ok (.ireturn, 1) := by decide +kernel
theorem dX9_lot_0 : decode cX9_lot 0 = .ok (.iload_n 1, 1) := by decide +kernel
theorem dX9_lot_1 : decode cX9_lot 1 = .ok (.i2l, 1) := by decide +kernel
theorem dX9_lot_2 : decode cX9_lot 2 = .ok (.lconst 0, 1) := by decide +kernel
theorem dX9_lot_3 : decode cX9_lot 3 = .ok (.ldc2_w 171, 3) := by decide +kernel
theorem dX9_lot_6 : decode cX9_lot 6 = .ok (.invokestatic 98, 3) := by decide +kernel
theorem dX9_lot_9 : decode cX9_lot 9 = .ok (.ifCond .ne 6, 3) := by decide +kernel
theorem dX9_lot_12 : decode cX9_lot 12 = .ok (.bipush (-2), 2) := by decide +kernel
theorem dX9_lot_14 : decode cX9_lot 14 = .ok (.ireturn, 1) := by decide +kernel
theorem dX9_lot_15 : decode cX9_lot 15 = .ok (.aload_n 0, 1) := by decide +kernel
theorem dX9_lot_16 : decode cX9_lot 16 = .ok (.getfield 129, 3) := by decide +kernel
theorem dX9_lot_19 : decode cX9_lot 19 = .ok (.ifCond .le 6, 3) := by decide +kernel
theorem dX9_lot_22 : decode cX9_lot 22 = .ok (.bipush (-3), 2) := by decide +kernel
theorem dX9_lot_24 : decode cX9_lot 24 = .ok (.ireturn, 1) := by decide +kernel
theorem dX9_lot_25 : decode cX9_lot 25 = .ok (.aload_n 0, 1) := by decide +kernel
theorem dX9_lot_26 : decode cX9_lot 26 = .ok (.iload_n 1, 1) := by decide +kernel
theorem dX9_lot_27 : decode cX9_lot 27 = .ok (.putfield 173, 3) := by decide +kernel
theorem dX9_lot_30 : decode cX9_lot 30 = .ok (.aload_n 0, 1) := by decide +kernel
theorem dX9_lot_31 : decode cX9_lot 31 = .ok (.lload_n 2, 1) := by decide +kernel
theorem dX9_lot_32 : decode cX9_lot 32 = .ok (.putfield 176, 3) := by decide +kernel
theorem dX9_lot_35 : decode cX9_lot 35 = .ok (.aload_n 0, 1) := by decide +kernel
theorem dX9_lot_36 : decode cX9_lot 36 = .ok (.lload_n 2, 1) := by decide +kernel
theorem dX9_lot_37 : decode cX9_lot 37 = .ok (.putfield 180, 3) := by decide +kernel
theorem dX9_lot_40 : decode cX9_lot 40 = .ok (.iconst 1, 1) := by decide +kernel
theorem dX9_lot_41 : decode cX9_lot 41 = .ok (.ireturn, 1) := by decide +kernel
theorem dX9_take_0 : decode cX9_take 0 = .ok (.iconst 0, 1) := by decide +kernel
theorem dX9_take_1 : decode cX9_take 1 = .ok (.istore_n 1, 1) := by decide +kernel
theorem dX9_take_2 : decode cX9_take 2 = .ok (.iload_n 1, 1) := by decide +kernel
theorem dX9_take_3 : decode cX9_take 3 = .ok (.bipush 30, 2) := by decide +kernel
theorem dX9_take_5 : decode cX9_take 5 = .ok (.if_icmp .ge 21, 3) := by decide +kernel
theorem dX9_take_8 : decode cX9_take 8 = .ok (.aload_n 0, 1) := by decide +kernel
theorem dX9_take_9 : decode cX9_take 9 = .ok (.getfield 51, 3) := by decide +kernel
theorem dX9_take_12 : decode cX9_take 12 = .ok (.iload_n 1, 1) := by decide +kernel
theorem dX9_take_13 : decode cX9_take 13 = .ok (.aload_n 0, 1) := by decide +kernel
theorem dX9_take_14 : decode cX9_take 14 = .ok (.getfield 39, 3) := by decide +kernel
theorem dX9_take_17 : decode cX9_take 17 = .ok (.iload_n 1, 1) := by decide +kernel
theorem dX9_take_18 : decode cX9_take 18 = .ok (.laload, 1) := by decide +kernel
theorem dX9_take_19 : decode cX9_take 19 = .ok (.lastore, 1) := by decide +kernel
theorem dX9_take_20 : decode cX9_take 20 = .ok (.iinc 1 1, 3) := by decide +kernel
theorem dX9_take_23 : decode cX9_take 23 = .ok (.goto (-21), 3) := by decide +kernel
theorem dX9_take_26 : decode cX9_take 26 = .ok (.aload_n 0, 1) := by decide +kernel
theorem dX9_take_27 : decode cX9_take 27 = .ok (.aload_n 0, 1) := by decide +kernel
theorem dX9_take_28 : decode cX9_take 28 = .ok (.getfield 180, 3) := by decide +kernel
theorem dX9_take_31 : decode cX9_take 31 = .ok (.putfield 183, 3) := by decide +kernel
theorem dX9_take_34 : decode cX9_take 34 = .ok (.return_, 1) := by decide +kernel
theorem dX9_rest_0 : decode cX9_rest 0 = .ok (.iconst 0, 1) := by decide +kernel
theorem dX9_rest_1 : decode cX9_rest 1 = .ok (.istore_n 1, 1) := by decide +kernel
theorem dX9_rest_2 : decode cX9_rest 2 = .ok (.iload_n 1, 1) := by decide +kernel
theorem dX9_rest_3 : decode cX9_rest 3 = .ok (.bipush 30, 2) := by decide +kernel
theorem dX9_rest_5 : decode cX9_rest 5 = .ok (.if_icmp .ge 16, 3) := by decide +kernel
theorem dX9_rest_8 : decode cX9_rest 8 = .ok (.aload_n 0, 1) := by decide +kernel
theorem dX9_rest_9 : decode cX9_rest 9 = .ok (.getfield 51, 3) := by decide +kernel
theorem dX9_rest_12 : decode cX9_rest 12 = .ok (.iload_n 1, 1) := by decide +kernel
theorem dX9_rest_13 : decode cX9_rest 13 = .ok (.lconst 0, 1) := by decide +kernel
theorem dX9_rest_14 : decode cX9_rest 14 = .ok (.lastore, 1) := by decide +kernel
theorem dX9_rest_15 : decode cX9_rest 15 = .ok (.iinc 1 1, 3) := by decide +kernel
theorem dX9_rest_18 : decode cX9_rest 18 = .ok (.goto (-16), 3) := by decide +kernel
theorem dX9_rest_21 : decode cX9_rest 21 = .ok (.aload_n 0, 1) := by decide +kernel
theorem dX9_rest_22 : decode cX9_rest 22 = .ok (.aload_n 0, 1) := by decide +kernel
theorem dX9_rest_23 : decode cX9_rest 23 = .ok (.getfield 176, 3) := by decide +kernel
theorem dX9_rest_26 : decode cX9_rest 26 = .ok (.putfield 183, 3) := by decide +kernel
theorem dX9_rest_29 : decode cX9_rest 29 = .ok (.return_, 1) := by decide +kernel
theorem dX9_lay_0 : decode cX9_lay 0 = .ok (.iconst 0, 1) := by decide +kernel
theorem dX9_lay_1 : decode cX9_lay 1 = .ok (.istore_n 1, 1) := by decide +kernel
theorem dX9_lay_2 : decode cX9_lay 2 = .ok (.iload_n 1, 1) := by decide +kernel
theorem dX9_lay_3 : decode cX9_lay 3 = .ok (.bipush 30, 2) := by decide +kernel
theorem dX9_lay_5 : decode cX9_lay 5 = .ok (.if_icmp .ge 21, 3) := by decide +kernel
theorem dX9_lay_8 : decode cX9_lay 8 = .ok (.aload_n 0, 1) := by decide +kernel
theorem dX9_lay_9 : decode cX9_lay 9 = .ok (.getfield 39, 3) := by decide +kernel
theorem dX9_lay_12 : decode cX9_lay 12 = .ok (.iload_n 1, 1) := by decide +kernel
theorem dX9_lay_13 : decode cX9_lay 13 = .ok (.aload_n 0, 1) := by decide +kernel
theorem dX9_lay_14 : decode cX9_lay 14 = .ok (.getfield 51, 3) := by decide +kernel
theorem dX9_lay_17 : decode cX9_lay 17 = .ok (.iload_n 1, 1) := by decide +kernel
theorem dX9_lay_18 : decode cX9_lay 18 = .ok (.laload, 1) := by decide +kernel
theorem dX9_lay_19 : decode cX9_lay 19 = .ok (.lastore, 1) := by decide +kernel
theorem dX9_lay_20 : decode cX9_lay 20 = .ok (.iinc 1 1, 3) := by decide +kernel
theorem dX9_lay_23 : decode cX9_lay 23 = .ok (.goto (-21), 3) := by decide +kernel
theorem dX9_lay_26 : decode cX9_lay 26 = .ok (.aload_n 0, 1) := by decide +kernel
theorem dX9_lay_27 : decode cX9_lay 27 = .ok (.aload_n 0, 1) := by decide +kernel
theorem dX9_lay_28 : decode cX9_lay 28 = .ok (.getfield 183, 3) := by decide +kernel
theorem dX9_lay_31 : decode cX9_lay 31 = .ok (.putfield 180, 3) := by decide +kernel
theorem dX9_lay_34 : decode cX9_lay 34 = .ok (.return_, 1) := by decide +kernel
theorem dX9_writes_0 : decode cX9_writes 0 = .ok (.aload_n 0, 1) := by decide +kernel
theorem dX9_writes_1 : decode cX9_writes 1 = .ok (.getfield 54, 3) := by decide +kernel
theorem dX9_writes_4 : decode cX9_writes 4 = .ok (.aload_n 0, 1) := by decide +kernel
theorem dX9_writes_5 : decode cX9_writes 5 = .ok (.getfield 186, 3) := by decide +kernel
theorem dX9_writes_8 : decode cX9_writes 8 = .ok (.iload_n 1, 1) := by decide +kernel
theorem dX9_writes_9 : decode cX9_writes 9 = .ok (.iastore, 1) := by decide +kernel
theorem dX9_writes_10 : decode cX9_writes 10 = .ok (.aload_n 0, 1) := by decide +kernel
theorem dX9_writes_11 : decode cX9_writes 11 = .ok (.dup, 1) := by decide +kernel
theorem dX9_writes_12 : decode cX9_writes 12 = .ok (.getfield 186, 3) := by decide +kernel
theorem dX9_writes_15 : decode cX9_writes 15 = .ok (.iconst 1, 1) := by decide +kernel
theorem dX9_writes_16 : decode cX9_writes 16 = .ok (.iadd, 1) := by decide +kernel
theorem dX9_writes_17 : decode cX9_writes 17 = .ok (.putfield 186, 3) := by decide +kernel
theorem dX9_writes_20 : decode cX9_writes 20 = .ok (.return_, 1) := by decide +kernel
theorem dX9_plain_0 : decode cX9_plain 0 = .ok (.aload_n 0, 1) := by decide +kernel
theorem dX9_plain_1 : decode cX9_plain 1 = .ok (.bipush 10, 2) := by decide +kernel
theorem dX9_plain_3 : decode cX9_plain 3 = .ok (.invokevirtual 189, 3) := by decide +kernel
theorem dX9_plain_6 : decode cX9_plain 6 = .ok (.aload_n 0, 1) := by decide +kernel
theorem dX9_plain_7 : decode cX9_plain 7 = .ok (.getfield 51, 3) := by decide +kernel
theorem dX9_plain_10 : decode cX9_plain 10 = .ok (.bipush 6, 2) := by decide +kernel
theorem dX9_plain_12 : decode cX9_plain 12 = .ok (.iload_n 1, 1) := by decide +kernel
theorem dX9_plain_13 : decode cX9_plain 13 = .ok (.imul, 1) := by decide +kernel
theorem dX9_plain_14 : decode cX9_plain 14 = .ok (.iconst 2, 1) := by decide +kernel
theorem dX9_plain_15 : decode cX9_plain 15 = .ok (.iadd, 1) := by decide +kernel
theorem dX9_plain_16 : decode cX9_plain 16 = .ok (.dup2, 1) := by decide +kernel
theorem dX9_plain_17 : decode cX9_plain 17 = .ok (.laload, 1) := by decide +kernel
theorem dX9_plain_18 : decode cX9_plain 18 = .ok (.lload_n 2, 1) := by decide +kernel
theorem dX9_plain_19 : decode cX9_plain 19 = .ok (.ladd, 1) := by decide +kernel
theorem dX9_plain_20 : decode cX9_plain 20 = .ok (.lastore, 1) := by decide +kernel
theorem dX9_plain_21 : decode cX9_plain 21 = .ok (.aload_n 0, 1) := by decide +kernel
theorem dX9_plain_22 : decode cX9_plain 22 = .ok (.getfield 51, 3) := by decide +kernel
theorem dX9_plain_25 : decode cX9_plain 25 = .ok (.bipush 6, 2) := by decide +kernel
theorem dX9_plain_27 : decode cX9_plain 27 = .ok (.iload_n 1, 1) := by decide +kernel
theorem dX9_plain_28 : decode cX9_plain 28 = .ok (.imul, 1) := by decide +kernel
theorem dX9_plain_29 : decode cX9_plain 29 = .ok (.iconst 3, 1) := by decide +kernel
theorem dX9_plain_30 : decode cX9_plain 30 = .ok (.iadd, 1) := by decide +kernel
theorem dX9_plain_31 : decode cX9_plain 31 = .ok (.dup2, 1) := by decide +kernel
theorem dX9_plain_32 : decode cX9_plain 32 = .ok (.laload, 1) := by decide +kernel
theorem dX9_plain_33 : decode cX9_plain 33 = .ok (.lload 4, 2) := by decide +kernel
theorem dX9_plain_35 : decode cX9_plain 35 = .ok (.ladd, 1) := by decide +kernel
theorem dX9_plain_36 : decode cX9_plain 36 = .ok (.lastore, 1) := by decide +kernel
theorem dX9_plain_37 : decode cX9_plain 37 = .ok (.aload_n 0, 1) := by decide +kernel
theorem dX9_plain_38 : decode cX9_plain 38 = .ok (.getfield 51, 3) := by decide +kernel
theorem dX9_plain_41 : decode cX9_plain 41 = .ok (.bipush 6, 2) := by decide +kernel
theorem dX9_plain_43 : decode cX9_plain 43 = .ok (.iload_n 1, 1) := by decide +kernel
theorem dX9_plain_44 : decode cX9_plain 44 = .ok (.imul, 1) := by decide +kernel
theorem dX9_plain_45 : decode cX9_plain 45 = .ok (.dup2, 1) := by decide +kernel
theorem dX9_plain_46 : decode cX9_plain 46 = .ok (.laload, 1) := by decide +kernel
theorem dX9_plain_47 : decode cX9_plain 47 = .ok (.lload_n 2, 1) := by decide +kernel
theorem dX9_plain_48 : decode cX9_plain 48 = .ok (.lload 4, 2) := by decide +kernel
theorem dX9_plain_50 : decode cX9_plain 50 = .ok (.lsub, 1) := by decide +kernel
theorem dX9_plain_51 : decode cX9_plain 51 = .ok (.ladd, 1) := by decide +kernel
theorem dX9_plain_52 : decode cX9_plain 52 = .ok (.lastore, 1) := by decide +kernel
theorem dX9_plain_53 : decode cX9_plain 53 = .ok (.return_, 1) := by decide +kernel
theorem dX9_leaky_0 : decode cX9_leaky 0 = .ok (.aload_n 0, 1) := by decide +kernel
theorem dX9_leaky_1 : decode cX9_leaky 1 = .ok (.bipush 11, 2) := by decide +kernel
theorem dX9_leaky_3 : decode cX9_leaky 3 = .ok (.invokevirtual 189, 3) := by decide +kernel
theorem dX9_leaky_6 : decode cX9_leaky 6 = .ok (.aload_n 0, 1) := by decide +kernel
theorem dX9_leaky_7 : decode cX9_leaky 7 = .ok (.getfield 51, 3) := by decide +kernel
theorem dX9_leaky_10 : decode cX9_leaky 10 = .ok (.bipush 6, 2) := by decide +kernel
theorem dX9_leaky_12 : decode cX9_leaky 12 = .ok (.iload_n 1, 1) := by decide +kernel
theorem dX9_leaky_13 : decode cX9_leaky 13 = .ok (.imul, 1) := by decide +kernel
theorem dX9_leaky_14 : decode cX9_leaky 14 = .ok (.laload, 1) := by decide +kernel
theorem dX9_leaky_15 : decode cX9_leaky 15 = .ok (.aload_n 0, 1) := by decide +kernel
theorem dX9_leaky_16 : decode cX9_leaky 16 = .ok (.getfield 30, 3) := by decide +kernel
theorem dX9_leaky_19 : decode cX9_leaky 19 = .ok (.iload_n 1, 1) := by decide +kernel
theorem dX9_leaky_20 : decode cX9_leaky 20 = .ok (.laload, 1) := by decide +kernel
theorem dX9_leaky_21 : decode cX9_leaky 21 = .ok (.lmul, 1) := by decide +kernel
theorem dX9_leaky_22 : decode cX9_leaky 22 = .ok (.ldc2_w 152, 3) := by decide +kernel
theorem dX9_leaky_25 : decode cX9_leaky 25 = .ok (.ldiv, 1) := by decide +kernel
theorem dX9_leaky_26 : decode cX9_leaky 26 = .ok (.lstore 6, 2) := by decide +kernel
theorem dX9_leaky_28 : decode cX9_leaky 28 = .ok (.aload_n 0, 1) := by decide +kernel
theorem dX9_leaky_29 : decode cX9_leaky 29 = .ok (.getfield 51, 3) := by decide +kernel
theorem dX9_leaky_32 : decode cX9_leaky 32 = .ok (.bipush 6, 2) := by decide +kernel
theorem dX9_leaky_34 : decode cX9_leaky 34 = .ok (.iload_n 1, 1) := by decide +kernel
theorem dX9_leaky_35 : decode cX9_leaky 35 = .ok (.imul, 1) := by decide +kernel
theorem dX9_leaky_36 : decode cX9_leaky 36 = .ok (.iconst 4, 1) := by decide +kernel
theorem dX9_leaky_37 : decode cX9_leaky 37 = .ok (.iadd, 1) := by decide +kernel
theorem dX9_leaky_38 : decode cX9_leaky 38 = .ok (.dup2, 1) := by decide +kernel
theorem dX9_leaky_39 : decode cX9_leaky 39 = .ok (.laload, 1) := by decide +kernel
theorem dX9_leaky_40 : decode cX9_leaky 40 = .ok (.lload 6, 2) := by decide +kernel
theorem dX9_leaky_42 : decode cX9_leaky 42 = .ok (.ladd, 1) := by decide +kernel
theorem dX9_leaky_43 : decode cX9_leaky 43 = .ok (.lastore, 1) := by decide +kernel
theorem dX9_leaky_44 : decode cX9_leaky 44 = .ok (.aload_n 0, 1) := by decide +kernel
theorem dX9_leaky_45 : decode cX9_leaky 45 = .ok (.getfield 51, 3) := by decide +kernel
theorem dX9_leaky_48 : decode cX9_leaky 48 = .ok (.bipush 6, 2) := by decide +kernel
theorem dX9_leaky_50 : decode cX9_leaky 50 = .ok (.iload_n 1, 1) := by decide +kernel
theorem dX9_leaky_51 : decode cX9_leaky 51 = .ok (.imul, 1) := by decide +kernel
theorem dX9_leaky_52 : decode cX9_leaky 52 = .ok (.dup2, 1) := by decide +kernel
theorem dX9_leaky_53 : decode cX9_leaky 53 = .ok (.laload, 1) := by decide +kernel
theorem dX9_leaky_54 : decode cX9_leaky 54 = .ok (.lload 6, 2) := by decide +kernel
theorem dX9_leaky_56 : decode cX9_leaky 56 = .ok (.lsub, 1) := by decide +kernel
theorem dX9_leaky_57 : decode cX9_leaky 57 = .ok (.lastore, 1) := by decide +kernel
theorem dX9_leaky_58 : decode cX9_leaky 58 = .ok (.aload_n 0, 1) := by decide +kernel
theorem dX9_leaky_59 : decode cX9_leaky 59 = .ok (.iload_n 1, 1) := by decide +kernel
theorem dX9_leaky_60 : decode cX9_leaky 60 = .ok (.lload_n 2, 1) := by decide +kernel
theorem dX9_leaky_61 : decode cX9_leaky 61 = .ok (.lload 4, 2) := by decide +kernel
theorem dX9_leaky_63 : decode cX9_leaky 63 = .ok (.invokevirtual 193, 3) := by decide +kernel
theorem dX9_leaky_66 : decode cX9_leaky 66 = .ok (.return_, 1) := by decide +kernel
theorem dX9_bounded_0 : decode cX9_bounded 0 = .ok (.aload_n 0, 1) := by decide +kernel
theorem dX9_bounded_1 : decode cX9_bounded 1 = .ok (.bipush 12, 2) := by decide +kernel
theorem dX9_bounded_3 : decode cX9_bounded 3 = .ok (.invokevirtual 189, 3) := by decide +kernel
theorem dX9_bounded_6 : decode cX9_bounded 6 = .ok (.aload_n 0, 1) := by decide +kernel
theorem dX9_bounded_7 : decode cX9_bounded 7 = .ok (.iload_n 1, 1) := by decide +kernel
theorem dX9_bounded_8 : decode cX9_bounded 8 = .ok (.lload_n 2, 1) := by decide +kernel
theorem dX9_bounded_9 : decode cX9_bounded 9 = .ok (.lload 4, 2) := by decide +kernel
theorem dX9_bounded_11 : decode cX9_bounded 11 = .ok (.invokevirtual 193, 3) := by decide +kernel
theorem dX9_bounded_14 : decode cX9_bounded 14 = .ok (.aload_n 0, 1) := by decide +kernel
theorem dX9_bounded_15 : decode cX9_bounded 15 = .ok (.getfield 51, 3) := by decide +kernel
theorem dX9_bounded_18 : decode cX9_bounded 18 = .ok (.bipush 6, 2) := by decide +kernel
theorem dX9_bounded_20 : decode cX9_bounded 20 = .ok (.iload_n 1, 1) := by decide +kernel
theorem dX9_bounded_21 : decode cX9_bounded 21 = .ok (.imul, 1) := by decide +kernel
theorem dX9_bounded_22 : decode cX9_bounded 22 = .ok (.laload, 1) := by decide +kernel
theorem dX9_bounded_23 : decode cX9_bounded 23 = .ok (.lstore 6, 2) := by decide +kernel
theorem dX9_bounded_25 : decode cX9_bounded 25 = .ok (.lload 6, 2) := by decide +kernel
theorem dX9_bounded_27 : decode cX9_bounded 27 = .ok (.aload_n 0, 1) := by decide +kernel
theorem dX9_bounded_28 : decode cX9_bounded 28 = .ok (.getfield 30, 3) := by decide +kernel
theorem dX9_bounded_31 : decode cX9_bounded 31 = .ok (.iload_n 1, 1) := by decide +kernel
theorem dX9_bounded_32 : decode cX9_bounded 32 = .ok (.laload, 1) := by decide +kernel
theorem dX9_bounded_33 : decode cX9_bounded 33 = .ok (.lcmp, 1) := by decide +kernel
theorem dX9_bounded_34 : decode cX9_bounded 34 = .ok (.ifCond .le 12, 3) := by decide +kernel
theorem dX9_bounded_37 : decode cX9_bounded 37 = .ok (.aload_n 0, 1) := by decide +kernel
theorem dX9_bounded_38 : decode cX9_bounded 38 = .ok (.getfield 30, 3) := by decide +kernel
theorem dX9_bounded_41 : decode cX9_bounded 41 = .ok (.iload_n 1, 1) := by decide +kernel
theorem dX9_bounded_42 : decode cX9_bounded 42 = .ok (.laload, 1) := by decide +kernel
theorem dX9_bounded_43 : decode cX9_bounded 43 = .ok (.goto 28, 3) := by decide +kernel
theorem dX9_bounded_46 : decode cX9_bounded 46 = .ok (.lload 6, 2) := by decide +kernel
theorem dX9_bounded_48 : decode cX9_bounded 48 = .ok (.aload_n 0, 1) := by decide +kernel
theorem dX9_bounded_49 : decode cX9_bounded 49 = .ok (.getfield 30, 3) := by decide +kernel
theorem dX9_bounded_52 : decode cX9_bounded 52 = .ok (.iload_n 1, 1) := by decide +kernel
theorem dX9_bounded_53 : decode cX9_bounded 53 = .ok (.laload, 1) := by decide +kernel
theorem dX9_bounded_54 : decode cX9_bounded 54 = .ok (.lneg, 1) := by decide +kernel
theorem dX9_bounded_55 : decode cX9_bounded 55 = .ok (.lcmp, 1) := by decide +kernel
theorem dX9_bounded_56 : decode cX9_bounded 56 = .ok (.ifCond .ge 13, 3) := by decide +kernel
theorem dX9_bounded_59 : decode cX9_bounded 59 = .ok (.aload_n 0, 1) := by decide +kernel
theorem dX9_bounded_60 : decode cX9_bounded 60 = .ok (.getfield 30, 3) := by decide +kernel
theorem dX9_bounded_63 : decode cX9_bounded 63 = .ok (.iload_n 1, 1) := by decide +kernel
theorem dX9_bounded_64 : decode cX9_bounded 64 = .ok (.laload, 1) := by decide +kernel
theorem dX9_bounded_65 : decode cX9_bounded 65 = .ok (.lneg, 1) := by decide +kernel
theorem dX9_bounded_66 : decode cX9_bounded 66 = .ok (.goto 5, 3) := by decide +kernel
theorem dX9_bounded_69 : decode cX9_bounded 69 = .ok (.lload 6, 2) := by decide +kernel
theorem dX9_bounded_71 : decode cX9_bounded 71 = .ok (.lstore 8, 2) := by decide +kernel
theorem dX9_bounded_73 : decode cX9_bounded 73 = .ok (.aload_n 0, 1) := by decide +kernel
theorem dX9_bounded_74 : decode cX9_bounded 74 = .ok (.getfield 51, 3) := by decide +kernel
theorem dX9_bounded_77 : decode cX9_bounded 77 = .ok (.bipush 6, 2) := by decide +kernel
theorem dX9_bounded_79 : decode cX9_bounded 79 = .ok (.iload_n 1, 1) := by decide +kernel
theorem dX9_bounded_80 : decode cX9_bounded 80 = .ok (.imul, 1) := by decide +kernel
theorem dX9_bounded_81 : decode cX9_bounded 81 = .ok (.iconst 5, 1) := by decide +kernel
theorem dX9_bounded_82 : decode cX9_bounded 82 = .ok (.iadd, 1) := by decide +kernel
theorem dX9_bounded_83 : decode cX9_bounded 83 = .ok (.dup2, 1) := by decide +kernel
theorem dX9_bounded_84 : decode cX9_bounded 84 = .ok (.laload, 1) := by decide +kernel
theorem dX9_bounded_85 : decode cX9_bounded 85 = .ok (.lload 6, 2) := by decide +kernel
theorem dX9_bounded_87 : decode cX9_bounded 87 = .ok (.lload 8, 2) := by decide +kernel
theorem dX9_bounded_89 : decode cX9_bounded 89 = .ok (.lsub, 1) := by decide +kernel
theorem dX9_bounded_90 : decode cX9_bounded 90 = .ok (.ladd, 1) := by decide +kernel
theorem dX9_bounded_91 : decode cX9_bounded 91 = .ok (.lastore, 1) := by decide +kernel
theorem dX9_bounded_92 : decode cX9_bounded 92 = .ok (.aload_n 0, 1) := by decide +kernel
theorem dX9_bounded_93 : decode cX9_bounded 93 = .ok (.getfield 51, 3) := by decide +kernel
theorem dX9_bounded_96 : decode cX9_bounded 96 = .ok (.bipush 6, 2) := by decide +kernel
theorem dX9_bounded_98 : decode cX9_bounded 98 = .ok (.iload_n 1, 1) := by decide +kernel
theorem dX9_bounded_99 : decode cX9_bounded 99 = .ok (.imul, 1) := by decide +kernel
theorem dX9_bounded_100 : decode cX9_bounded 100 = .ok (.lload 8, 2) := by decide +kernel
theorem dX9_bounded_102 : decode cX9_bounded 102 = .ok (.lastore, 1) := by decide +kernel
theorem dX9_bounded_103 : decode cX9_bounded 103 = .ok (.return_, 1) := by decide +kernel
theorem dX9_takes_0 : decode cX9_takes 0 = .ok (.aload_n 0, 1) := by decide +kernel
theorem dX9_takes_1 : decode cX9_takes 1 = .ok (.getfield 27, 3) := by decide +kernel
theorem dX9_takes_4 : decode cX9_takes 4 = .ok (.iload_n 1, 1) := by decide +kernel
theorem dX9_takes_5 : decode cX9_takes 5 = .ok (.iaload, 1) := by decide +kernel
theorem dX9_takes_6 : decode cX9_takes 6 = .ok (.tableswitch 139 0 3 #[30, 41, 52, 63], 30) := by decide +kernel
theorem dX9_takes_36 : decode cX9_takes 36 = .ok (.aload_n 0, 1) := by decide +kernel
theorem dX9_takes_37 : decode cX9_takes 37 = .ok (.iload_n 1, 1) := by decide +kernel
theorem dX9_takes_38 : decode cX9_takes 38 = .ok (.lload_n 2, 1) := by decide +kernel
theorem dX9_takes_39 : decode cX9_takes 39 = .ok (.lload 4, 2) := by decide +kernel
theorem dX9_takes_41 : decode cX9_takes 41 = .ok (.invokevirtual 193, 3) := by decide +kernel
theorem dX9_takes_44 : decode cX9_takes 44 = .ok (.goto 126, 3) := by decide +kernel
theorem dX9_takes_47 : decode cX9_takes 47 = .ok (.aload_n 0, 1) := by decide +kernel
theorem dX9_takes_48 : decode cX9_takes 48 = .ok (.iload_n 1, 1) := by decide +kernel
theorem dX9_takes_49 : decode cX9_takes 49 = .ok (.lload_n 2, 1) := by decide +kernel
theorem dX9_takes_50 : decode cX9_takes 50 = .ok (.lload 4, 2) := by decide +kernel
theorem dX9_takes_52 : decode cX9_takes 52 = .ok (.invokevirtual 197, 3) := by decide +kernel
theorem dX9_takes_55 : decode cX9_takes 55 = .ok (.goto 115, 3) := by decide +kernel
theorem dX9_takes_58 : decode cX9_takes 58 = .ok (.aload_n 0, 1) := by decide +kernel
theorem dX9_takes_59 : decode cX9_takes 59 = .ok (.iload_n 1, 1) := by decide +kernel
theorem dX9_takes_60 : decode cX9_takes 60 = .ok (.lload_n 2, 1) := by decide +kernel
theorem dX9_takes_61 : decode cX9_takes 61 = .ok (.lload 4, 2) := by decide +kernel
theorem dX9_takes_63 : decode cX9_takes 63 = .ok (.invokevirtual 200, 3) := by decide +kernel
theorem dX9_takes_66 : decode cX9_takes 66 = .ok (.goto 104, 3) := by decide +kernel
theorem dX9_takes_69 : decode cX9_takes 69 = .ok (.aload_n 0, 1) := by decide +kernel
theorem dX9_takes_70 : decode cX9_takes 70 = .ok (.bipush 13, 2) := by decide +kernel
theorem dX9_takes_72 : decode cX9_takes 72 = .ok (.invokevirtual 189, 3) := by decide +kernel
theorem dX9_takes_75 : decode cX9_takes 75 = .ok (.aload_n 0, 1) := by decide +kernel
theorem dX9_takes_76 : decode cX9_takes 76 = .ok (.iload_n 1, 1) := by decide +kernel
theorem dX9_takes_77 : decode cX9_takes 77 = .ok (.lload_n 2, 1) := by decide +kernel
theorem dX9_takes_78 : decode cX9_takes 78 = .ok (.aload_n 0, 1) := by decide +kernel
theorem dX9_takes_79 : decode cX9_takes 79 = .ok (.getfield 51, 3) := by decide +kernel
theorem dX9_takes_82 : decode cX9_takes 82 = .ok (.bipush 6, 2) := by decide +kernel
theorem dX9_takes_84 : decode cX9_takes 84 = .ok (.iload_n 1, 1) := by decide +kernel
theorem dX9_takes_85 : decode cX9_takes 85 = .ok (.imul, 1) := by decide +kernel
theorem dX9_takes_86 : decode cX9_takes 86 = .ok (.iconst 1, 1) := by decide +kernel
theorem dX9_takes_87 : decode cX9_takes 87 = .ok (.iadd, 1) := by decide +kernel
theorem dX9_takes_88 : decode cX9_takes 88 = .ok (.laload, 1) := by decide +kernel
theorem dX9_takes_89 : decode cX9_takes 89 = .ok (.aload_n 0, 1) := by decide +kernel
theorem dX9_takes_90 : decode cX9_takes 90 = .ok (.getfield 33, 3) := by decide +kernel
theorem dX9_takes_93 : decode cX9_takes 93 = .ok (.iload_n 1, 1) := by decide +kernel
theorem dX9_takes_94 : decode cX9_takes 94 = .ok (.iaload, 1) := by decide +kernel
theorem dX9_takes_95 : decode cX9_takes 95 = .ok (.i2l, 1) := by decide +kernel
theorem dX9_takes_96 : decode cX9_takes 96 = .ok (.lmul, 1) := by decide +kernel
theorem dX9_takes_97 : decode cX9_takes 97 = .ok (.ldc2_w 152, 3) := by decide +kernel
theorem dX9_takes_100 : decode cX9_takes 100 = .ok (.ldiv, 1) := by decide +kernel
theorem dX9_takes_101 : decode cX9_takes 101 = .ok (.lsub, 1) := by decide +kernel
theorem dX9_takes_102 : decode cX9_takes 102 = .ok (.lload 4, 2) := by decide +kernel
theorem dX9_takes_104 : decode cX9_takes 104 = .ok (.invokevirtual 200, 3) := by decide +kernel
theorem dX9_takes_107 : decode cX9_takes 107 = .ok (.aload_n 0, 1) := by decide +kernel
theorem dX9_takes_108 : decode cX9_takes 108 = .ok (.getfield 51, 3) := by decide +kernel
theorem dX9_takes_111 : decode cX9_takes 111 = .ok (.bipush 6, 2) := by decide +kernel
theorem dX9_takes_113 : decode cX9_takes 113 = .ok (.iload_n 1, 1) := by decide +kernel
theorem dX9_takes_114 : decode cX9_takes 114 = .ok (.imul, 1) := by decide +kernel
theorem dX9_takes_115 : decode cX9_takes 115 = .ok (.iconst 1, 1) := by decide +kernel
theorem dX9_takes_116 : decode cX9_takes 116 = .ok (.iadd, 1) := by decide +kernel
theorem dX9_takes_117 : decode cX9_takes 117 = .ok (.dup2, 1) := by decide +kernel
theorem dX9_takes_118 : decode cX9_takes 118 = .ok (.laload, 1) := by decide +kernel
theorem dX9_takes_119 : decode cX9_takes 119 = .ok (.aload_n 0, 1) := by decide +kernel
theorem dX9_takes_120 : decode cX9_takes 120 = .ok (.getfield 51, 3) := by decide +kernel
theorem dX9_takes_123 : decode cX9_takes 123 = .ok (.bipush 6, 2) := by decide +kernel
theorem dX9_takes_125 : decode cX9_takes 125 = .ok (.iload_n 1, 1) := by decide +kernel
theorem dX9_takes_126 : decode cX9_takes 126 = .ok (.imul, 1) := by decide +kernel
theorem dX9_takes_127 : decode cX9_takes 127 = .ok (.laload, 1) := by decide +kernel
theorem dX9_takes_128 : decode cX9_takes 128 = .ok (.aload_n 0, 1) := by decide +kernel
theorem dX9_takes_129 : decode cX9_takes 129 = .ok (.getfield 33, 3) := by decide +kernel
theorem dX9_takes_132 : decode cX9_takes 132 = .ok (.iload_n 1, 1) := by decide +kernel
theorem dX9_takes_133 : decode cX9_takes 133 = .ok (.iaload, 1) := by decide +kernel
theorem dX9_takes_134 : decode cX9_takes 134 = .ok (.i2l, 1) := by decide +kernel
theorem dX9_takes_135 : decode cX9_takes 135 = .ok (.lmul, 1) := by decide +kernel
theorem dX9_takes_136 : decode cX9_takes 136 = .ok (.ldc2_w 152, 3) := by decide +kernel
theorem dX9_takes_139 : decode cX9_takes 139 = .ok (.ldiv, 1) := by decide +kernel
theorem dX9_takes_140 : decode cX9_takes 140 = .ok (.ladd, 1) := by decide +kernel
theorem dX9_takes_141 : decode cX9_takes 141 = .ok (.lastore, 1) := by decide +kernel
theorem dX9_takes_142 : decode cX9_takes 142 = .ok (.goto 28, 3) := by decide +kernel
theorem dX9_takes_145 : decode cX9_takes 145 = .ok (.aload_n 0, 1) := by decide +kernel
theorem dX9_takes_146 : decode cX9_takes 146 = .ok (.bipush 14, 2) := by decide +kernel
theorem dX9_takes_148 : decode cX9_takes 148 = .ok (.invokevirtual 189, 3) := by decide +kernel
theorem dX9_takes_151 : decode cX9_takes 151 = .ok (.aload_n 0, 1) := by decide +kernel
theorem dX9_takes_152 : decode cX9_takes 152 = .ok (.iload_n 1, 1) := by decide +kernel
theorem dX9_takes_153 : decode cX9_takes 153 = .ok (.lload_n 2, 1) := by decide +kernel
theorem dX9_takes_154 : decode cX9_takes 154 = .ok (.aload_n 0, 1) := by decide +kernel
theorem dX9_takes_155 : decode cX9_takes 155 = .ok (.getfield 33, 3) := by decide +kernel
theorem dX9_takes_158 : decode cX9_takes 158 = .ok (.iload_n 1, 1) := by decide +kernel
theorem dX9_takes_159 : decode cX9_takes 159 = .ok (.iaload, 1) := by decide +kernel
theorem dX9_takes_160 : decode cX9_takes 160 = .ok (.i2l, 1) := by decide +kernel
theorem dX9_takes_161 : decode cX9_takes 161 = .ok (.lload 6, 2) := by decide +kernel
theorem dX9_takes_163 : decode cX9_takes 163 = .ok (.lmul, 1) := by decide +kernel
theorem dX9_takes_164 : decode cX9_takes 164 = .ok (.ladd, 1) := by decide +kernel
theorem dX9_takes_165 : decode cX9_takes 165 = .ok (.lload 4, 2) := by decide +kernel
theorem dX9_takes_167 : decode cX9_takes 167 = .ok (.invokevirtual 197, 3) := by decide +kernel
theorem dX9_takes_170 : decode cX9_takes 170 = .ok (.return_, 1) := by decide +kernel
theorem dX9_nearest_0 : decode cX9_nearest 0 = .ok (.iconst 0, 1) := by decide +kernel
theorem dX9_nearest_1 : decode cX9_nearest 1 = .ok (.istore_n 3, 1) := by decide +kernel
theorem dX9_nearest_2 : decode cX9_nearest 2 = .ok (.iconst 1, 1) := by decide +kernel
theorem dX9_nearest_3 : decode cX9_nearest 3 = .ok (.istore 4, 2) := by decide +kernel
theorem dX9_nearest_5 : decode cX9_nearest 5 = .ok (.iload 4, 2) := by decide +kernel
theorem dX9_nearest_7 : decode cX9_nearest 7 = .ok (.aload_n 0, 1) := by decide +kernel
theorem dX9_nearest_8 : decode cX9_nearest 8 = .ok (.getfield 87, 3) := by decide +kernel
theorem dX9_nearest_11 : decode cX9_nearest 11 = .ok (.if_icmp .ge 71, 3) := by decide +kernel
theorem dX9_nearest_14 : decode cX9_nearest 14 = .ok (.lload_n 1, 1) := by decide +kernel
theorem dX9_nearest_15 : decode cX9_nearest 15 = .ok (.aload_n 0, 1) := by decide +kernel
theorem dX9_nearest_16 : decode cX9_nearest 16 = .ok (.getfield 36, 3) := by decide +kernel
theorem dX9_nearest_19 : decode cX9_nearest 19 = .ok (.iload_n 3, 1) := by decide +kernel
theorem dX9_nearest_20 : decode cX9_nearest 20 = .ok (.laload, 1) := by decide +kernel
theorem dX9_nearest_21 : decode cX9_nearest 21 = .ok (.lsub, 1) := by decide +kernel
theorem dX9_nearest_22 : decode cX9_nearest 22 = .ok (.lstore 5, 2) := by decide +kernel
theorem dX9_nearest_24 : decode cX9_nearest 24 = .ok (.lload_n 1, 1) := by decide +kernel
theorem dX9_nearest_25 : decode cX9_nearest 25 = .ok (.aload_n 0, 1) := by decide +kernel
theorem dX9_nearest_26 : decode cX9_nearest 26 = .ok (.getfield 36, 3) := by decide +kernel
theorem dX9_nearest_29 : decode cX9_nearest 29 = .ok (.iload 4, 2) := by decide +kernel
theorem dX9_nearest_31 : decode cX9_nearest 31 = .ok (.laload, 1) := by decide +kernel
theorem dX9_nearest_32 : decode cX9_nearest 32 = .ok (.lsub, 1) := by decide +kernel
theorem dX9_nearest_33 : decode cX9_nearest 33 = .ok (.lstore 7, 2) := by decide +kernel
theorem dX9_nearest_35 : decode cX9_nearest 35 = .ok (.lload 7, 2) := by decide +kernel
theorem dX9_nearest_37 : decode cX9_nearest 37 = .ok (.lconst 0, 1) := by decide +kernel
theorem dX9_nearest_38 : decode cX9_nearest 38 = .ok (.lcmp, 1) := by decide +kernel
theorem dX9_nearest_39 : decode cX9_nearest 39 = .ok (.ifCond .ge 9, 3) := by decide +kernel
theorem dX9_nearest_42 : decode cX9_nearest 42 = .ok (.lload 7, 2) := by decide +kernel
theorem dX9_nearest_44 : decode cX9_nearest 44 = .ok (.lneg, 1) := by decide +kernel
theorem dX9_nearest_45 : decode cX9_nearest 45 = .ok (.goto 5, 3) := by decide +kernel
theorem dX9_nearest_48 : decode cX9_nearest 48 = .ok (.lload 7, 2) := by decide +kernel
theorem dX9_nearest_50 : decode cX9_nearest 50 = .ok (.lload 5, 2) := by decide +kernel
theorem dX9_nearest_52 : decode cX9_nearest 52 = .ok (.lconst 0, 1) := by decide +kernel
theorem dX9_nearest_53 : decode cX9_nearest 53 = .ok (.lcmp, 1) := by decide +kernel
theorem dX9_nearest_54 : decode cX9_nearest 54 = .ok (.ifCond .ge 9, 3) := by decide +kernel
theorem dX9_nearest_57 : decode cX9_nearest 57 = .ok (.lload 5, 2) := by decide +kernel
theorem dX9_nearest_59 : decode cX9_nearest 59 = .ok (.lneg, 1) := by decide +kernel
theorem dX9_nearest_60 : decode cX9_nearest 60 = .ok (.goto 5, 3) := by decide +kernel
theorem dX9_nearest_63 : decode cX9_nearest 63 = .ok (.lload 5, 2) := by decide +kernel
theorem dX9_nearest_65 : decode cX9_nearest 65 = .ok (.lcmp, 1) := by decide +kernel
theorem dX9_nearest_66 : decode cX9_nearest 66 = .ok (.ifCond .gt 8, 3) := by decide +kernel
theorem dX9_nearest_69 : decode cX9_nearest 69 = .ok (.iload 4, 2) := by decide +kernel
theorem dX9_nearest_71 : decode cX9_nearest 71 = .ok (.goto 4, 3) := by decide +kernel
theorem dX9_nearest_74 : decode cX9_nearest 74 = .ok (.iload_n 3, 1) := by decide +kernel
theorem dX9_nearest_75 : decode cX9_nearest 75 = .ok (.istore_n 3, 1) := by decide +kernel
theorem dX9_nearest_76 : decode cX9_nearest 76 = .ok (.iinc 4 1, 3) := by decide +kernel
theorem dX9_nearest_79 : decode cX9_nearest 79 = .ok (.goto (-74), 3) := by decide +kernel
theorem dX9_nearest_82 : decode cX9_nearest 82 = .ok (.iload_n 3, 1) := by decide +kernel
theorem dX9_nearest_83 : decode cX9_nearest 83 = .ok (.ireturn, 1) := by decide +kernel
theorem dX9_tries_0 : decode cX9_tries 0 = .ok (.aload_n 0, 1) := by decide +kernel
theorem dX9_tries_1 : decode cX9_tries 1 = .ok (.iconst 0, 1) := by decide +kernel
theorem dX9_tries_2 : decode cX9_tries 2 = .ok (.putfield 186, 3) := by decide +kernel
theorem dX9_tries_5 : decode cX9_tries 5 = .ok (.lconst 0, 1) := by decide +kernel
theorem dX9_tries_6 : decode cX9_tries 6 = .ok (.lstore_n 3, 1) := by decide +kernel
theorem dX9_tries_7 : decode cX9_tries 7 = .ok (.aload_n 0, 1) := by decide +kernel
theorem dX9_tries_8 : decode cX9_tries 8 = .ok (.getfield 173, 3) := by decide +kernel
theorem dX9_tries_11 : decode cX9_tries 11 = .ok (.ifCond .le 45, 3) := by decide +kernel
theorem dX9_tries_14 : decode cX9_tries 14 = .ok (.aload_n 0, 1) := by decide +kernel
theorem dX9_tries_15 : decode cX9_tries 15 = .ok (.ldc2_w 203, 3) := by decide +kernel
theorem dX9_tries_18 : decode cX9_tries 18 = .ok (.aload_n 0, 1) := by decide +kernel
theorem dX9_tries_19 : decode cX9_tries 19 = .ok (.getfield 183, 3) := by decide +kernel
theorem dX9_tries_22 : decode cX9_tries 22 = .ok (.lmul, 1) := by decide +kernel
theorem dX9_tries_23 : decode cX9_tries 23 = .ok (.ldc2_w 205, 3) := by decide +kernel
theorem dX9_tries_26 : decode cX9_tries 26 = .ok (.ladd, 1) := by decide +kernel
theorem dX9_tries_27 : decode cX9_tries 27 = .ok (.putfield 183, 3) := by decide +kernel
theorem dX9_tries_30 : decode cX9_tries 30 = .ok (.aload_n 0, 1) := by decide +kernel
theorem dX9_tries_31 : decode cX9_tries 31 = .ok (.getfield 183, 3) := by decide +kernel
theorem dX9_tries_34 : decode cX9_tries 34 = .ok (.bipush 33, 2) := by decide +kernel
theorem dX9_tries_36 : decode cX9_tries 36 = .ok (.lushr, 1) := by decide +kernel
theorem dX9_tries_37 : decode cX9_tries 37 = .ok (.ldc2_w 163, 3) := by decide +kernel
theorem dX9_tries_40 : decode cX9_tries 40 = .ok (.aload_n 0, 1) := by decide +kernel
theorem dX9_tries_41 : decode cX9_tries 41 = .ok (.getfield 173, 3) := by decide +kernel
theorem dX9_tries_44 : decode cX9_tries 44 = .ok (.i2l, 1) := by decide +kernel
theorem dX9_tries_45 : decode cX9_tries 45 = .ok (.lmul, 1) := by decide +kernel
theorem dX9_tries_46 : decode cX9_tries 46 = .ok (.lconst 1, 1) := by decide +kernel
theorem dX9_tries_47 : decode cX9_tries 47 = .ok (.ladd, 1) := by decide +kernel
theorem dX9_tries_48 : decode cX9_tries 48 = .ok (.lrem, 1) := by decide +kernel
theorem dX9_tries_49 : decode cX9_tries 49 = .ok (.aload_n 0, 1) := by decide +kernel
theorem dX9_tries_50 : decode cX9_tries 50 = .ok (.getfield 173, 3) := by decide +kernel
theorem dX9_tries_53 : decode cX9_tries 53 = .ok (.i2l, 1) := by decide +kernel
theorem dX9_tries_54 : decode cX9_tries 54 = .ok (.lsub, 1) := by decide +kernel
theorem dX9_tries_55 : decode cX9_tries 55 = .ok (.lstore_n 3, 1) := by decide +kernel
theorem dX9_tries_56 : decode cX9_tries 56 = .ok (.aload_n 0, 1) := by decide +kernel
theorem dX9_tries_57 : decode cX9_tries 57 = .ok (.getfield 160, 3) := by decide +kernel
theorem dX9_tries_60 : decode cX9_tries 60 = .ok (.ifCond .ne 7, 3) := by decide +kernel
theorem dX9_tries_63 : decode cX9_tries 63 = .ok (.lload_n 1, 1) := by decide +kernel
theorem dX9_tries_64 : decode cX9_tries 64 = .ok (.goto 18, 3) := by decide +kernel
theorem dX9_tries_67 : decode cX9_tries 67 = .ok (.aload_n 0, 1) := by decide +kernel
theorem dX9_tries_68 : decode cX9_tries 68 = .ok (.getfield 51, 3) := by decide +kernel
theorem dX9_tries_71 : decode cX9_tries 71 = .ok (.bipush 6, 2) := by decide +kernel
theorem dX9_tries_73 : decode cX9_tries 73 = .ok (.aload_n 0, 1) := by decide +kernel
theorem dX9_tries_74 : decode cX9_tries 74 = .ok (.getfield 160, 3) := by decide +kernel
theorem dX9_tries_77 : decode cX9_tries 77 = .ok (.imul, 1) := by decide +kernel
theorem dX9_tries_78 : decode cX9_tries 78 = .ok (.bipush 6, 2) := by decide +kernel
theorem dX9_tries_80 : decode cX9_tries 80 = .ok (.isub, 1) := by decide +kernel
theorem dX9_tries_81 : decode cX9_tries 81 = .ok (.laload, 1) := by decide +kernel
theorem dX9_tries_82 : decode cX9_tries 82 = .ok (.lstore 5, 2) := by decide +kernel
theorem dX9_tries_84 : decode cX9_tries 84 = .ok (.aload_n 0, 1) := by decide +kernel
theorem dX9_tries_85 : decode cX9_tries 85 = .ok (.aload_n 0, 1) := by decide +kernel
theorem dX9_tries_86 : decode cX9_tries 86 = .ok (.lload 5, 2) := by decide +kernel
theorem dX9_tries_88 : decode cX9_tries 88 = .ok (.lload_n 3, 1) := by decide +kernel
theorem dX9_tries_89 : decode cX9_tries 89 = .ok (.ladd, 1) := by decide +kernel
theorem dX9_tries_90 : decode cX9_tries 90 = .ok (.invokevirtual 207, 3) := by decide +kernel
theorem dX9_tries_93 : decode cX9_tries 93 = .ok (.putfield 211, 3) := by decide +kernel
theorem dX9_tries_96 : decode cX9_tries 96 = .ok (.lload_n 1, 1) := by decide +kernel
theorem dX9_tries_97 : decode cX9_tries 97 = .ok (.lstore 7, 2) := by decide +kernel
theorem dX9_tries_99 : decode cX9_tries 99 = .ok (.iconst 0, 1) := by decide +kernel
theorem dX9_tries_100 : decode cX9_tries 100 = .ok (.istore 9, 2) := by decide +kernel
theorem dX9_tries_102 : decode cX9_tries 102 = .ok (.iload 9, 2) := by decide +kernel
theorem dX9_tries_104 : decode cX9_tries 104 = .ok (.aload_n 0, 1) := by decide +kernel
theorem dX9_tries_105 : decode cX9_tries 105 = .ok (.getfield 160, 3) := by decide +kernel
theorem dX9_tries_108 : decode cX9_tries 108 = .ok (.if_icmp .ge 79, 3) := by decide +kernel
theorem dX9_tries_111 : decode cX9_tries 111 = .ok (.aload_n 0, 1) := by decide +kernel
theorem dX9_tries_112 : decode cX9_tries 112 = .ok (.iload 9, 2) := by decide +kernel
theorem dX9_tries_114 : decode cX9_tries 114 = .ok (.lload 7, 2) := by decide +kernel
theorem dX9_tries_116 : decode cX9_tries 116 = .ok (.aload_n 0, 1) := by decide +kernel
theorem dX9_tries_117 : decode cX9_tries 117 = .ok (.getfield 36, 3) := by decide +kernel
theorem dX9_tries_120 : decode cX9_tries 120 = .ok (.aload_n 0, 1) := by decide +kernel
theorem dX9_tries_121 : decode cX9_tries 121 = .ok (.getfield 211, 3) := by decide +kernel
theorem dX9_tries_124 : decode cX9_tries 124 = .ok (.laload, 1) := by decide +kernel
theorem dX9_tries_125 : decode cX9_tries 125 = .ok (.lload_n 1, 1) := by decide +kernel
theorem dX9_tries_126 : decode cX9_tries 126 = .ok (.invokevirtual 214, 3) := by decide +kernel
theorem dX9_tries_129 : decode cX9_tries 129 = .ok (.aload_n 0, 1) := by decide +kernel
theorem dX9_tries_130 : decode cX9_tries 130 = .ok (.getfield 51, 3) := by decide +kernel
theorem dX9_tries_133 : decode cX9_tries 133 = .ok (.bipush 6, 2) := by decide +kernel
theorem dX9_tries_135 : decode cX9_tries 135 = .ok (.iload 9, 2) := by decide +kernel
theorem dX9_tries_137 : decode cX9_tries 137 = .ok (.imul, 1) := by decide +kernel
theorem dX9_tries_138 : decode cX9_tries 138 = .ok (.laload, 1) := by decide +kernel
theorem dX9_tries_139 : decode cX9_tries 139 = .ok (.lstore 7, 2) := by decide +kernel
theorem dX9_tries_141 : decode cX9_tries 141 = .ok (.lload 7, 2) := by decide +kernel
theorem dX9_tries_143 : decode cX9_tries 143 = .ok (.ldc2_w 218, 3) := by decide +kernel
theorem dX9_tries_146 : decode cX9_tries 146 = .ok (.ldc2_w 220, 3) := by decide +kernel
theorem dX9_tries_149 : decode cX9_tries 149 = .ok (.invokestatic 98, 3) := by decide +kernel
theorem dX9_tries_152 : decode cX9_tries 152 = .ok (.ifCond .eq 27, 3) := by decide +kernel
theorem dX9_tries_155 : decode cX9_tries 155 = .ok (.aload_n 0, 1) := by decide +kernel
theorem dX9_tries_156 : decode cX9_tries 156 = .ok (.getfield 51, 3) := by decide +kernel
theorem dX9_tries_159 : decode cX9_tries 159 = .ok (.bipush 6, 2) := by decide +kernel
theorem dX9_tries_161 : decode cX9_tries 161 = .ok (.iload 9, 2) := by decide +kernel
theorem dX9_tries_163 : decode cX9_tries 163 = .ok (.imul, 1) := by decide +kernel
theorem dX9_tries_164 : decode cX9_tries 164 = .ok (.iconst 1, 1) := by decide +kernel
theorem dX9_tries_165 : decode cX9_tries 165 = .ok (.iadd, 1) := by decide +kernel
theorem dX9_tries_166 : decode cX9_tries 166 = .ok (.laload, 1) := by decide +kernel
theorem dX9_tries_167 : decode cX9_tries 167 = .ok (.ldc2_w 218, 3) := by decide +kernel
theorem dX9_tries_170 : decode cX9_tries 170 = .ok (.ldc2_w 220, 3) := by decide +kernel
theorem dX9_tries_173 : decode cX9_tries 173 = .ok (.invokestatic 98, 3) := by decide +kernel
theorem dX9_tries_176 : decode cX9_tries 176 = .ok (.ifCond .ne 5, 3) := by decide +kernel
theorem dX9_tries_179 : decode cX9_tries 179 = .ok (.iconst 0, 1) := by decide +kernel
theorem dX9_tries_180 : decode cX9_tries 180 = .ok (.ireturn, 1) := by decide +kernel
theorem dX9_tries_181 : decode cX9_tries 181 = .ok (.iinc 9 1, 3) := by decide +kernel
theorem dX9_tries_184 : decode cX9_tries 184 = .ok (.goto (-82), 3) := by decide +kernel
theorem dX9_tries_187 : decode cX9_tries 187 = .ok (.iconst 1, 1) := by decide +kernel
theorem dX9_tries_188 : decode cX9_tries 188 = .ok (.ireturn, 1) := by decide +kernel
theorem dX9_does_0 : decode cX9_does 0 = .ok (.aload_n 0, 1) := by decide +kernel
theorem dX9_does_1 : decode cX9_does 1 = .ok (.getfield 129, 3) := by decide +kernel
theorem dX9_does_4 : decode cX9_does 4 = .ok (.sipush 300, 3) := by decide +kernel
theorem dX9_does_7 : decode cX9_does 7 = .ok (.if_icmp .ne 6, 3) := by decide +kernel
theorem dX9_does_10 : decode cX9_does 10 = .ok (.bipush (-4), 2) := by decide +kernel
theorem dX9_does_12 : decode cX9_does 12 = .ok (.ireturn, 1) := by decide +kernel
theorem dX9_does_13 : decode cX9_does 13 = .ok (.aload_n 0, 1) := by decide +kernel
theorem dX9_does_14 : decode cX9_does 14 = .ok (.invokevirtual 222, 3) := by decide +kernel
theorem dX9_does_17 : decode cX9_does 17 = .ok (.aload_n 0, 1) := by decide +kernel
theorem dX9_does_18 : decode cX9_does 18 = .ok (.lload_n 1, 1) := by decide +kernel
theorem dX9_does_19 : decode cX9_does 19 = .ok (.invokevirtual 225, 3) := by decide +kernel
theorem dX9_does_22 : decode cX9_does 22 = .ok (.ifCond .ne 6, 3) := by decide +kernel
theorem dX9_does_25 : decode cX9_does 25 = .ok (.bipush (-6), 2) := by decide +kernel
theorem dX9_does_27 : decode cX9_does 27 = .ok (.ireturn, 1) := by decide +kernel
theorem dX9_does_28 : decode cX9_does 28 = .ok (.aload_n 0, 1) := by decide +kernel
theorem dX9_does_29 : decode cX9_does 29 = .ok (.invokevirtual 228, 3) := by decide +kernel
theorem dX9_does_32 : decode cX9_does 32 = .ok (.aload_n 0, 1) := by decide +kernel
theorem dX9_does_33 : decode cX9_does 33 = .ok (.getfield 42, 3) := by decide +kernel
theorem dX9_does_36 : decode cX9_does 36 = .ok (.aload_n 0, 1) := by decide +kernel
theorem dX9_does_37 : decode cX9_does 37 = .ok (.getfield 129, 3) := by decide +kernel
theorem dX9_does_40 : decode cX9_does 40 = .ok (.lload_n 1, 1) := by decide +kernel
theorem dX9_does_41 : decode cX9_does 41 = .ok (.lastore, 1) := by decide +kernel
theorem dX9_does_42 : decode cX9_does 42 = .ok (.aload_n 0, 1) := by decide +kernel
theorem dX9_does_43 : decode cX9_does 43 = .ok (.getfield 45, 3) := by decide +kernel
theorem dX9_does_46 : decode cX9_does 46 = .ok (.bipush 7, 2) := by decide +kernel
theorem dX9_does_48 : decode cX9_does 48 = .ok (.aload_n 0, 1) := by decide +kernel
theorem dX9_does_49 : decode cX9_does 49 = .ok (.getfield 129, 3) := by decide +kernel
theorem dX9_does_52 : decode cX9_does 52 = .ok (.imul, 1) := by decide +kernel
theorem dX9_does_53 : decode cX9_does 53 = .ok (.lload_n 1, 1) := by decide +kernel
theorem dX9_does_54 : decode cX9_does 54 = .ok (.lastore, 1) := by decide +kernel
theorem dX9_does_55 : decode cX9_does 55 = .ok (.aload_n 0, 1) := by decide +kernel
theorem dX9_does_56 : decode cX9_does 56 = .ok (.getfield 45, 3) := by decide +kernel
theorem dX9_does_59 : decode cX9_does 59 = .ok (.bipush 7, 2) := by decide +kernel
theorem dX9_does_61 : decode cX9_does 61 = .ok (.aload_n 0, 1) := by decide +kernel
theorem dX9_does_62 : decode cX9_does 62 = .ok (.getfield 129, 3) := by decide +kernel
theorem dX9_does_65 : decode cX9_does 65 = .ok (.imul, 1) := by decide +kernel
theorem dX9_does_66 : decode cX9_does 66 = .ok (.iconst 1, 1) := by decide +kernel
theorem dX9_does_67 : decode cX9_does 67 = .ok (.iadd, 1) := by decide +kernel
theorem dX9_does_68 : decode cX9_does 68 = .ok (.aload_n 0, 1) := by decide +kernel
theorem dX9_does_69 : decode cX9_does 69 = .ok (.getfield 36, 3) := by decide +kernel
theorem dX9_does_72 : decode cX9_does 72 = .ok (.aload_n 0, 1) := by decide +kernel
theorem dX9_does_73 : decode cX9_does 73 = .ok (.getfield 211, 3) := by decide +kernel
theorem dX9_does_76 : decode cX9_does 76 = .ok (.laload, 1) := by decide +kernel
theorem dX9_does_77 : decode cX9_does 77 = .ok (.lastore, 1) := by decide +kernel
theorem dX9_does_78 : decode cX9_does 78 = .ok (.iconst 0, 1) := by decide +kernel
theorem dX9_does_79 : decode cX9_does 79 = .ok (.istore_n 3, 1) := by decide +kernel
theorem dX9_does_80 : decode cX9_does 80 = .ok (.iload_n 3, 1) := by decide +kernel
theorem dX9_does_81 : decode cX9_does 81 = .ok (.iconst 5, 1) := by decide +kernel
theorem dX9_does_82 : decode cX9_does 82 = .ok (.if_icmp .ge 46, 3) := by decide +kernel
theorem dX9_does_85 : decode cX9_does 85 = .ok (.aload_n 0, 1) := by decide +kernel
theorem dX9_does_86 : decode cX9_does 86 = .ok (.getfield 45, 3) := by decide +kernel
theorem dX9_does_89 : decode cX9_does 89 = .ok (.bipush 7, 2) := by decide +kernel
theorem dX9_does_91 : decode cX9_does 91 = .ok (.aload_n 0, 1) := by decide +kernel
theorem dX9_does_92 : decode cX9_does 92 = .ok (.getfield 129, 3) := by decide +kernel
theorem dX9_does_95 : decode cX9_does 95 = .ok (.imul, 1) := by decide +kernel
theorem dX9_does_96 : decode cX9_does 96 = .ok (.iconst 2, 1) := by decide +kernel
theorem dX9_does_97 : decode cX9_does 97 = .ok (.iadd, 1) := by decide +kernel
theorem dX9_does_98 : decode cX9_does 98 = .ok (.iload_n 3, 1) := by decide +kernel
theorem dX9_does_99 : decode cX9_does 99 = .ok (.iadd, 1) := by decide +kernel
theorem dX9_does_100 : decode cX9_does 100 = .ok (.iload_n 3, 1) := by decide +kernel
theorem dX9_does_101 : decode cX9_does 101 = .ok (.aload_n 0, 1) := by decide +kernel
theorem dX9_does_102 : decode cX9_does 102 = .ok (.getfield 160, 3) := by decide +kernel
theorem dX9_does_105 : decode cX9_does 105 = .ok (.if_icmp .ge 15, 3) := by decide +kernel
theorem dX9_does_108 : decode cX9_does 108 = .ok (.aload_n 0, 1) := by decide +kernel
theorem dX9_does_109 : decode cX9_does 109 = .ok (.getfield 39, 3) := by decide +kernel
theorem dX9_does_112 : decode cX9_does 112 = .ok (.bipush 6, 2) := by decide +kernel
theorem dX9_does_114 : decode cX9_does 114 = .ok (.iload_n 3, 1) := by decide +kernel
theorem dX9_does_115 : decode cX9_does 115 = .ok (.imul, 1) := by decide +kernel
theorem dX9_does_116 : decode cX9_does 116 = .ok (.laload, 1) := by decide +kernel
theorem dX9_does_117 : decode cX9_does 117 = .ok (.goto 4, 3) := by decide +kernel
theorem dX9_does_120 : decode cX9_does 120 = .ok (.lconst 0, 1) := by decide +kernel
theorem dX9_does_121 : decode cX9_does 121 = .ok (.lastore, 1) := by decide +kernel
theorem dX9_does_122 : decode cX9_does 122 = .ok (.iinc 3 1, 3) := by decide +kernel
theorem dX9_does_125 : decode cX9_does 125 = .ok (.goto (-45), 3) := by decide +kernel
theorem dX9_does_128 : decode cX9_does 128 = .ok (.aload_n 0, 1) := by decide +kernel
theorem dX9_does_129 : decode cX9_does 129 = .ok (.aload_n 0, 1) := by decide +kernel
theorem dX9_does_130 : decode cX9_does 130 = .ok (.getfield 186, 3) := by decide +kernel
theorem dX9_does_133 : decode cX9_does 133 = .ok (.putfield 231, 3) := by decide +kernel
theorem dX9_does_136 : decode cX9_does 136 = .ok (.iconst 0, 1) := by decide +kernel
theorem dX9_does_137 : decode cX9_does 137 = .ok (.istore_n 3, 1) := by decide +kernel
theorem dX9_does_138 : decode cX9_does 138 = .ok (.iload_n 3, 1) := by decide +kernel
theorem dX9_does_139 : decode cX9_does 139 = .ok (.aload_n 0, 1) := by decide +kernel
theorem dX9_does_140 : decode cX9_does 140 = .ok (.getfield 231, 3) := by decide +kernel
theorem dX9_does_143 : decode cX9_does 143 = .ok (.if_icmp .ge 21, 3) := by decide +kernel
theorem dX9_does_146 : decode cX9_does 146 = .ok (.aload_n 0, 1) := by decide +kernel
theorem dX9_does_147 : decode cX9_does 147 = .ok (.getfield 48, 3) := by decide +kernel
theorem dX9_does_150 : decode cX9_does 150 = .ok (.iload_n 3, 1) := by decide +kernel
theorem dX9_does_151 : decode cX9_does 151 = .ok (.aload_n 0, 1) := by decide +kernel
theorem dX9_does_152 : decode cX9_does 152 = .ok (.getfield 54, 3) := by decide +kernel
theorem dX9_does_155 : decode cX9_does 155 = .ok (.iload_n 3, 1) := by decide +kernel
theorem dX9_does_156 : decode cX9_does 156 = .ok (.iaload, 1) := by decide +kernel
theorem dX9_does_157 : decode cX9_does 157 = .ok (.iastore, 1) := by decide +kernel
theorem dX9_does_158 : decode cX9_does 158 = .ok (.iinc 3 1, 3) := by decide +kernel
theorem dX9_does_161 : decode cX9_does 161 = .ok (.goto (-23), 3) := by decide +kernel
theorem dX9_does_164 : decode cX9_does 164 = .ok (.aload_n 0, 1) := by decide +kernel
theorem dX9_does_165 : decode cX9_does 165 = .ok (.dup, 1) := by decide +kernel
theorem dX9_does_166 : decode cX9_does 166 = .ok (.getfield 129, 3) := by decide +kernel
theorem dX9_does_169 : decode cX9_does 169 = .ok (.iconst 1, 1) := by decide +kernel
theorem dX9_does_170 : decode cX9_does 170 = .ok (.iadd, 1) := by decide +kernel
theorem dX9_does_171 : decode cX9_does 171 = .ok (.putfield 129, 3) := by decide +kernel
theorem dX9_does_174 : decode cX9_does 174 = .ok (.aload_n 0, 1) := by decide +kernel
theorem dX9_does_175 : decode cX9_does 175 = .ok (.getfield 211, 3) := by decide +kernel
theorem dX9_does_178 : decode cX9_does 178 = .ok (.ireturn, 1) := by decide +kernel
theorem dX9_step_0 : decode cX9_step 0 = .ok (.lload_n 1, 1) := by decide +kernel
theorem dX9_step_1 : decode cX9_step 1 = .ok (.invokestatic 167, 3) := by decide +kernel
theorem dX9_step_4 : decode cX9_step 4 = .ok (.ifCond .eq 11, 3) := by decide +kernel
theorem dX9_step_7 : decode cX9_step 7 = .ok (.aload_n 0, 1) := by decide +kernel
theorem dX9_step_8 : decode cX9_step 8 = .ok (.lload_n 1, 1) := by decide +kernel
theorem dX9_step_9 : decode cX9_step 9 = .ok (.invokevirtual 234, 3) := by decide +kernel
theorem dX9_step_12 : decode cX9_step 12 = .ok (.goto 5, 3) := by decide +kernel
theorem dX9_step_15 : decode cX9_step 15 = .ok (.bipush (-2), 2) := by decide +kernel
theorem dX9_step_17 : decode cX9_step 17 = .ok (.ireturn, 1) := by decide +kernel
theorem dX9_run_0 : decode cX9_run 0 = .ok (.iload_n 1, 1) := by decide +kernel
theorem dX9_run_1 : decode cX9_run 1 = .ok (.invokestatic 102, 3) := by decide +kernel
theorem dX9_run_4 : decode cX9_run 4 = .ok (.ifCond .eq 15, 3) := by decide +kernel
theorem dX9_run_7 : decode cX9_run 7 = .ok (.iload_n 3, 1) := by decide +kernel
theorem dX9_run_8 : decode cX9_run 8 = .ok (.i2l, 1) := by decide +kernel
theorem dX9_run_9 : decode cX9_run 9 = .ok (.lconst 1, 1) := by decide +kernel
theorem dX9_run_10 : decode cX9_run 10 = .ok (.ldc2_w 237, 3) := by decide +kernel
theorem dX9_run_13 : decode cX9_run 13 = .ok (.invokestatic 98, 3) := by decide +kernel
theorem dX9_run_16 : decode cX9_run 16 = .ok (.ifCond .ne 6, 3) := by decide +kernel
theorem dX9_run_19 : decode cX9_run 19 = .ok (.bipush (-2), 2) := by decide +kernel
theorem dX9_run_21 : decode cX9_run 21 = .ok (.ireturn, 1) := by decide +kernel
theorem dX9_run_22 : decode cX9_run 22 = .ok (.iconst 0, 1) := by decide +kernel
theorem dX9_run_23 : decode cX9_run 23 = .ok (.istore 4, 2) := by decide +kernel
theorem dX9_run_25 : decode cX9_run 25 = .ok (.iload 4, 2) := by decide +kernel
theorem dX9_run_27 : decode cX9_run 27 = .ok (.iload_n 3, 1) := by decide +kernel
theorem dX9_run_28 : decode cX9_run 28 = .ok (.if_icmp .ge 71, 3) := by decide +kernel
theorem dX9_run_31 : decode cX9_run 31 = .ok (.aload_n 0, 1) := by decide +kernel
theorem dX9_run_32 : decode cX9_run 32 = .ok (.iload_n 1, 1) := by decide +kernel
theorem dX9_run_33 : decode cX9_run 33 = .ok (.aload_n 0, 1) := by decide +kernel
theorem dX9_run_34 : decode cX9_run 34 = .ok (.getfield 13, 3) := by decide +kernel
theorem dX9_run_37 : decode cX9_run 37 = .ok (.iload_n 1, 1) := by decide +kernel
theorem dX9_run_38 : decode cX9_run 38 = .ok (.iaload, 1) := by decide +kernel
theorem dX9_run_39 : decode cX9_run 39 = .ok (.iload_n 2, 1) := by decide +kernel
theorem dX9_run_40 : decode cX9_run 40 = .ok (.iload 4, 2) := by decide +kernel
theorem dX9_run_42 : decode cX9_run 42 = .ok (.iadd, 1) := by decide +kernel
theorem dX9_run_43 : decode cX9_run 43 = .ok (.invokevirtual 120, 3) := by decide +kernel
theorem dX9_run_46 : decode cX9_run 46 = .ok (.istore 5, 2) := by decide +kernel
theorem dX9_run_48 : decode cX9_run 48 = .ok (.iload 5, 2) := by decide +kernel
theorem dX9_run_50 : decode cX9_run 50 = .ok (.ifCond .le 10, 3) := by decide +kernel
theorem dX9_run_53 : decode cX9_run 53 = .ok (.aload_n 0, 1) := by decide +kernel
theorem dX9_run_54 : decode cX9_run 54 = .ok (.iload 5, 2) := by decide +kernel
theorem dX9_run_56 : decode cX9_run 56 = .ok (.invokevirtual 106, 3) := by decide +kernel
theorem dX9_run_59 : decode cX9_run 59 = .ok (.ireturn, 1) := by decide +kernel
theorem dX9_run_60 : decode cX9_run 60 = .ok (.aload_n 0, 1) := by decide +kernel
theorem dX9_run_61 : decode cX9_run 61 = .ok (.aload_n 0, 1) := by decide +kernel
theorem dX9_run_62 : decode cX9_run 62 = .ok (.bipush 60, 2) := by decide +kernel
theorem dX9_run_64 : decode cX9_run 64 = .ok (.iload_n 1, 1) := by decide +kernel
theorem dX9_run_65 : decode cX9_run 65 = .ok (.imul, 1) := by decide +kernel
theorem dX9_run_66 : decode cX9_run 66 = .ok (.iload_n 2, 1) := by decide +kernel
theorem dX9_run_67 : decode cX9_run 67 = .ok (.iadd, 1) := by decide +kernel
theorem dX9_run_68 : decode cX9_run 68 = .ok (.iload 4, 2) := by decide +kernel
theorem dX9_run_70 : decode cX9_run 70 = .ok (.iadd, 1) := by decide +kernel
theorem dX9_run_71 : decode cX9_run 71 = .ok (.aload_n 0, 1) := by decide +kernel
theorem dX9_run_72 : decode cX9_run 72 = .ok (.getfield 13, 3) := by decide +kernel
theorem dX9_run_75 : decode cX9_run 75 = .ok (.iload_n 1, 1) := by decide +kernel
theorem dX9_run_76 : decode cX9_run 76 = .ok (.iaload, 1) := by decide +kernel
theorem dX9_run_77 : decode cX9_run 77 = .ok (.invokevirtual 148, 3) := by decide +kernel
theorem dX9_run_80 : decode cX9_run 80 = .ok (.invokevirtual 234, 3) := by decide +kernel
theorem dX9_run_83 : decode cX9_run 83 = .ok (.istore 6, 2) := by decide +kernel
theorem dX9_run_85 : decode cX9_run 85 = .ok (.iload 6, 2) := by decide +kernel
theorem dX9_run_87 : decode cX9_run 87 = .ok (.ifCond .ge 6, 3) := by decide +kernel
theorem dX9_run_90 : decode cX9_run 90 = .ok (.iload 6, 2) := by decide +kernel
theorem dX9_run_92 : decode cX9_run 92 = .ok (.ireturn, 1) := by decide +kernel
theorem dX9_run_93 : decode cX9_run 93 = .ok (.iinc 4 1, 3) := by decide +kernel
theorem dX9_run_96 : decode cX9_run 96 = .ok (.goto (-71), 3) := by decide +kernel
theorem dX9_run_99 : decode cX9_run 99 = .ok (.aload_n 0, 1) := by decide +kernel
theorem dX9_run_100 : decode cX9_run 100 = .ok (.getfield 129, 3) := by decide +kernel
theorem dX9_run_103 : decode cX9_run 103 = .ok (.ireturn, 1) := by decide +kernel
theorem dX9_undo_0 : decode cX9_undo 0 = .ok (.iload_n 1, 1) := by decide +kernel
theorem dX9_undo_1 : decode cX9_undo 1 = .ok (.i2l, 1) := by decide +kernel
theorem dX9_undo_2 : decode cX9_undo 2 = .ok (.lconst 0, 1) := by decide +kernel
theorem dX9_undo_3 : decode cX9_undo 3 = .ok (.aload_n 0, 1) := by decide +kernel
theorem dX9_undo_4 : decode cX9_undo 4 = .ok (.getfield 129, 3) := by decide +kernel
theorem dX9_undo_7 : decode cX9_undo 7 = .ok (.i2l, 1) := by decide +kernel
theorem dX9_undo_8 : decode cX9_undo 8 = .ok (.invokestatic 98, 3) := by decide +kernel
theorem dX9_undo_11 : decode cX9_undo 11 = .ok (.ifCond .ne 6, 3) := by decide +kernel
theorem dX9_undo_14 : decode cX9_undo 14 = .ok (.bipush (-2), 2) := by decide +kernel
theorem dX9_undo_16 : decode cX9_undo 16 = .ok (.ireturn, 1) := by decide +kernel
theorem dX9_undo_17 : decode cX9_undo 17 = .ok (.aload_n 0, 1) := by decide +kernel
theorem dX9_undo_18 : decode cX9_undo 18 = .ok (.dup, 1) := by decide +kernel
theorem dX9_undo_19 : decode cX9_undo 19 = .ok (.getfield 129, 3) := by decide +kernel
theorem dX9_undo_22 : decode cX9_undo 22 = .ok (.iload_n 1, 1) := by decide +kernel
theorem dX9_undo_23 : decode cX9_undo 23 = .ok (.isub, 1) := by decide +kernel
theorem dX9_undo_24 : decode cX9_undo 24 = .ok (.putfield 129, 3) := by decide +kernel
theorem dX9_undo_27 : decode cX9_undo 27 = .ok (.aload_n 0, 1) := by decide +kernel
theorem dX9_undo_28 : decode cX9_undo 28 = .ok (.invokevirtual 239, 3) := by decide +kernel
theorem dX9_undo_31 : decode cX9_undo 31 = .ok (.iconst 0, 1) := by decide +kernel
theorem dX9_undo_32 : decode cX9_undo 32 = .ok (.istore_n 2, 1) := by decide +kernel
theorem dX9_undo_33 : decode cX9_undo 33 = .ok (.iload_n 2, 1) := by decide +kernel
theorem dX9_undo_34 : decode cX9_undo 34 = .ok (.aload_n 0, 1) := by decide +kernel
theorem dX9_undo_35 : decode cX9_undo 35 = .ok (.getfield 129, 3) := by decide +kernel
theorem dX9_undo_38 : decode cX9_undo 38 = .ok (.if_icmp .ge 20, 3) := by decide +kernel
theorem dX9_undo_41 : decode cX9_undo 41 = .ok (.aload_n 0, 1) := by decide +kernel
theorem dX9_undo_42 : decode cX9_undo 42 = .ok (.aload_n 0, 1) := by decide +kernel
theorem dX9_undo_43 : decode cX9_undo 43 = .ok (.getfield 42, 3) := by decide +kernel
theorem dX9_undo_46 : decode cX9_undo 46 = .ok (.iload_n 2, 1) := by decide +kernel
theorem dX9_undo_47 : decode cX9_undo 47 = .ok (.laload, 1) := by decide +kernel
theorem dX9_undo_48 : decode cX9_undo 48 = .ok (.invokevirtual 225, 3) := by decide +kernel
theorem dX9_undo_51 : decode cX9_undo 51 = .ok (.istore_n 3, 1) := by decide +kernel
theorem dX9_undo_52 : decode cX9_undo 52 = .ok (.iinc 2 1, 3) := by decide +kernel
theorem dX9_undo_55 : decode cX9_undo 55 = .ok (.goto (-22), 3) := by decide +kernel
theorem dX9_undo_58 : decode cX9_undo 58 = .ok (.aload_n 0, 1) := by decide +kernel
theorem dX9_undo_59 : decode cX9_undo 59 = .ok (.invokevirtual 228, 3) := by decide +kernel
theorem dX9_undo_62 : decode cX9_undo 62 = .ok (.aload_n 0, 1) := by decide +kernel
theorem dX9_undo_63 : decode cX9_undo 63 = .ok (.getfield 129, 3) := by decide +kernel
theorem dX9_undo_66 : decode cX9_undo 66 = .ok (.ireturn, 1) := by decide +kernel
theorem dX9_clear_0 : decode cX9_clear 0 = .ok (.aload_n 0, 1) := by decide +kernel
theorem dX9_clear_1 : decode cX9_clear 1 = .ok (.getfield 129, 3) := by decide +kernel
theorem dX9_clear_4 : decode cX9_clear 4 = .ok (.istore_n 1, 1) := by decide +kernel
theorem dX9_clear_5 : decode cX9_clear 5 = .ok (.aload_n 0, 1) := by decide +kernel
theorem dX9_clear_6 : decode cX9_clear 6 = .ok (.iconst 0, 1) := by decide +kernel
theorem dX9_clear_7 : decode cX9_clear 7 = .ok (.putfield 129, 3) := by decide +kernel
theorem dX9_clear_10 : decode cX9_clear 10 = .ok (.aload_n 0, 1) := by decide +kernel
theorem dX9_clear_11 : decode cX9_clear 11 = .ok (.iconst 0, 1) := by decide +kernel
theorem dX9_clear_12 : decode cX9_clear 12 = .ok (.putfield 160, 3) := by decide +kernel
theorem dX9_clear_15 : decode cX9_clear 15 = .ok (.aload_n 0, 1) := by decide +kernel
theorem dX9_clear_16 : decode cX9_clear 16 = .ok (.invokevirtual 239, 3) := by decide +kernel
theorem dX9_clear_19 : decode cX9_clear 19 = .ok (.aload_n 0, 1) := by decide +kernel
theorem dX9_clear_20 : decode cX9_clear 20 = .ok (.invokevirtual 228, 3) := by decide +kernel
theorem dX9_clear_23 : decode cX9_clear 23 = .ok (.iload_n 1, 1) := by decide +kernel
theorem dX9_clear_24 : decode cX9_clear 24 = .ok (.ireturn, 1) := by decide +kernel
theorem dX9_stageAt_0 : decode cX9_stageAt 0 = .ok (.iload_n 1, 1) := by decide +kernel
theorem dX9_stageAt_1 : decode cX9_stageAt 1 = .ok (.i2l, 1) := by decide +kernel
theorem dX9_stageAt_2 : decode cX9_stageAt 2 = .ok (.lconst 0, 1) := by decide +kernel
theorem dX9_stageAt_3 : decode cX9_stageAt 3 = .ok (.aload_n 0, 1) := by decide +kernel
theorem dX9_stageAt_4 : decode cX9_stageAt 4 = .ok (.getfield 160, 3) := by decide +kernel
theorem dX9_stageAt_7 : decode cX9_stageAt 7 = .ok (.iconst 1, 1) := by decide +kernel
theorem dX9_stageAt_8 : decode cX9_stageAt 8 = .ok (.isub, 1) := by decide +kernel
theorem dX9_stageAt_9 : decode cX9_stageAt 9 = .ok (.i2l, 1) := by decide +kernel
theorem dX9_stageAt_10 : decode cX9_stageAt 10 = .ok (.invokestatic 98, 3) := by decide +kernel
theorem dX9_stageAt_13 : decode cX9_stageAt 13 = .ok (.ifCond .eq 15, 3) := by decide +kernel
theorem dX9_stageAt_16 : decode cX9_stageAt 16 = .ok (.iload_n 2, 1) := by decide +kernel
theorem dX9_stageAt_17 : decode cX9_stageAt 17 = .ok (.i2l, 1) := by decide +kernel
theorem dX9_stageAt_18 : decode cX9_stageAt 18 = .ok (.lconst 0, 1) := by decide +kernel
theorem dX9_stageAt_19 : decode cX9_stageAt 19 = .ok (.ldc2_w 242, 3) := by decide +kernel
theorem dX9_stageAt_22 : decode cX9_stageAt 22 = .ok (.invokestatic 98, 3) := by decide +kernel
theorem dX9_stageAt_25 : decode cX9_stageAt 25 = .ok (.ifCond .ne 7, 3) := by decide +kernel
theorem dX9_stageAt_28 : decode cX9_stageAt 28 = .ok (.ldc2_w 244, 3) := by decide +kernel
theorem dX9_stageAt_31 : decode cX9_stageAt 31 = .ok (.lreturn, 1) := by decide +kernel
theorem dX9_stageAt_32 : decode cX9_stageAt 32 = .ok (.iload_n 2, 1) := by decide +kernel
theorem dX9_stageAt_33 : decode cX9_stageAt 33 = .ok (.bipush 6, 2) := by decide +kernel
theorem dX9_stageAt_35 : decode cX9_stageAt 35 = .ok (.if_icmp .ne 13, 3) := by decide +kernel
theorem dX9_stageAt_38 : decode cX9_stageAt 38 = .ok (.aload_n 0, 1) := by decide +kernel
theorem dX9_stageAt_39 : decode cX9_stageAt 39 = .ok (.getfield 27, 3) := by decide +kernel
theorem dX9_stageAt_42 : decode cX9_stageAt 42 = .ok (.iload_n 1, 1) := by decide +kernel
theorem dX9_stageAt_43 : decode cX9_stageAt 43 = .ok (.iaload, 1) := by decide +kernel
theorem dX9_stageAt_44 : decode cX9_stageAt 44 = .ok (.i2l, 1) := by decide +kernel
theorem dX9_stageAt_45 : decode cX9_stageAt 45 = .ok (.goto 14, 3) := by decide +kernel
theorem dX9_stageAt_48 : decode cX9_stageAt 48 = .ok (.aload_n 0, 1) := by decide +kernel
theorem dX9_stageAt_49 : decode cX9_stageAt 49 = .ok (.getfield 39, 3) := by decide +kernel
theorem dX9_stageAt_52 : decode cX9_stageAt 52 = .ok (.bipush 6, 2) := by decide +kernel
theorem dX9_stageAt_54 : decode cX9_stageAt 54 = .ok (.iload_n 1, 1) := by decide +kernel
theorem dX9_stageAt_55 : decode cX9_stageAt 55 = .ok (.imul, 1) := by decide +kernel
theorem dX9_stageAt_56 : decode cX9_stageAt 56 = .ok (.iload_n 2, 1) := by decide +kernel
theorem dX9_stageAt_57 : decode cX9_stageAt 57 = .ok (.iadd, 1) := by decide +kernel
theorem dX9_stageAt_58 : decode cX9_stageAt 58 = .ok (.laload, 1) := by decide +kernel
theorem dX9_stageAt_59 : decode cX9_stageAt 59 = .ok (.lreturn, 1) := by decide +kernel
theorem dX9_levelAt_0 : decode cX9_levelAt 0 = .ok (.iload_n 1, 1) := by decide +kernel
theorem dX9_levelAt_1 : decode cX9_levelAt 1 = .ok (.i2l, 1) := by decide +kernel
theorem dX9_levelAt_2 : decode cX9_levelAt 2 = .ok (.lconst 0, 1) := by decide +kernel
theorem dX9_levelAt_3 : decode cX9_levelAt 3 = .ok (.aload_n 0, 1) := by decide +kernel
theorem dX9_levelAt_4 : decode cX9_levelAt 4 = .ok (.getfield 87, 3) := by decide +kernel
theorem dX9_levelAt_7 : decode cX9_levelAt 7 = .ok (.iconst 1, 1) := by decide +kernel
theorem dX9_levelAt_8 : decode cX9_levelAt 8 = .ok (.isub, 1) := by decide +kernel
theorem dX9_levelAt_9 : decode cX9_levelAt 9 = .ok (.i2l, 1) := by decide +kernel
theorem dX9_levelAt_10 : decode cX9_levelAt 10 = .ok (.invokestatic 98, 3) := by decide +kernel
theorem dX9_levelAt_13 : decode cX9_levelAt 13 = .ok (.ifCond .eq 12, 3) := by decide +kernel
theorem dX9_levelAt_16 : decode cX9_levelAt 16 = .ok (.aload_n 0, 1) := by decide +kernel
theorem dX9_levelAt_17 : decode cX9_levelAt 17 = .ok (.getfield 36, 3) := by decide +kernel
theorem dX9_levelAt_20 : decode cX9_levelAt 20 = .ok (.iload_n 1, 1) := by decide +kernel
theorem dX9_levelAt_21 : decode cX9_levelAt 21 = .ok (.laload, 1) := by decide +kernel
theorem dX9_levelAt_22 : decode cX9_levelAt 22 = .ok (.goto 6, 3) := by decide +kernel
theorem dX9_levelAt_25 : decode cX9_levelAt 25 = .ok (.ldc2_w 244, 3) := by decide +kernel
theorem dX9_levelAt_28 : decode cX9_levelAt 28 = .ok (.lreturn, 1) := by decide +kernel
theorem dX9_isRecord_0 : decode cX9_isRecord 0 = .ok (.iload_n 1, 1) := by decide +kernel
theorem dX9_isRecord_1 : decode cX9_isRecord 1 = .ok (.i2l, 1) := by decide +kernel
theorem dX9_isRecord_2 : decode cX9_isRecord 2 = .ok (.lconst 0, 1) := by decide +kernel
theorem dX9_isRecord_3 : decode cX9_isRecord 3 = .ok (.aload_n 0, 1) := by decide +kernel
theorem dX9_isRecord_4 : decode cX9_isRecord 4 = .ok (.getfield 129, 3) := by decide +kernel
theorem dX9_isRecord_7 : decode cX9_isRecord 7 = .ok (.iconst 1, 1) := by decide +kernel
theorem dX9_isRecord_8 : decode cX9_isRecord 8 = .ok (.isub, 1) := by decide +kernel
theorem dX9_isRecord_9 : decode cX9_isRecord 9 = .ok (.i2l, 1) := by decide +kernel
theorem dX9_isRecord_10 : decode cX9_isRecord 10 = .ok (.invokestatic 98, 3) := by decide +kernel
theorem dX9_isRecord_13 : decode cX9_isRecord 13 = .ok (.ifCond .eq 23, 3) := by decide +kernel
theorem dX9_isRecord_16 : decode cX9_isRecord 16 = .ok (.iload_n 2, 1) := by decide +kernel
theorem dX9_isRecord_17 : decode cX9_isRecord 17 = .ok (.i2l, 1) := by decide +kernel
theorem dX9_isRecord_18 : decode cX9_isRecord 18 = .ok (.lconst 0, 1) := by decide +kernel
theorem dX9_isRecord_19 : decode cX9_isRecord 19 = .ok (.iconst 1, 1) := by decide +kernel
theorem dX9_isRecord_20 : decode cX9_isRecord 20 = .ok (.aload_n 0, 1) := by decide +kernel
theorem dX9_isRecord_21 : decode cX9_isRecord 21 = .ok (.getfield 160, 3) := by decide +kernel
theorem dX9_isRecord_24 : decode cX9_isRecord 24 = .ok (.iadd, 1) := by decide +kernel
theorem dX9_isRecord_25 : decode cX9_isRecord 25 = .ok (.i2l, 1) := by decide +kernel
theorem dX9_isRecord_26 : decode cX9_isRecord 26 = .ok (.invokestatic 98, 3) := by decide +kernel
theorem dX9_isRecord_29 : decode cX9_isRecord 29 = .ok (.ifCond .eq 7, 3) := by decide +kernel
theorem dX9_isRecord_32 : decode cX9_isRecord 32 = .ok (.iconst 1, 1) := by decide +kernel
theorem dX9_isRecord_33 : decode cX9_isRecord 33 = .ok (.goto 4, 3) := by decide +kernel
theorem dX9_isRecord_36 : decode cX9_isRecord 36 = .ok (.iconst 0, 1) := by decide +kernel
theorem dX9_isRecord_37 : decode cX9_isRecord 37 = .ok (.ireturn, 1) := by decide +kernel
theorem dX9_record_0 : decode cX9_record 0 = .ok (.aload_n 0, 1) := by decide +kernel
theorem dX9_record_1 : decode cX9_record 1 = .ok (.iload_n 1, 1) := by decide +kernel
theorem dX9_record_2 : decode cX9_record 2 = .ok (.iload_n 2, 1) := by decide +kernel
theorem dX9_record_3 : decode cX9_record 3 = .ok (.invokevirtual 246, 3) := by decide +kernel
theorem dX9_record_6 : decode cX9_record 6 = .ok (.ifCond .eq 17, 3) := by decide +kernel
theorem dX9_record_9 : decode cX9_record 9 = .ok (.aload_n 0, 1) := by decide +kernel
theorem dX9_record_10 : decode cX9_record 10 = .ok (.getfield 45, 3) := by decide +kernel
theorem dX9_record_13 : decode cX9_record 13 = .ok (.bipush 7, 2) := by decide +kernel
theorem dX9_record_15 : decode cX9_record 15 = .ok (.iload_n 1, 1) := by decide +kernel
theorem dX9_record_16 : decode cX9_record 16 = .ok (.imul, 1) := by decide +kernel
theorem dX9_record_17 : decode cX9_record 17 = .ok (.iload_n 2, 1) := by decide +kernel
theorem dX9_record_18 : decode cX9_record 18 = .ok (.iadd, 1) := by decide +kernel
theorem dX9_record_19 : decode cX9_record 19 = .ok (.laload, 1) := by decide +kernel
theorem dX9_record_20 : decode cX9_record 20 = .ok (.goto 6, 3) := by decide +kernel
theorem dX9_record_23 : decode cX9_record 23 = .ok (.ldc2_w 244, 3) := by decide +kernel
theorem dX9_record_26 : decode cX9_record 26 = .ok (.lreturn, 1) := by decide +kernel
theorem dX9_forge_0 : decode cX9_forge 0 = .ok (.aload_n 0, 1) := by decide +kernel
theorem dX9_forge_1 : decode cX9_forge 1 = .ok (.iload_n 1, 1) := by decide +kernel
theorem dX9_forge_2 : decode cX9_forge 2 = .ok (.iload_n 2, 1) := by decide +kernel
theorem dX9_forge_3 : decode cX9_forge 3 = .ok (.invokevirtual 246, 3) := by decide +kernel
theorem dX9_forge_6 : decode cX9_forge 6 = .ok (.ifCond .eq 14, 3) := by decide +kernel
theorem dX9_forge_9 : decode cX9_forge 9 = .ok (.iload_n 2, 1) := by decide +kernel
theorem dX9_forge_10 : decode cX9_forge 10 = .ok (.ifCond .ne 13, 3) := by decide +kernel
theorem dX9_forge_13 : decode cX9_forge 13 = .ok (.lload_n 3, 1) := by decide +kernel
theorem dX9_forge_14 : decode cX9_forge 14 = .ok (.invokestatic 167, 3) := by decide +kernel
theorem dX9_forge_17 : decode cX9_forge 17 = .ok (.ifCond .ne 6, 3) := by decide +kernel
theorem dX9_forge_20 : decode cX9_forge 20 = .ok (.bipush (-2), 2) := by decide +kernel
theorem dX9_forge_22 : decode cX9_forge 22 = .ok (.ireturn, 1) := by decide +kernel
theorem dX9_forge_23 : decode cX9_forge 23 = .ok (.aload_n 0, 1) := by decide +kernel
theorem dX9_forge_24 : decode cX9_forge 24 = .ok (.getfield 45, 3) := by decide +kernel
theorem dX9_forge_27 : decode cX9_forge 27 = .ok (.bipush 7, 2) := by decide +kernel
theorem dX9_forge_29 : decode cX9_forge 29 = .ok (.iload_n 1, 1) := by decide +kernel
theorem dX9_forge_30 : decode cX9_forge 30 = .ok (.imul, 1) := by decide +kernel
theorem dX9_forge_31 : decode cX9_forge 31 = .ok (.iload_n 2, 1) := by decide +kernel
theorem dX9_forge_32 : decode cX9_forge 32 = .ok (.iadd, 1) := by decide +kernel
theorem dX9_forge_33 : decode cX9_forge 33 = .ok (.lload_n 3, 1) := by decide +kernel
theorem dX9_forge_34 : decode cX9_forge 34 = .ok (.lastore, 1) := by decide +kernel
theorem dX9_forge_35 : decode cX9_forge 35 = .ok (.iconst 1, 1) := by decide +kernel
theorem dX9_forge_36 : decode cX9_forge 36 = .ok (.ireturn, 1) := by decide +kernel
theorem dX9_check_0 : decode cX9_check 0 = .ok (.aload_n 0, 1) := by decide +kernel
theorem dX9_check_1 : decode cX9_check 1 = .ok (.invokevirtual 239, 3) := by decide +kernel
theorem dX9_check_4 : decode cX9_check 4 = .ok (.iconst 0, 1) := by decide +kernel
theorem dX9_check_5 : decode cX9_check 5 = .ok (.istore_n 1, 1) := by decide +kernel
theorem dX9_check_6 : decode cX9_check 6 = .ok (.iload_n 1, 1) := by decide +kernel
theorem dX9_check_7 : decode cX9_check 7 = .ok (.aload_n 0, 1) := by decide +kernel
theorem dX9_check_8 : decode cX9_check 8 = .ok (.getfield 129, 3) := by decide +kernel
theorem dX9_check_11 : decode cX9_check 11 = .ok (.if_icmp .ge 95, 3) := by decide +kernel
theorem dX9_check_14 : decode cX9_check 14 = .ok (.aload_n 0, 1) := by decide +kernel
theorem dX9_check_15 : decode cX9_check 15 = .ok (.aload_n 0, 1) := by decide +kernel
theorem dX9_check_16 : decode cX9_check 16 = .ok (.getfield 45, 3) := by decide +kernel
theorem dX9_check_19 : decode cX9_check 19 = .ok (.bipush 7, 2) := by decide +kernel
theorem dX9_check_21 : decode cX9_check 21 = .ok (.iload_n 1, 1) := by decide +kernel
theorem dX9_check_22 : decode cX9_check 22 = .ok (.imul, 1) := by decide +kernel
theorem dX9_check_23 : decode cX9_check 23 = .ok (.laload, 1) := by decide +kernel
theorem dX9_check_24 : decode cX9_check 24 = .ok (.invokevirtual 225, 3) := by decide +kernel
theorem dX9_check_27 : decode cX9_check 27 = .ok (.ifCond .eq 27, 3) := by decide +kernel
theorem dX9_check_30 : decode cX9_check 30 = .ok (.aload_n 0, 1) := by decide +kernel
theorem dX9_check_31 : decode cX9_check 31 = .ok (.getfield 36, 3) := by decide +kernel
theorem dX9_check_34 : decode cX9_check 34 = .ok (.aload_n 0, 1) := by decide +kernel
theorem dX9_check_35 : decode cX9_check 35 = .ok (.getfield 211, 3) := by decide +kernel
theorem dX9_check_38 : decode cX9_check 38 = .ok (.laload, 1) := by decide +kernel
theorem dX9_check_39 : decode cX9_check 39 = .ok (.aload_n 0, 1) := by decide +kernel
theorem dX9_check_40 : decode cX9_check 40 = .ok (.getfield 45, 3) := by decide +kernel
theorem dX9_check_43 : decode cX9_check 43 = .ok (.bipush 7, 2) := by decide +kernel
theorem dX9_check_45 : decode cX9_check 45 = .ok (.iload_n 1, 1) := by decide +kernel
theorem dX9_check_46 : decode cX9_check 46 = .ok (.imul, 1) := by decide +kernel
theorem dX9_check_47 : decode cX9_check 47 = .ok (.iconst 1, 1) := by decide +kernel
theorem dX9_check_48 : decode cX9_check 48 = .ok (.iadd, 1) := by decide +kernel
theorem dX9_check_49 : decode cX9_check 49 = .ok (.laload, 1) := by decide +kernel
theorem dX9_check_50 : decode cX9_check 50 = .ok (.lcmp, 1) := by decide +kernel
theorem dX9_check_51 : decode cX9_check 51 = .ok (.ifCond .eq 5, 3) := by decide +kernel
theorem dX9_check_54 : decode cX9_check 54 = .ok (.iload_n 1, 1) := by decide +kernel
theorem dX9_check_55 : decode cX9_check 55 = .ok (.ireturn, 1) := by decide +kernel
theorem dX9_check_56 : decode cX9_check 56 = .ok (.iconst 0, 1) := by decide +kernel
theorem dX9_check_57 : decode cX9_check 57 = .ok (.istore_n 2, 1) := by decide +kernel
theorem dX9_check_58 : decode cX9_check 58 = .ok (.iload_n 2, 1) := by decide +kernel
theorem dX9_check_59 : decode cX9_check 59 = .ok (.aload_n 0, 1) := by decide +kernel
theorem dX9_check_60 : decode cX9_check 60 = .ok (.getfield 160, 3) := by decide +kernel
theorem dX9_check_63 : decode cX9_check 63 = .ok (.if_icmp .ge 37, 3) := by decide +kernel
theorem dX9_check_66 : decode cX9_check 66 = .ok (.aload_n 0, 1) := by decide +kernel
theorem dX9_check_67 : decode cX9_check 67 = .ok (.getfield 51, 3) := by decide +kernel
theorem dX9_check_70 : decode cX9_check 70 = .ok (.bipush 6, 2) := by decide +kernel
theorem dX9_check_72 : decode cX9_check 72 = .ok (.iload_n 2, 1) := by decide +kernel
theorem dX9_check_73 : decode cX9_check 73 = .ok (.imul, 1) := by decide +kernel
theorem dX9_check_74 : decode cX9_check 74 = .ok (.laload, 1) := by decide +kernel
theorem dX9_check_75 : decode cX9_check 75 = .ok (.aload_n 0, 1) := by decide +kernel
theorem dX9_check_76 : decode cX9_check 76 = .ok (.getfield 45, 3) := by decide +kernel
theorem dX9_check_79 : decode cX9_check 79 = .ok (.bipush 7, 2) := by decide +kernel
theorem dX9_check_81 : decode cX9_check 81 = .ok (.iload_n 1, 1) := by decide +kernel
theorem dX9_check_82 : decode cX9_check 82 = .ok (.imul, 1) := by decide +kernel
theorem dX9_check_83 : decode cX9_check 83 = .ok (.iconst 2, 1) := by decide +kernel
theorem dX9_check_84 : decode cX9_check 84 = .ok (.iadd, 1) := by decide +kernel
theorem dX9_check_85 : decode cX9_check 85 = .ok (.iload_n 2, 1) := by decide +kernel
theorem dX9_check_86 : decode cX9_check 86 = .ok (.iadd, 1) := by decide +kernel
theorem dX9_check_87 : decode cX9_check 87 = .ok (.laload, 1) := by decide +kernel
theorem dX9_check_88 : decode cX9_check 88 = .ok (.lcmp, 1) := by decide +kernel
theorem dX9_check_89 : decode cX9_check 89 = .ok (.ifCond .eq 5, 3) := by decide +kernel
theorem dX9_check_92 : decode cX9_check 92 = .ok (.iload_n 1, 1) := by decide +kernel
theorem dX9_check_93 : decode cX9_check 93 = .ok (.ireturn, 1) := by decide +kernel
theorem dX9_check_94 : decode cX9_check 94 = .ok (.iinc 2 1, 3) := by decide +kernel
theorem dX9_check_97 : decode cX9_check 97 = .ok (.goto (-39), 3) := by decide +kernel
theorem dX9_check_100 : decode cX9_check 100 = .ok (.iinc 1 1, 3) := by decide +kernel
theorem dX9_check_103 : decode cX9_check 103 = .ok (.goto (-97), 3) := by decide +kernel
theorem dX9_check_106 : decode cX9_check 106 = .ok (.iconst (-1), 1) := by decide +kernel
theorem dX9_check_107 : decode cX9_check 107 = .ok (.ireturn, 1) := by decide +kernel
theorem dX9_read_0 : decode cX9_read 0 = .ok (.iload_n 1, 1) := by decide +kernel
theorem dX9_read_1 : decode cX9_read 1 = .ok (.i2l, 1) := by decide +kernel
theorem dX9_read_2 : decode cX9_read 2 = .ok (.lconst 0, 1) := by decide +kernel
theorem dX9_read_3 : decode cX9_read 3 = .ok (.aload_n 0, 1) := by decide +kernel
theorem dX9_read_4 : decode cX9_read 4 = .ok (.getfield 129, 3) := by decide +kernel
theorem dX9_read_7 : decode cX9_read 7 = .ok (.iconst 1, 1) := by decide +kernel
theorem dX9_read_8 : decode cX9_read 8 = .ok (.isub, 1) := by decide +kernel
theorem dX9_read_9 : decode cX9_read 9 = .ok (.i2l, 1) := by decide +kernel
theorem dX9_read_10 : decode cX9_read 10 = .ok (.invokestatic 98, 3) := by decide +kernel
theorem dX9_read_13 : decode cX9_read 13 = .ok (.ifCond .ne 5, 3) := by decide +kernel
theorem dX9_read_16 : decode cX9_read 16 = .ok (.lconst 0, 1) := by decide +kernel
theorem dX9_read_17 : decode cX9_read 17 = .ok (.lreturn, 1) := by decide +kernel
theorem dX9_read_18 : decode cX9_read 18 = .ok (.lconst 0, 1) := by decide +kernel
theorem dX9_read_19 : decode cX9_read 19 = .ok (.lstore_n 2, 1) := by decide +kernel
theorem dX9_read_20 : decode cX9_read 20 = .ok (.iconst 0, 1) := by decide +kernel
theorem dX9_read_21 : decode cX9_read 21 = .ok (.istore 4, 2) := by decide +kernel
theorem dX9_read_23 : decode cX9_read 23 = .ok (.iload 4, 2) := by decide +kernel
theorem dX9_read_25 : decode cX9_read 25 = .ok (.bipush 8, 2) := by decide +kernel
theorem dX9_read_27 : decode cX9_read 27 = .ok (.if_icmp .ge 41, 3) := by decide +kernel
theorem dX9_read_30 : decode cX9_read 30 = .ok (.iload 4, 2) := by decide +kernel
theorem dX9_read_32 : decode cX9_read 32 = .ok (.iload_n 1, 1) := by decide +kernel
theorem dX9_read_33 : decode cX9_read 33 = .ok (.if_icmp .gt 35, 3) := by decide +kernel
theorem dX9_read_36 : decode cX9_read 36 = .ok (.lload_n 2, 1) := by decide +kernel
theorem dX9_read_37 : decode cX9_read 37 = .ok (.aload_n 0, 1) := by decide +kernel
theorem dX9_read_38 : decode cX9_read 38 = .ok (.getfield 57, 3) := by decide +kernel
theorem dX9_read_41 : decode cX9_read 41 = .ok (.iload 4, 2) := by decide +kernel
theorem dX9_read_43 : decode cX9_read 43 = .ok (.iaload, 1) := by decide +kernel
theorem dX9_read_44 : decode cX9_read 44 = .ok (.i2l, 1) := by decide +kernel
theorem dX9_read_45 : decode cX9_read 45 = .ok (.aload_n 0, 1) := by decide +kernel
theorem dX9_read_46 : decode cX9_read 46 = .ok (.getfield 45, 3) := by decide +kernel
theorem dX9_read_49 : decode cX9_read 49 = .ok (.bipush 7, 2) := by decide +kernel
theorem dX9_read_51 : decode cX9_read 51 = .ok (.iload_n 1, 1) := by decide +kernel
theorem dX9_read_52 : decode cX9_read 52 = .ok (.iload 4, 2) := by decide +kernel
theorem dX9_read_54 : decode cX9_read 54 = .ok (.isub, 1) := by decide +kernel
theorem dX9_read_55 : decode cX9_read 55 = .ok (.imul, 1) := by decide +kernel
theorem dX9_read_56 : decode cX9_read 56 = .ok (.iconst 1, 1) := by decide +kernel
theorem dX9_read_57 : decode cX9_read 57 = .ok (.iadd, 1) := by decide +kernel
theorem dX9_read_58 : decode cX9_read 58 = .ok (.laload, 1) := by decide +kernel
theorem dX9_read_59 : decode cX9_read 59 = .ok (.lmul, 1) := by decide +kernel
theorem dX9_read_60 : decode cX9_read 60 = .ok (.ladd, 1) := by decide +kernel
theorem dX9_read_61 : decode cX9_read 61 = .ok (.lstore_n 2, 1) := by decide +kernel
theorem dX9_read_62 : decode cX9_read 62 = .ok (.iinc 4 1, 3) := by decide +kernel
theorem dX9_read_65 : decode cX9_read 65 = .ok (.goto (-42), 3) := by decide +kernel
theorem dX9_read_68 : decode cX9_read 68 = .ok (.lload_n 2, 1) := by decide +kernel
theorem dX9_read_69 : decode cX9_read 69 = .ok (.lreturn, 1) := by decide +kernel
theorem dX9_weight_0 : decode cX9_weight 0 = .ok (.iload_n 1, 1) := by decide +kernel
theorem dX9_weight_1 : decode cX9_weight 1 = .ok (.i2l, 1) := by decide +kernel
theorem dX9_weight_2 : decode cX9_weight 2 = .ok (.lconst 0, 1) := by decide +kernel
theorem dX9_weight_3 : decode cX9_weight 3 = .ok (.ldc2_w 250, 3) := by decide +kernel
theorem dX9_weight_6 : decode cX9_weight 6 = .ok (.invokestatic 98, 3) := by decide +kernel
theorem dX9_weight_9 : decode cX9_weight 9 = .ok (.ifCond .ne 6, 3) := by decide +kernel
theorem dX9_weight_12 : decode cX9_weight 12 = .ok (.ldc 252, 2) := by decide +kernel
theorem dX9_weight_14 : decode cX9_weight 14 = .ok (.ireturn, 1) := by decide +kernel
theorem dX9_weight_15 : decode cX9_weight 15 = .ok (.aload_n 0, 1) := by decide +kernel
theorem dX9_weight_16 : decode cX9_weight 16 = .ok (.getfield 57, 3) := by decide +kernel
theorem dX9_weight_19 : decode cX9_weight 19 = .ok (.iload_n 1, 1) := by decide +kernel
theorem dX9_weight_20 : decode cX9_weight 20 = .ok (.iaload, 1) := by decide +kernel
theorem dX9_weight_21 : decode cX9_weight 21 = .ok (.istore_n 3, 1) := by decide +kernel
theorem dX9_weight_22 : decode cX9_weight 22 = .ok (.aload_n 0, 1) := by decide +kernel
theorem dX9_weight_23 : decode cX9_weight 23 = .ok (.getfield 57, 3) := by decide +kernel
theorem dX9_weight_26 : decode cX9_weight 26 = .ok (.iload_n 1, 1) := by decide +kernel
theorem dX9_weight_27 : decode cX9_weight 27 = .ok (.iload_n 2, 1) := by decide +kernel
theorem dX9_weight_28 : decode cX9_weight 28 = .ok (.iastore, 1) := by decide +kernel
theorem dX9_weight_29 : decode cX9_weight 29 = .ok (.iload_n 3, 1) := by decide +kernel
theorem dX9_weight_30 : decode cX9_weight 30 = .ok (.ireturn, 1) := by decide +kernel
theorem dX9_sums_0 : decode cX9_sums 0 = .ok (.iload_n 1, 1) := by decide +kernel
theorem dX9_sums_1 : decode cX9_sums 1 = .ok (.i2l, 1) := by decide +kernel
theorem dX9_sums_2 : decode cX9_sums 2 = .ok (.lconst 1, 1) := by decide +kernel
theorem dX9_sums_3 : decode cX9_sums 3 = .ok (.ldc2_w 253, 3) := by decide +kernel
theorem dX9_sums_6 : decode cX9_sums 6 = .ok (.invokestatic 98, 3) := by decide +kernel
theorem dX9_sums_9 : decode cX9_sums 9 = .ok (.ifCond .eq 19, 3) := by decide +kernel
theorem dX9_sums_12 : decode cX9_sums 12 = .ok (.iload_n 2, 1) := by decide +kernel
theorem dX9_sums_13 : decode cX9_sums 13 = .ok (.i2l, 1) := by decide +kernel
theorem dX9_sums_14 : decode cX9_sums 14 = .ok (.lconst 0, 1) := by decide +kernel
theorem dX9_sums_15 : decode cX9_sums 15 = .ok (.aload_n 0, 1) := by decide +kernel
theorem dX9_sums_16 : decode cX9_sums 16 = .ok (.getfield 129, 3) := by decide +kernel
theorem dX9_sums_19 : decode cX9_sums 19 = .ok (.iconst 1, 1) := by decide +kernel
theorem dX9_sums_20 : decode cX9_sums 20 = .ok (.isub, 1) := by decide +kernel
theorem dX9_sums_21 : decode cX9_sums 21 = .ok (.i2l, 1) := by decide +kernel
theorem dX9_sums_22 : decode cX9_sums 22 = .ok (.invokestatic 98, 3) := by decide +kernel
theorem dX9_sums_25 : decode cX9_sums 25 = .ok (.ifCond .ne 5, 3) := by decide +kernel
theorem dX9_sums_28 : decode cX9_sums 28 = .ok (.lconst 0, 1) := by decide +kernel
theorem dX9_sums_29 : decode cX9_sums 29 = .ok (.lreturn, 1) := by decide +kernel
theorem dX9_sums_30 : decode cX9_sums 30 = .ok (.iconst 0, 1) := by decide +kernel
theorem dX9_sums_31 : decode cX9_sums 31 = .ok (.istore_n 3, 1) := by decide +kernel
theorem dX9_sums_32 : decode cX9_sums 32 = .ok (.iload_n 3, 1) := by decide +kernel
theorem dX9_sums_33 : decode cX9_sums 33 = .ok (.iconst 5, 1) := by decide +kernel
theorem dX9_sums_34 : decode cX9_sums 34 = .ok (.if_icmp .ge 16, 3) := by decide +kernel
theorem dX9_sums_37 : decode cX9_sums 37 = .ok (.aload_n 0, 1) := by decide +kernel
theorem dX9_sums_38 : decode cX9_sums 38 = .ok (.getfield 60, 3) := by decide +kernel
theorem dX9_sums_41 : decode cX9_sums 41 = .ok (.iload_n 3, 1) := by decide +kernel
theorem dX9_sums_42 : decode cX9_sums 42 = .ok (.lconst 0, 1) := by decide +kernel
theorem dX9_sums_43 : decode cX9_sums 43 = .ok (.lastore, 1) := by decide +kernel
theorem dX9_sums_44 : decode cX9_sums 44 = .ok (.iinc 3 1, 3) := by decide +kernel
theorem dX9_sums_47 : decode cX9_sums 47 = .ok (.goto (-15), 3) := by decide +kernel
theorem dX9_sums_50 : decode cX9_sums 50 = .ok (.iconst 0, 1) := by decide +kernel
theorem dX9_sums_51 : decode cX9_sums 51 = .ok (.istore_n 3, 1) := by decide +kernel
theorem dX9_sums_52 : decode cX9_sums 52 = .ok (.iload_n 3, 1) := by decide +kernel
theorem dX9_sums_53 : decode cX9_sums 53 = .ok (.iload_n 2, 1) := by decide +kernel
theorem dX9_sums_54 : decode cX9_sums 54 = .ok (.if_icmp .gt 60, 3) := by decide +kernel
theorem dX9_sums_57 : decode cX9_sums 57 = .ok (.aload_n 0, 1) := by decide +kernel
theorem dX9_sums_58 : decode cX9_sums 58 = .ok (.getfield 60, 3) := by decide +kernel
theorem dX9_sums_61 : decode cX9_sums 61 = .ok (.iconst 0, 1) := by decide +kernel
theorem dX9_sums_62 : decode cX9_sums 62 = .ok (.aload_n 0, 1) := by decide +kernel
theorem dX9_sums_63 : decode cX9_sums 63 = .ok (.getfield 45, 3) := by decide +kernel
theorem dX9_sums_66 : decode cX9_sums 66 = .ok (.bipush 7, 2) := by decide +kernel
theorem dX9_sums_68 : decode cX9_sums 68 = .ok (.iload_n 3, 1) := by decide +kernel
theorem dX9_sums_69 : decode cX9_sums 69 = .ok (.imul, 1) := by decide +kernel
theorem dX9_sums_70 : decode cX9_sums 70 = .ok (.iconst 1, 1) := by decide +kernel
theorem dX9_sums_71 : decode cX9_sums 71 = .ok (.iadd, 1) := by decide +kernel
theorem dX9_sums_72 : decode cX9_sums 72 = .ok (.laload, 1) := by decide +kernel
theorem dX9_sums_73 : decode cX9_sums 73 = .ok (.lastore, 1) := by decide +kernel
theorem dX9_sums_74 : decode cX9_sums 74 = .ok (.iconst 1, 1) := by decide +kernel
theorem dX9_sums_75 : decode cX9_sums 75 = .ok (.istore 4, 2) := by decide +kernel
theorem dX9_sums_77 : decode cX9_sums 77 = .ok (.iload 4, 2) := by decide +kernel
theorem dX9_sums_79 : decode cX9_sums 79 = .ok (.iload_n 1, 1) := by decide +kernel
theorem dX9_sums_80 : decode cX9_sums 80 = .ok (.if_icmp .gt 28, 3) := by decide +kernel
theorem dX9_sums_83 : decode cX9_sums 83 = .ok (.aload_n 0, 1) := by decide +kernel
theorem dX9_sums_84 : decode cX9_sums 84 = .ok (.getfield 60, 3) := by decide +kernel
theorem dX9_sums_87 : decode cX9_sums 87 = .ok (.iload 4, 2) := by decide +kernel
theorem dX9_sums_89 : decode cX9_sums 89 = .ok (.dup2, 1) := by decide +kernel
theorem dX9_sums_90 : decode cX9_sums 90 = .ok (.laload, 1) := by decide +kernel
theorem dX9_sums_91 : decode cX9_sums 91 = .ok (.aload_n 0, 1) := by decide +kernel
theorem dX9_sums_92 : decode cX9_sums 92 = .ok (.getfield 60, 3) := by decide +kernel
theorem dX9_sums_95 : decode cX9_sums 95 = .ok (.iload 4, 2) := by decide +kernel
theorem dX9_sums_97 : decode cX9_sums 97 = .ok (.iconst 1, 1) := by decide +kernel
theorem dX9_sums_98 : decode cX9_sums 98 = .ok (.isub, 1) := by decide +kernel
theorem dX9_sums_99 : decode cX9_sums 99 = .ok (.laload, 1) := by decide +kernel
theorem dX9_sums_100 : decode cX9_sums 100 = .ok (.ladd, 1) := by decide +kernel
theorem dX9_sums_101 : decode cX9_sums 101 = .ok (.lastore, 1) := by decide +kernel
theorem dX9_sums_102 : decode cX9_sums 102 = .ok (.iinc 4 1, 3) := by decide +kernel
theorem dX9_sums_105 : decode cX9_sums 105 = .ok (.goto (-28), 3) := by decide +kernel
theorem dX9_sums_108 : decode cX9_sums 108 = .ok (.iinc 3 1, 3) := by decide +kernel
theorem dX9_sums_111 : decode cX9_sums 111 = .ok (.goto (-59), 3) := by decide +kernel
theorem dX9_sums_114 : decode cX9_sums 114 = .ok (.aload_n 0, 1) := by decide +kernel
theorem dX9_sums_115 : decode cX9_sums 115 = .ok (.getfield 60, 3) := by decide +kernel
theorem dX9_sums_118 : decode cX9_sums 118 = .ok (.iload_n 1, 1) := by decide +kernel
theorem dX9_sums_119 : decode cX9_sums 119 = .ok (.laload, 1) := by decide +kernel
theorem dX9_sums_120 : decode cX9_sums 120 = .ok (.lreturn, 1) := by decide +kernel
theorem dX9_trace_0 : decode cX9_trace 0 = .ok (.iload_n 1, 1) := by decide +kernel
theorem dX9_trace_1 : decode cX9_trace 1 = .ok (.i2l, 1) := by decide +kernel
theorem dX9_trace_2 : decode cX9_trace 2 = .ok (.lconst 0, 1) := by decide +kernel
theorem dX9_trace_3 : decode cX9_trace 3 = .ok (.aload_n 0, 1) := by decide +kernel
theorem dX9_trace_4 : decode cX9_trace 4 = .ok (.getfield 231, 3) := by decide +kernel
theorem dX9_trace_7 : decode cX9_trace 7 = .ok (.iconst 1, 1) := by decide +kernel
theorem dX9_trace_8 : decode cX9_trace 8 = .ok (.isub, 1) := by decide +kernel
theorem dX9_trace_9 : decode cX9_trace 9 = .ok (.i2l, 1) := by decide +kernel
theorem dX9_trace_10 : decode cX9_trace 10 = .ok (.invokestatic 98, 3) := by decide +kernel
theorem dX9_trace_13 : decode cX9_trace 13 = .ok (.ifCond .eq 12, 3) := by decide +kernel
theorem dX9_trace_16 : decode cX9_trace 16 = .ok (.aload_n 0, 1) := by decide +kernel
theorem dX9_trace_17 : decode cX9_trace 17 = .ok (.getfield 48, 3) := by decide +kernel
theorem dX9_trace_20 : decode cX9_trace 20 = .ok (.iload_n 1, 1) := by decide +kernel
theorem dX9_trace_21 : decode cX9_trace 21 = .ok (.iaload, 1) := by decide +kernel
theorem dX9_trace_22 : decode cX9_trace 22 = .ok (.goto 4, 3) := by decide +kernel
theorem dX9_trace_25 : decode cX9_trace 25 = .ok (.iconst (-1), 1) := by decide +kernel
theorem dX9_trace_26 : decode cX9_trace 26 = .ok (.ireturn, 1) := by decide +kernel
theorem dX9_stands_0 : decode cX9_stands 0 = .ok (.iconst 0, 1) := by decide +kernel
theorem dX9_stands_1 : decode cX9_stands 1 = .ok (.istore_n 2, 1) := by decide +kernel
theorem dX9_stands_2 : decode cX9_stands 2 = .ok (.iload_n 2, 1) := by decide +kernel
theorem dX9_stands_3 : decode cX9_stands 3 = .ok (.iconst 5, 1) := by decide +kernel
theorem dX9_stands_4 : decode cX9_stands 4 = .ok (.if_icmp .ge 81, 3) := by decide +kernel
theorem dX9_stands_7 : decode cX9_stands 7 = .ok (.aload_n 0, 1) := by decide +kernel
theorem dX9_stands_8 : decode cX9_stands 8 = .ok (.getfield 63, 3) := by decide +kernel
theorem dX9_stands_11 : decode cX9_stands 11 = .ok (.bipush 12, 2) := by decide +kernel
theorem dX9_stands_13 : decode cX9_stands 13 = .ok (.iload_n 1, 1) := by decide +kernel
theorem dX9_stands_14 : decode cX9_stands 14 = .ok (.imul, 1) := by decide +kernel
theorem dX9_stands_15 : decode cX9_stands 15 = .ok (.iconst 2, 1) := by decide +kernel
theorem dX9_stands_16 : decode cX9_stands 16 = .ok (.iload_n 2, 1) := by decide +kernel
theorem dX9_stands_17 : decode cX9_stands 17 = .ok (.imul, 1) := by decide +kernel
theorem dX9_stands_18 : decode cX9_stands 18 = .ok (.iadd, 1) := by decide +kernel
theorem dX9_stands_19 : decode cX9_stands 19 = .ok (.iload_n 2, 1) := by decide +kernel
theorem dX9_stands_20 : decode cX9_stands 20 = .ok (.aload_n 0, 1) := by decide +kernel
theorem dX9_stands_21 : decode cX9_stands 21 = .ok (.getfield 160, 3) := by decide +kernel
theorem dX9_stands_24 : decode cX9_stands 24 = .ok (.if_icmp .ge 15, 3) := by decide +kernel
theorem dX9_stands_27 : decode cX9_stands 27 = .ok (.aload_n 0, 1) := by decide +kernel
theorem dX9_stands_28 : decode cX9_stands 28 = .ok (.getfield 51, 3) := by decide +kernel
theorem dX9_stands_31 : decode cX9_stands 31 = .ok (.bipush 6, 2) := by decide +kernel
theorem dX9_stands_33 : decode cX9_stands 33 = .ok (.iload_n 2, 1) := by decide +kernel
theorem dX9_stands_34 : decode cX9_stands 34 = .ok (.imul, 1) := by decide +kernel
theorem dX9_stands_35 : decode cX9_stands 35 = .ok (.laload, 1) := by decide +kernel
theorem dX9_stands_36 : decode cX9_stands 36 = .ok (.goto 4, 3) := by decide +kernel
theorem dX9_stands_39 : decode cX9_stands 39 = .ok (.lconst 0, 1) := by decide +kernel
theorem dX9_stands_40 : decode cX9_stands 40 = .ok (.lastore, 1) := by decide +kernel
theorem dX9_stands_41 : decode cX9_stands 41 = .ok (.aload_n 0, 1) := by decide +kernel
theorem dX9_stands_42 : decode cX9_stands 42 = .ok (.getfield 63, 3) := by decide +kernel
theorem dX9_stands_45 : decode cX9_stands 45 = .ok (.bipush 12, 2) := by decide +kernel
theorem dX9_stands_47 : decode cX9_stands 47 = .ok (.iload_n 1, 1) := by decide +kernel
theorem dX9_stands_48 : decode cX9_stands 48 = .ok (.imul, 1) := by decide +kernel
theorem dX9_stands_49 : decode cX9_stands 49 = .ok (.iconst 2, 1) := by decide +kernel
theorem dX9_stands_50 : decode cX9_stands 50 = .ok (.iload_n 2, 1) := by decide +kernel
theorem dX9_stands_51 : decode cX9_stands 51 = .ok (.imul, 1) := by decide +kernel
theorem dX9_stands_52 : decode cX9_stands 52 = .ok (.iadd, 1) := by decide +kernel
theorem dX9_stands_53 : decode cX9_stands 53 = .ok (.iconst 1, 1) := by decide +kernel
theorem dX9_stands_54 : decode cX9_stands 54 = .ok (.iadd, 1) := by decide +kernel
theorem dX9_stands_55 : decode cX9_stands 55 = .ok (.iload_n 2, 1) := by decide +kernel
theorem dX9_stands_56 : decode cX9_stands 56 = .ok (.aload_n 0, 1) := by decide +kernel
theorem dX9_stands_57 : decode cX9_stands 57 = .ok (.getfield 160, 3) := by decide +kernel
theorem dX9_stands_60 : decode cX9_stands 60 = .ok (.if_icmp .ge 17, 3) := by decide +kernel
theorem dX9_stands_63 : decode cX9_stands 63 = .ok (.aload_n 0, 1) := by decide +kernel
theorem dX9_stands_64 : decode cX9_stands 64 = .ok (.getfield 51, 3) := by decide +kernel
theorem dX9_stands_67 : decode cX9_stands 67 = .ok (.bipush 6, 2) := by decide +kernel
theorem dX9_stands_69 : decode cX9_stands 69 = .ok (.iload_n 2, 1) := by decide +kernel
theorem dX9_stands_70 : decode cX9_stands 70 = .ok (.imul, 1) := by decide +kernel
theorem dX9_stands_71 : decode cX9_stands 71 = .ok (.iconst 1, 1) := by decide +kernel
theorem dX9_stands_72 : decode cX9_stands 72 = .ok (.iadd, 1) := by decide +kernel
theorem dX9_stands_73 : decode cX9_stands 73 = .ok (.laload, 1) := by decide +kernel
theorem dX9_stands_74 : decode cX9_stands 74 = .ok (.goto 4, 3) := by decide +kernel
theorem dX9_stands_77 : decode cX9_stands 77 = .ok (.lconst 0, 1) := by decide +kernel
theorem dX9_stands_78 : decode cX9_stands 78 = .ok (.lastore, 1) := by decide +kernel
theorem dX9_stands_79 : decode cX9_stands 79 = .ok (.iinc 2 1, 3) := by decide +kernel
theorem dX9_stands_82 : decode cX9_stands 82 = .ok (.goto (-80), 3) := by decide +kernel
theorem dX9_stands_85 : decode cX9_stands 85 = .ok (.aload_n 0, 1) := by decide +kernel
theorem dX9_stands_86 : decode cX9_stands 86 = .ok (.getfield 63, 3) := by decide +kernel
theorem dX9_stands_89 : decode cX9_stands 89 = .ok (.bipush 12, 2) := by decide +kernel
theorem dX9_stands_91 : decode cX9_stands 91 = .ok (.iload_n 1, 1) := by decide +kernel
theorem dX9_stands_92 : decode cX9_stands 92 = .ok (.imul, 1) := by decide +kernel
theorem dX9_stands_93 : decode cX9_stands 93 = .ok (.bipush 10, 2) := by decide +kernel
theorem dX9_stands_95 : decode cX9_stands 95 = .ok (.iadd, 1) := by decide +kernel
theorem dX9_stands_96 : decode cX9_stands 96 = .ok (.aload_n 0, 1) := by decide +kernel
theorem dX9_stands_97 : decode cX9_stands 97 = .ok (.getfield 173, 3) := by decide +kernel
theorem dX9_stands_100 : decode cX9_stands 100 = .ok (.ifCond .le 10, 3) := by decide +kernel
theorem dX9_stands_103 : decode cX9_stands 103 = .ok (.aload_n 0, 1) := by decide +kernel
theorem dX9_stands_104 : decode cX9_stands 104 = .ok (.getfield 183, 3) := by decide +kernel
theorem dX9_stands_107 : decode cX9_stands 107 = .ok (.goto 4, 3) := by decide +kernel
theorem dX9_stands_110 : decode cX9_stands 110 = .ok (.lconst 0, 1) := by decide +kernel
theorem dX9_stands_111 : decode cX9_stands 111 = .ok (.lastore, 1) := by decide +kernel
theorem dX9_stands_112 : decode cX9_stands 112 = .ok (.aload_n 0, 1) := by decide +kernel
theorem dX9_stands_113 : decode cX9_stands 113 = .ok (.getfield 63, 3) := by decide +kernel
theorem dX9_stands_116 : decode cX9_stands 116 = .ok (.bipush 12, 2) := by decide +kernel
theorem dX9_stands_118 : decode cX9_stands 118 = .ok (.iload_n 1, 1) := by decide +kernel
theorem dX9_stands_119 : decode cX9_stands 119 = .ok (.imul, 1) := by decide +kernel
theorem dX9_stands_120 : decode cX9_stands 120 = .ok (.bipush 11, 2) := by decide +kernel
theorem dX9_stands_122 : decode cX9_stands 122 = .ok (.iadd, 1) := by decide +kernel
theorem dX9_stands_123 : decode cX9_stands 123 = .ok (.iload_n 1, 1) := by decide +kernel
theorem dX9_stands_124 : decode cX9_stands 124 = .ok (.ifCond .le 15, 3) := by decide +kernel
theorem dX9_stands_127 : decode cX9_stands 127 = .ok (.aload_n 0, 1) := by decide +kernel
theorem dX9_stands_128 : decode cX9_stands 128 = .ok (.getfield 36, 3) := by decide +kernel
theorem dX9_stands_131 : decode cX9_stands 131 = .ok (.aload_n 0, 1) := by decide +kernel
theorem dX9_stands_132 : decode cX9_stands 132 = .ok (.getfield 211, 3) := by decide +kernel
theorem dX9_stands_135 : decode cX9_stands 135 = .ok (.laload, 1) := by decide +kernel
theorem dX9_stands_136 : decode cX9_stands 136 = .ok (.goto 4, 3) := by decide +kernel
theorem dX9_stands_139 : decode cX9_stands 139 = .ok (.lconst 0, 1) := by decide +kernel
theorem dX9_stands_140 : decode cX9_stands 140 = .ok (.lastore, 1) := by decide +kernel
theorem dX9_stands_141 : decode cX9_stands 141 = .ok (.return_, 1) := by decide +kernel
theorem dX9_isAlike_0 : decode cX9_isAlike 0 = .ok (.iconst 1, 1) := by decide +kernel
theorem dX9_isAlike_1 : decode cX9_isAlike 1 = .ok (.istore_n 3, 1) := by decide +kernel
theorem dX9_isAlike_2 : decode cX9_isAlike 2 = .ok (.iconst 0, 1) := by decide +kernel
theorem dX9_isAlike_3 : decode cX9_isAlike 3 = .ok (.istore 4, 2) := by decide +kernel
theorem dX9_isAlike_5 : decode cX9_isAlike 5 = .ok (.iload 4, 2) := by decide +kernel
theorem dX9_isAlike_7 : decode cX9_isAlike 7 = .ok (.bipush 11, 2) := by decide +kernel
theorem dX9_isAlike_9 : decode cX9_isAlike 9 = .ok (.if_icmp .ge 45, 3) := by decide +kernel
theorem dX9_isAlike_12 : decode cX9_isAlike 12 = .ok (.iload_n 3, 1) := by decide +kernel
theorem dX9_isAlike_13 : decode cX9_isAlike 13 = .ok (.aload_n 0, 1) := by decide +kernel
theorem dX9_isAlike_14 : decode cX9_isAlike 14 = .ok (.getfield 63, 3) := by decide +kernel
theorem dX9_isAlike_17 : decode cX9_isAlike 17 = .ok (.bipush 12, 2) := by decide +kernel
theorem dX9_isAlike_19 : decode cX9_isAlike 19 = .ok (.iload_n 1, 1) := by decide +kernel
theorem dX9_isAlike_20 : decode cX9_isAlike 20 = .ok (.imul, 1) := by decide +kernel
theorem dX9_isAlike_21 : decode cX9_isAlike 21 = .ok (.iload 4, 2) := by decide +kernel
theorem dX9_isAlike_23 : decode cX9_isAlike 23 = .ok (.iadd, 1) := by decide +kernel
theorem dX9_isAlike_24 : decode cX9_isAlike 24 = .ok (.laload, 1) := by decide +kernel
theorem dX9_isAlike_25 : decode cX9_isAlike 25 = .ok (.aload_n 0, 1) := by decide +kernel
theorem dX9_isAlike_26 : decode cX9_isAlike 26 = .ok (.getfield 63, 3) := by decide +kernel
theorem dX9_isAlike_29 : decode cX9_isAlike 29 = .ok (.bipush 12, 2) := by decide +kernel
theorem dX9_isAlike_31 : decode cX9_isAlike 31 = .ok (.iload_n 2, 1) := by decide +kernel
theorem dX9_isAlike_32 : decode cX9_isAlike 32 = .ok (.imul, 1) := by decide +kernel
theorem dX9_isAlike_33 : decode cX9_isAlike 33 = .ok (.iload 4, 2) := by decide +kernel
theorem dX9_isAlike_35 : decode cX9_isAlike 35 = .ok (.iadd, 1) := by decide +kernel
theorem dX9_isAlike_36 : decode cX9_isAlike 36 = .ok (.laload, 1) := by decide +kernel
theorem dX9_isAlike_37 : decode cX9_isAlike 37 = .ok (.lcmp, 1) := by decide +kernel
theorem dX9_isAlike_38 : decode cX9_isAlike 38 = .ok (.ifCond .ne 7, 3) := by decide +kernel
theorem dX9_isAlike_41 : decode cX9_isAlike 41 = .ok (.iconst 1, 1) := by decide +kernel
theorem dX9_isAlike_42 : decode cX9_isAlike 42 = .ok (.goto 4, 3) := by decide +kernel
theorem dX9_isAlike_45 : decode cX9_isAlike 45 = .ok (.iconst 0, 1) := by decide +kernel
theorem dX9_isAlike_46 : decode cX9_isAlike 46 = .ok (.iand, 1) := by decide +kernel
theorem dX9_isAlike_47 : decode cX9_isAlike 47 = .ok (.istore_n 3, 1) := by decide +kernel
theorem dX9_isAlike_48 : decode cX9_isAlike 48 = .ok (.iinc 4 1, 3) := by decide +kernel
theorem dX9_isAlike_51 : decode cX9_isAlike 51 = .ok (.goto (-46), 3) := by decide +kernel
theorem dX9_isAlike_54 : decode cX9_isAlike 54 = .ok (.iload_n 3, 1) := by decide +kernel
theorem dX9_isAlike_55 : decode cX9_isAlike 55 = .ok (.ireturn, 1) := by decide +kernel
theorem dX9_hold_0 : decode cX9_hold 0 = .ok (.lload_n 1, 1) := by decide +kernel
theorem dX9_hold_1 : decode cX9_hold 1 = .ok (.invokestatic 167, 3) := by decide +kernel
theorem dX9_hold_4 : decode cX9_hold 4 = .ok (.ifCond .eq 15, 3) := by decide +kernel
theorem dX9_hold_7 : decode cX9_hold 7 = .ok (.iload_n 3, 1) := by decide +kernel
theorem dX9_hold_8 : decode cX9_hold 8 = .ok (.i2l, 1) := by decide +kernel
theorem dX9_hold_9 : decode cX9_hold 9 = .ok (.lconst 1, 1) := by decide +kernel
theorem dX9_hold_10 : decode cX9_hold 10 = .ok (.ldc2_w 255, 3) := by decide +kernel
theorem dX9_hold_13 : decode cX9_hold 13 = .ok (.invokestatic 98, 3) := by decide +kernel
theorem dX9_hold_16 : decode cX9_hold 16 = .ok (.ifCond .ne 6, 3) := by decide +kernel
theorem dX9_hold_19 : decode cX9_hold 19 = .ok (.bipush (-2), 2) := by decide +kernel
theorem dX9_hold_21 : decode cX9_hold 21 = .ok (.ireturn, 1) := by decide +kernel
theorem dX9_hold_22 : decode cX9_hold 22 = .ok (.aload_n 0, 1) := by decide +kernel
theorem dX9_hold_23 : decode cX9_hold 23 = .ok (.invokevirtual 222, 3) := by decide +kernel
theorem dX9_hold_26 : decode cX9_hold 26 = .ok (.aload_n 0, 1) := by decide +kernel
theorem dX9_hold_27 : decode cX9_hold 27 = .ok (.iconst 0, 1) := by decide +kernel
theorem dX9_hold_28 : decode cX9_hold 28 = .ok (.invokevirtual 257, 3) := by decide +kernel
theorem dX9_hold_31 : decode cX9_hold 31 = .ok (.iconst 1, 1) := by decide +kernel
theorem dX9_hold_32 : decode cX9_hold 32 = .ok (.istore 4, 2) := by decide +kernel
theorem dX9_hold_34 : decode cX9_hold 34 = .ok (.iload 4, 2) := by decide +kernel
theorem dX9_hold_36 : decode cX9_hold 36 = .ok (.iload_n 3, 1) := by decide +kernel
theorem dX9_hold_37 : decode cX9_hold 37 = .ok (.if_icmp .gt 125, 3) := by decide +kernel
theorem dX9_hold_40 : decode cX9_hold 40 = .ok (.aload_n 0, 1) := by decide +kernel
theorem dX9_hold_41 : decode cX9_hold 41 = .ok (.lload_n 1, 1) := by decide +kernel
theorem dX9_hold_42 : decode cX9_hold 42 = .ok (.invokevirtual 225, 3) := by decide +kernel
theorem dX9_hold_45 : decode cX9_hold 45 = .ok (.ifCond .ne 6, 3) := by decide +kernel
theorem dX9_hold_48 : decode cX9_hold 48 = .ok (.bipush (-6), 2) := by decide +kernel
theorem dX9_hold_50 : decode cX9_hold 50 = .ok (.ireturn, 1) := by decide +kernel
theorem dX9_hold_51 : decode cX9_hold 51 = .ok (.aload_n 0, 1) := by decide +kernel
theorem dX9_hold_52 : decode cX9_hold 52 = .ok (.iload 4, 2) := by decide +kernel
theorem dX9_hold_54 : decode cX9_hold 54 = .ok (.invokevirtual 257, 3) := by decide +kernel
theorem dX9_hold_57 : decode cX9_hold 57 = .ok (.iconst 0, 1) := by decide +kernel
theorem dX9_hold_58 : decode cX9_hold 58 = .ok (.istore 5, 2) := by decide +kernel
theorem dX9_hold_60 : decode cX9_hold 60 = .ok (.iload 5, 2) := by decide +kernel
theorem dX9_hold_62 : decode cX9_hold 62 = .ok (.iload 4, 2) := by decide +kernel
theorem dX9_hold_64 : decode cX9_hold 64 = .ok (.if_icmp .ge 92, 3) := by decide +kernel
theorem dX9_hold_67 : decode cX9_hold 67 = .ok (.aload_n 0, 1) := by decide +kernel
theorem dX9_hold_68 : decode cX9_hold 68 = .ok (.iload 5, 2) := by decide +kernel
theorem dX9_hold_70 : decode cX9_hold 70 = .ok (.iload 4, 2) := by decide +kernel
theorem dX9_hold_72 : decode cX9_hold 72 = .ok (.invokevirtual 260, 3) := by decide +kernel
theorem dX9_hold_75 : decode cX9_hold 75 = .ok (.ifCond .eq 75, 3) := by decide +kernel
theorem dX9_hold_78 : decode cX9_hold 78 = .ok (.aload_n 0, 1) := by decide +kernel
theorem dX9_hold_79 : decode cX9_hold 79 = .ok (.getfield 66, 3) := by decide +kernel
theorem dX9_hold_82 : decode cX9_hold 82 = .ok (.iconst 0, 1) := by decide +kernel
theorem dX9_hold_83 : decode cX9_hold 83 = .ok (.iload 5, 2) := by decide +kernel
theorem dX9_hold_85 : decode cX9_hold 85 = .ok (.i2l, 1) := by decide +kernel
theorem dX9_hold_86 : decode cX9_hold 86 = .ok (.lastore, 1) := by decide +kernel
theorem dX9_hold_87 : decode cX9_hold 87 = .ok (.aload_n 0, 1) := by decide +kernel
theorem dX9_hold_88 : decode cX9_hold 88 = .ok (.getfield 66, 3) := by decide +kernel
theorem dX9_hold_91 : decode cX9_hold 91 = .ok (.iconst 1, 1) := by decide +kernel
theorem dX9_hold_92 : decode cX9_hold 92 = .ok (.iload 4, 2) := by decide +kernel
theorem dX9_hold_94 : decode cX9_hold 94 = .ok (.iload 5, 2) := by decide +kernel
theorem dX9_hold_96 : decode cX9_hold 96 = .ok (.isub, 1) := by decide +kernel
theorem dX9_hold_97 : decode cX9_hold 97 = .ok (.i2l, 1) := by decide +kernel
theorem dX9_hold_98 : decode cX9_hold 98 = .ok (.lastore, 1) := by decide +kernel
theorem dX9_hold_99 : decode cX9_hold 99 = .ok (.aload_n 0, 1) := by decide +kernel
theorem dX9_hold_100 : decode cX9_hold 100 = .ok (.getfield 66, 3) := by decide +kernel
theorem dX9_hold_103 : decode cX9_hold 103 = .ok (.iconst 2, 1) := by decide +kernel
theorem dX9_hold_104 : decode cX9_hold 104 = .ok (.lconst 0, 1) := by decide +kernel
theorem dX9_hold_105 : decode cX9_hold 105 = .ok (.lastore, 1) := by decide +kernel
theorem dX9_hold_106 : decode cX9_hold 106 = .ok (.iload 5, 2) := by decide +kernel
theorem dX9_hold_108 : decode cX9_hold 108 = .ok (.iconst 1, 1) := by decide +kernel
theorem dX9_hold_109 : decode cX9_hold 109 = .ok (.iadd, 1) := by decide +kernel
theorem dX9_hold_110 : decode cX9_hold 110 = .ok (.istore 6, 2) := by decide +kernel
theorem dX9_hold_112 : decode cX9_hold 112 = .ok (.iload 6, 2) := by decide +kernel
theorem dX9_hold_114 : decode cX9_hold 114 = .ok (.iload 4, 2) := by decide +kernel
theorem dX9_hold_116 : decode cX9_hold 116 = .ok (.if_icmp .gt 31, 3) := by decide +kernel
theorem dX9_hold_119 : decode cX9_hold 119 = .ok (.aload_n 0, 1) := by decide +kernel
theorem dX9_hold_120 : decode cX9_hold 120 = .ok (.getfield 66, 3) := by decide +kernel
theorem dX9_hold_123 : decode cX9_hold 123 = .ok (.iconst 2, 1) := by decide +kernel
theorem dX9_hold_124 : decode cX9_hold 124 = .ok (.dup2, 1) := by decide +kernel
theorem dX9_hold_125 : decode cX9_hold 125 = .ok (.laload, 1) := by decide +kernel
theorem dX9_hold_126 : decode cX9_hold 126 = .ok (.aload_n 0, 1) := by decide +kernel
theorem dX9_hold_127 : decode cX9_hold 127 = .ok (.getfield 63, 3) := by decide +kernel
theorem dX9_hold_130 : decode cX9_hold 130 = .ok (.bipush 12, 2) := by decide +kernel
theorem dX9_hold_132 : decode cX9_hold 132 = .ok (.iload 6, 2) := by decide +kernel
theorem dX9_hold_134 : decode cX9_hold 134 = .ok (.imul, 1) := by decide +kernel
theorem dX9_hold_135 : decode cX9_hold 135 = .ok (.bipush 11, 2) := by decide +kernel
theorem dX9_hold_137 : decode cX9_hold 137 = .ok (.iadd, 1) := by decide +kernel
theorem dX9_hold_138 : decode cX9_hold 138 = .ok (.laload, 1) := by decide +kernel
theorem dX9_hold_139 : decode cX9_hold 139 = .ok (.ladd, 1) := by decide +kernel
theorem dX9_hold_140 : decode cX9_hold 140 = .ok (.lastore, 1) := by decide +kernel
theorem dX9_hold_141 : decode cX9_hold 141 = .ok (.iinc 6 1, 3) := by decide +kernel
theorem dX9_hold_144 : decode cX9_hold 144 = .ok (.goto (-32), 3) := by decide +kernel
theorem dX9_hold_147 : decode cX9_hold 147 = .ok (.iload 5, 2) := by decide +kernel
theorem dX9_hold_149 : decode cX9_hold 149 = .ok (.ireturn, 1) := by decide +kernel
theorem dX9_hold_150 : decode cX9_hold 150 = .ok (.iinc 5 1, 3) := by decide +kernel
theorem dX9_hold_153 : decode cX9_hold 153 = .ok (.goto (-93), 3) := by decide +kernel
theorem dX9_hold_156 : decode cX9_hold 156 = .ok (.iinc 4 1, 3) := by decide +kernel
theorem dX9_hold_159 : decode cX9_hold 159 = .ok (.goto (-125), 3) := by decide +kernel
theorem dX9_hold_162 : decode cX9_hold 162 = .ok (.bipush (-5), 2) := by decide +kernel
theorem dX9_hold_164 : decode cX9_hold 164 = .ok (.ireturn, 1) := by decide +kernel
theorem dX9_held_0 : decode cX9_held 0 = .ok (.iload_n 1, 1) := by decide +kernel
theorem dX9_held_1 : decode cX9_held 1 = .ok (.i2l, 1) := by decide +kernel
theorem dX9_held_2 : decode cX9_held 2 = .ok (.lconst 0, 1) := by decide +kernel
theorem dX9_held_3 : decode cX9_held 3 = .ok (.ldc2_w 163, 3) := by decide +kernel
theorem dX9_held_6 : decode cX9_held 6 = .ok (.invokestatic 98, 3) := by decide +kernel
theorem dX9_held_9 : decode cX9_held 9 = .ok (.ifCond .eq 12, 3) := by decide +kernel
theorem dX9_held_12 : decode cX9_held 12 = .ok (.aload_n 0, 1) := by decide +kernel
theorem dX9_held_13 : decode cX9_held 13 = .ok (.getfield 66, 3) := by decide +kernel
theorem dX9_held_16 : decode cX9_held 16 = .ok (.iload_n 1, 1) := by decide +kernel
theorem dX9_held_17 : decode cX9_held 17 = .ok (.laload, 1) := by decide +kernel
theorem dX9_held_18 : decode cX9_held 18 = .ok (.goto 6, 3) := by decide +kernel
theorem dX9_held_21 : decode cX9_held 21 = .ok (.ldc2_w 244, 3) := by decide +kernel
theorem dX9_held_24 : decode cX9_held 24 = .ok (.lreturn, 1) := by decide +kernel
theorem dX9_tellRow_0 : decode cX9_tellRow 0 = .ok (.iconst 1, 1) := by decide +kernel
theorem dX9_tellRow_1 : decode cX9_tellRow 1 = .ok (.istore 4, 2) := by decide +kernel
theorem dX9_tellRow_3 : decode cX9_tellRow 3 = .ok (.iload_n 1, 1) := by decide +kernel
theorem dX9_tellRow_4 : decode cX9_tellRow 4 = .ok (.istore 5, 2) := by decide +kernel
theorem dX9_tellRow_6 : decode cX9_tellRow 6 = .ok (.aload_n 0, 1) := by decide +kernel
theorem dX9_tellRow_7 : decode cX9_tellRow 7 = .ok (.getfield 75, 3) := by decide +kernel
theorem dX9_tellRow_10 : decode cX9_tellRow 10 = .ok (.iload 5, 2) := by decide +kernel
theorem dX9_tellRow_12 : decode cX9_tellRow 12 = .ok (.iaload, 1) := by decide +kernel
theorem dX9_tellRow_13 : decode cX9_tellRow 13 = .ok (.iconst (-1), 1) := by decide +kernel
theorem dX9_tellRow_14 : decode cX9_tellRow 14 = .ok (.if_icmp .eq 18, 3) := by decide +kernel
theorem dX9_tellRow_17 : decode cX9_tellRow 17 = .ok (.iinc 4 1, 3) := by decide +kernel
theorem dX9_tellRow_20 : decode cX9_tellRow 20 = .ok (.aload_n 0, 1) := by decide +kernel
theorem dX9_tellRow_21 : decode cX9_tellRow 21 = .ok (.getfield 75, 3) := by decide +kernel
theorem dX9_tellRow_24 : decode cX9_tellRow 24 = .ok (.iload 5, 2) := by decide +kernel
theorem dX9_tellRow_26 : decode cX9_tellRow 26 = .ok (.iaload, 1) := by decide +kernel
theorem dX9_tellRow_27 : decode cX9_tellRow 27 = .ok (.istore 5, 2) := by decide +kernel
theorem dX9_tellRow_29 : decode cX9_tellRow 29 = .ok (.goto (-23), 3) := by decide +kernel
theorem dX9_tellRow_32 : decode cX9_tellRow 32 = .ok (.aload_n 0, 1) := by decide +kernel
theorem dX9_tellRow_33 : decode cX9_tellRow 33 = .ok (.iload 4, 2) := by decide +kernel
theorem dX9_tellRow_35 : decode cX9_tellRow 35 = .ok (.putfield 263, 3) := by decide +kernel
theorem dX9_tellRow_38 : decode cX9_tellRow 38 = .ok (.aload_n 0, 1) := by decide +kernel
theorem dX9_tellRow_39 : decode cX9_tellRow 39 = .ok (.getfield 81, 3) := by decide +kernel
theorem dX9_tellRow_42 : decode cX9_tellRow 42 = .ok (.iload 4, 2) := by decide +kernel
theorem dX9_tellRow_44 : decode cX9_tellRow 44 = .ok (.iconst 1, 1) := by decide +kernel
theorem dX9_tellRow_45 : decode cX9_tellRow 45 = .ok (.isub, 1) := by decide +kernel
theorem dX9_tellRow_46 : decode cX9_tellRow 46 = .ok (.lload_n 2, 1) := by decide +kernel
theorem dX9_tellRow_47 : decode cX9_tellRow 47 = .ok (.lastore, 1) := by decide +kernel
theorem dX9_tellRow_48 : decode cX9_tellRow 48 = .ok (.iload_n 1, 1) := by decide +kernel
theorem dX9_tellRow_49 : decode cX9_tellRow 49 = .ok (.istore 5, 2) := by decide +kernel
theorem dX9_tellRow_51 : decode cX9_tellRow 51 = .ok (.iload 4, 2) := by decide +kernel
theorem dX9_tellRow_53 : decode cX9_tellRow 53 = .ok (.iconst 2, 1) := by decide +kernel
theorem dX9_tellRow_54 : decode cX9_tellRow 54 = .ok (.isub, 1) := by decide +kernel
theorem dX9_tellRow_55 : decode cX9_tellRow 55 = .ok (.istore 6, 2) := by decide +kernel
theorem dX9_tellRow_57 : decode cX9_tellRow 57 = .ok (.iload 6, 2) := by decide +kernel
theorem dX9_tellRow_59 : decode cX9_tellRow 59 = .ok (.ifCond .lt 32, 3) := by decide +kernel
theorem dX9_tellRow_62 : decode cX9_tellRow 62 = .ok (.aload_n 0, 1) := by decide +kernel
theorem dX9_tellRow_63 : decode cX9_tellRow 63 = .ok (.getfield 81, 3) := by decide +kernel
theorem dX9_tellRow_66 : decode cX9_tellRow 66 = .ok (.iload 6, 2) := by decide +kernel
theorem dX9_tellRow_68 : decode cX9_tellRow 68 = .ok (.aload_n 0, 1) := by decide +kernel
theorem dX9_tellRow_69 : decode cX9_tellRow 69 = .ok (.getfield 78, 3) := by decide +kernel
theorem dX9_tellRow_72 : decode cX9_tellRow 72 = .ok (.iload 5, 2) := by decide +kernel
theorem dX9_tellRow_74 : decode cX9_tellRow 74 = .ok (.laload, 1) := by decide +kernel
theorem dX9_tellRow_75 : decode cX9_tellRow 75 = .ok (.lastore, 1) := by decide +kernel
theorem dX9_tellRow_76 : decode cX9_tellRow 76 = .ok (.aload_n 0, 1) := by decide +kernel
theorem dX9_tellRow_77 : decode cX9_tellRow 77 = .ok (.getfield 75, 3) := by decide +kernel
theorem dX9_tellRow_80 : decode cX9_tellRow 80 = .ok (.iload 5, 2) := by decide +kernel
theorem dX9_tellRow_82 : decode cX9_tellRow 82 = .ok (.iaload, 1) := by decide +kernel
theorem dX9_tellRow_83 : decode cX9_tellRow 83 = .ok (.istore 5, 2) := by decide +kernel
theorem dX9_tellRow_85 : decode cX9_tellRow 85 = .ok (.iinc 6 (-1), 3) := by decide +kernel
theorem dX9_tellRow_88 : decode cX9_tellRow 88 = .ok (.goto (-31), 3) := by decide +kernel
theorem dX9_tellRow_91 : decode cX9_tellRow 91 = .ok (.return_, 1) := by decide +kernel
theorem dX9_mayReach_0 : decode cX9_mayReach 0 = .ok (.aload_n 0, 1) := by decide +kernel
theorem dX9_mayReach_1 : decode cX9_mayReach 1 = .ok (.getfield 160, 3) := by decide +kernel
theorem dX9_mayReach_4 : decode cX9_mayReach 4 = .ok (.i2l, 1) := by decide +kernel
theorem dX9_mayReach_5 : decode cX9_mayReach 5 = .ok (.lconst 1, 1) := by decide +kernel
theorem dX9_mayReach_6 : decode cX9_mayReach 6 = .ok (.ldc2_w 163, 3) := by decide +kernel
theorem dX9_mayReach_9 : decode cX9_mayReach 9 = .ok (.invokestatic 98, 3) := by decide +kernel
theorem dX9_mayReach_12 : decode cX9_mayReach 12 = .ok (.ifCond .eq 14, 3) := by decide +kernel
theorem dX9_mayReach_15 : decode cX9_mayReach 15 = .ok (.aload_n 0, 1) := by decide +kernel
theorem dX9_mayReach_16 : decode cX9_mayReach 16 = .ok (.getfield 173, 3) := by decide +kernel
theorem dX9_mayReach_19 : decode cX9_mayReach 19 = .ok (.ifCond .ne 7, 3) := by decide +kernel
theorem dX9_mayReach_22 : decode cX9_mayReach 22 = .ok (.iconst 1, 1) := by decide +kernel
theorem dX9_mayReach_23 : decode cX9_mayReach 23 = .ok (.goto 4, 3) := by decide +kernel
theorem dX9_mayReach_26 : decode cX9_mayReach 26 = .ok (.iconst 0, 1) := by decide +kernel
theorem dX9_mayReach_27 : decode cX9_mayReach 27 = .ok (.istore_n 1, 1) := by decide +kernel
theorem dX9_mayReach_28 : decode cX9_mayReach 28 = .ok (.iconst 0, 1) := by decide +kernel
theorem dX9_mayReach_29 : decode cX9_mayReach 29 = .ok (.istore_n 2, 1) := by decide +kernel
theorem dX9_mayReach_30 : decode cX9_mayReach 30 = .ok (.iload_n 2, 1) := by decide +kernel
theorem dX9_mayReach_31 : decode cX9_mayReach 31 = .ok (.aload_n 0, 1) := by decide +kernel
theorem dX9_mayReach_32 : decode cX9_mayReach 32 = .ok (.getfield 160, 3) := by decide +kernel
theorem dX9_mayReach_35 : decode cX9_mayReach 35 = .ok (.if_icmp .ge 27, 3) := by decide +kernel
theorem dX9_mayReach_38 : decode cX9_mayReach 38 = .ok (.iload_n 1, 1) := by decide +kernel
theorem dX9_mayReach_39 : decode cX9_mayReach 39 = .ok (.aload_n 0, 1) := by decide +kernel
theorem dX9_mayReach_40 : decode cX9_mayReach 40 = .ok (.getfield 27, 3) := by decide +kernel
theorem dX9_mayReach_43 : decode cX9_mayReach 43 = .ok (.iload_n 2, 1) := by decide +kernel
theorem dX9_mayReach_44 : decode cX9_mayReach 44 = .ok (.iaload, 1) := by decide +kernel
theorem dX9_mayReach_45 : decode cX9_mayReach 45 = .ok (.iconst 3, 1) := by decide +kernel
theorem dX9_mayReach_46 : decode cX9_mayReach 46 = .ok (.if_icmp .eq 7, 3) := by decide +kernel
theorem dX9_mayReach_49 : decode cX9_mayReach 49 = .ok (.iconst 1, 1) := by decide +kernel
theorem dX9_mayReach_50 : decode cX9_mayReach 50 = .ok (.goto 4, 3) := by decide +kernel
theorem dX9_mayReach_53 : decode cX9_mayReach 53 = .ok (.iconst 0, 1) := by decide +kernel
theorem dX9_mayReach_54 : decode cX9_mayReach 54 = .ok (.iand, 1) := by decide +kernel
theorem dX9_mayReach_55 : decode cX9_mayReach 55 = .ok (.istore_n 1, 1) := by decide +kernel
theorem dX9_mayReach_56 : decode cX9_mayReach 56 = .ok (.iinc 2 1, 3) := by decide +kernel
theorem dX9_mayReach_59 : decode cX9_mayReach 59 = .ok (.goto (-29), 3) := by decide +kernel
theorem dX9_mayReach_62 : decode cX9_mayReach 62 = .ok (.iload_n 1, 1) := by decide +kernel
theorem dX9_mayReach_63 : decode cX9_mayReach 63 = .ok (.ireturn, 1) := by decide +kernel
theorem dX9_reach_0 : decode cX9_reach 0 = .ok (.lload_n 1, 1) := by decide +kernel
theorem dX9_reach_1 : decode cX9_reach 1 = .ok (.invokestatic 167, 3) := by decide +kernel
theorem dX9_reach_4 : decode cX9_reach 4 = .ok (.ifCond .eq 35, 3) := by decide +kernel
theorem dX9_reach_7 : decode cX9_reach 7 = .ok (.lload_n 3, 1) := by decide +kernel
theorem dX9_reach_8 : decode cX9_reach 8 = .ok (.invokestatic 167, 3) := by decide +kernel
theorem dX9_reach_11 : decode cX9_reach 11 = .ok (.ifCond .eq 28, 3) := by decide +kernel
theorem dX9_reach_14 : decode cX9_reach 14 = .ok (.lload_n 3, 1) := by decide +kernel
theorem dX9_reach_15 : decode cX9_reach 15 = .ok (.lload_n 1, 1) := by decide +kernel
theorem dX9_reach_16 : decode cX9_reach 16 = .ok (.lsub, 1) := by decide +kernel
theorem dX9_reach_17 : decode cX9_reach 17 = .ok (.lconst 0, 1) := by decide +kernel
theorem dX9_reach_18 : decode cX9_reach 18 = .ok (.ldc2_w 242, 3) := by decide +kernel
theorem dX9_reach_21 : decode cX9_reach 21 = .ok (.invokestatic 98, 3) := by decide +kernel
theorem dX9_reach_24 : decode cX9_reach 24 = .ok (.ifCond .eq 15, 3) := by decide +kernel
theorem dX9_reach_27 : decode cX9_reach 27 = .ok (.lload 5, 2) := by decide +kernel
theorem dX9_reach_29 : decode cX9_reach 29 = .ok (.lconst 1, 1) := by decide +kernel
theorem dX9_reach_30 : decode cX9_reach 30 = .ok (.ldc2_w 154, 3) := by decide +kernel
theorem dX9_reach_33 : decode cX9_reach 33 = .ok (.invokestatic 98, 3) := by decide +kernel
theorem dX9_reach_36 : decode cX9_reach 36 = .ok (.ifCond .ne 6, 3) := by decide +kernel
theorem dX9_reach_39 : decode cX9_reach 39 = .ok (.bipush (-2), 2) := by decide +kernel
theorem dX9_reach_41 : decode cX9_reach 41 = .ok (.ireturn, 1) := by decide +kernel
theorem dX9_reach_42 : decode cX9_reach 42 = .ok (.aload_n 0, 1) := by decide +kernel
theorem dX9_reach_43 : decode cX9_reach 43 = .ok (.invokevirtual 266, 3) := by decide +kernel
theorem dX9_reach_46 : decode cX9_reach 46 = .ok (.ifCond .ne 6, 3) := by decide +kernel
theorem dX9_reach_49 : decode cX9_reach 49 = .ok (.bipush (-7), 2) := by decide +kernel
theorem dX9_reach_51 : decode cX9_reach 51 = .ok (.ireturn, 1) := by decide +kernel
theorem dX9_reach_52 : decode cX9_reach 52 = .ok (.aload_n 0, 1) := by decide +kernel
theorem dX9_reach_53 : decode cX9_reach 53 = .ok (.iconst 0, 1) := by decide +kernel
theorem dX9_reach_54 : decode cX9_reach 54 = .ok (.putfield 263, 3) := by decide +kernel
theorem dX9_reach_57 : decode cX9_reach 57 = .ok (.aload_n 0, 1) := by decide +kernel
theorem dX9_reach_58 : decode cX9_reach 58 = .ok (.iconst 1, 1) := by decide +kernel
theorem dX9_reach_59 : decode cX9_reach 59 = .ok (.putfield 270, 3) := by decide +kernel
theorem dX9_reach_62 : decode cX9_reach 62 = .ok (.aload_n 0, 1) := by decide +kernel
theorem dX9_reach_63 : decode cX9_reach 63 = .ok (.getfield 69, 3) := by decide +kernel
theorem dX9_reach_66 : decode cX9_reach 66 = .ok (.iconst 0, 1) := by decide +kernel
theorem dX9_reach_67 : decode cX9_reach 67 = .ok (.aload_n 0, 1) := by decide +kernel
theorem dX9_reach_68 : decode cX9_reach 68 = .ok (.getfield 39, 3) := by decide +kernel
theorem dX9_reach_71 : decode cX9_reach 71 = .ok (.iconst 0, 1) := by decide +kernel
theorem dX9_reach_72 : decode cX9_reach 72 = .ok (.laload, 1) := by decide +kernel
theorem dX9_reach_73 : decode cX9_reach 73 = .ok (.lastore, 1) := by decide +kernel
theorem dX9_reach_74 : decode cX9_reach 74 = .ok (.aload_n 0, 1) := by decide +kernel
theorem dX9_reach_75 : decode cX9_reach 75 = .ok (.getfield 72, 3) := by decide +kernel
theorem dX9_reach_78 : decode cX9_reach 78 = .ok (.iconst 0, 1) := by decide +kernel
theorem dX9_reach_79 : decode cX9_reach 79 = .ok (.aload_n 0, 1) := by decide +kernel
theorem dX9_reach_80 : decode cX9_reach 80 = .ok (.getfield 160, 3) := by decide +kernel
theorem dX9_reach_83 : decode cX9_reach 83 = .ok (.iconst 1, 1) := by decide +kernel
theorem dX9_reach_84 : decode cX9_reach 84 = .ok (.if_icmp .le 13, 3) := by decide +kernel
theorem dX9_reach_87 : decode cX9_reach 87 = .ok (.aload_n 0, 1) := by decide +kernel
theorem dX9_reach_88 : decode cX9_reach 88 = .ok (.getfield 39, 3) := by decide +kernel
theorem dX9_reach_91 : decode cX9_reach 91 = .ok (.bipush 6, 2) := by decide +kernel
theorem dX9_reach_93 : decode cX9_reach 93 = .ok (.laload, 1) := by decide +kernel
theorem dX9_reach_94 : decode cX9_reach 94 = .ok (.goto 4, 3) := by decide +kernel
theorem dX9_reach_97 : decode cX9_reach 97 = .ok (.lconst 0, 1) := by decide +kernel
theorem dX9_reach_98 : decode cX9_reach 98 = .ok (.lastore, 1) := by decide +kernel
theorem dX9_reach_99 : decode cX9_reach 99 = .ok (.aload_n 0, 1) := by decide +kernel
theorem dX9_reach_100 : decode cX9_reach 100 = .ok (.getfield 75, 3) := by decide +kernel
theorem dX9_reach_103 : decode cX9_reach 103 = .ok (.iconst 0, 1) := by decide +kernel
theorem dX9_reach_104 : decode cX9_reach 104 = .ok (.iconst (-1), 1) := by decide +kernel
theorem dX9_reach_105 : decode cX9_reach 105 = .ok (.iastore, 1) := by decide +kernel
theorem dX9_reach_106 : decode cX9_reach 106 = .ok (.iconst 0, 1) := by decide +kernel
theorem dX9_reach_107 : decode cX9_reach 107 = .ok (.istore 7, 2) := by decide +kernel
theorem dX9_reach_109 : decode cX9_reach 109 = .ok (.iload 7, 2) := by decide +kernel
theorem dX9_reach_111 : decode cX9_reach 111 = .ok (.aload_n 0, 1) := by decide +kernel
theorem dX9_reach_112 : decode cX9_reach 112 = .ok (.getfield 270, 3) := by decide +kernel
theorem dX9_reach_115 : decode cX9_reach 115 = .ok (.if_icmp .ge 254, 3) := by decide +kernel
theorem dX9_reach_118 : decode cX9_reach 118 = .ok (.lload_n 1, 1) := by decide +kernel
theorem dX9_reach_119 : decode cX9_reach 119 = .ok (.lstore 8, 2) := by decide +kernel
theorem dX9_reach_121 : decode cX9_reach 121 = .ok (.lload 8, 2) := by decide +kernel
theorem dX9_reach_123 : decode cX9_reach 123 = .ok (.lload_n 3, 1) := by decide +kernel
theorem dX9_reach_124 : decode cX9_reach 124 = .ok (.lcmp, 1) := by decide +kernel
theorem dX9_reach_125 : decode cX9_reach 125 = .ok (.ifCond .gt 238, 3) := by decide +kernel
theorem dX9_reach_128 : decode cX9_reach 128 = .ok (.aload_n 0, 1) := by decide +kernel
theorem dX9_reach_129 : decode cX9_reach 129 = .ok (.invokevirtual 222, 3) := by decide +kernel
theorem dX9_reach_132 : decode cX9_reach 132 = .ok (.aload_n 0, 1) := by decide +kernel
theorem dX9_reach_133 : decode cX9_reach 133 = .ok (.getfield 51, 3) := by decide +kernel
theorem dX9_reach_136 : decode cX9_reach 136 = .ok (.iconst 0, 1) := by decide +kernel
theorem dX9_reach_137 : decode cX9_reach 137 = .ok (.aload_n 0, 1) := by decide +kernel
theorem dX9_reach_138 : decode cX9_reach 138 = .ok (.getfield 69, 3) := by decide +kernel
theorem dX9_reach_141 : decode cX9_reach 141 = .ok (.iload 7, 2) := by decide +kernel
theorem dX9_reach_143 : decode cX9_reach 143 = .ok (.laload, 1) := by decide +kernel
theorem dX9_reach_144 : decode cX9_reach 144 = .ok (.lastore, 1) := by decide +kernel
theorem dX9_reach_145 : decode cX9_reach 145 = .ok (.aload_n 0, 1) := by decide +kernel
theorem dX9_reach_146 : decode cX9_reach 146 = .ok (.getfield 51, 3) := by decide +kernel
theorem dX9_reach_149 : decode cX9_reach 149 = .ok (.bipush 6, 2) := by decide +kernel
theorem dX9_reach_151 : decode cX9_reach 151 = .ok (.aload_n 0, 1) := by decide +kernel
theorem dX9_reach_152 : decode cX9_reach 152 = .ok (.getfield 72, 3) := by decide +kernel
theorem dX9_reach_155 : decode cX9_reach 155 = .ok (.iload 7, 2) := by decide +kernel
theorem dX9_reach_157 : decode cX9_reach 157 = .ok (.laload, 1) := by decide +kernel
theorem dX9_reach_158 : decode cX9_reach 158 = .ok (.lastore, 1) := by decide +kernel
theorem dX9_reach_159 : decode cX9_reach 159 = .ok (.aload_n 0, 1) := by decide +kernel
theorem dX9_reach_160 : decode cX9_reach 160 = .ok (.lload 8, 2) := by decide +kernel
theorem dX9_reach_162 : decode cX9_reach 162 = .ok (.invokevirtual 225, 3) := by decide +kernel
theorem dX9_reach_165 : decode cX9_reach 165 = .ok (.ifCond .ne 6, 3) := by decide +kernel
theorem dX9_reach_168 : decode cX9_reach 168 = .ok (.bipush (-6), 2) := by decide +kernel
theorem dX9_reach_170 : decode cX9_reach 170 = .ok (.ireturn, 1) := by decide +kernel
theorem dX9_reach_171 : decode cX9_reach 171 = .ok (.aload_n 0, 1) := by decide +kernel
theorem dX9_reach_172 : decode cX9_reach 172 = .ok (.getfield 51, 3) := by decide +kernel
theorem dX9_reach_175 : decode cX9_reach 175 = .ok (.iconst 0, 1) := by decide +kernel
theorem dX9_reach_176 : decode cX9_reach 176 = .ok (.laload, 1) := by decide +kernel
theorem dX9_reach_177 : decode cX9_reach 177 = .ok (.lstore 10, 2) := by decide +kernel
theorem dX9_reach_179 : decode cX9_reach 179 = .ok (.aload_n 0, 1) := by decide +kernel
theorem dX9_reach_180 : decode cX9_reach 180 = .ok (.getfield 160, 3) := by decide +kernel
end
section
theorem dX9_reach_183 : decode cX9_reach 183 = .ok (.iconst 1, 1) := by decide +kernel
theorem dX9_reach_184 : decode cX9_reach 184 = .ok (.if_icmp .le 13, 3) := by decide +kernel
theorem dX9_reach_187 : decode cX9_reach 187 = .ok (.aload_n 0, 1) := by decide +kernel
theorem dX9_reach_188 : decode cX9_reach 188 = .ok (.getfield 51, 3) := by decide +kernel
theorem dX9_reach_191 : decode cX9_reach 191 = .ok (.bipush 6, 2) := by decide +kernel
theorem dX9_reach_193 : decode cX9_reach 193 = .ok (.laload, 1) := by decide +kernel
theorem dX9_reach_194 : decode cX9_reach 194 = .ok (.goto 4, 3) := by decide +kernel
theorem dX9_reach_197 : decode cX9_reach 197 = .ok (.lconst 0, 1) := by decide +kernel
theorem dX9_reach_198 : decode cX9_reach 198 = .ok (.lstore 12, 2) := by decide +kernel
theorem dX9_reach_200 : decode cX9_reach 200 = .ok (.lload 10, 2) := by decide +kernel
theorem dX9_reach_202 : decode cX9_reach 202 = .ok (.lload 5, 2) := by decide +kernel
theorem dX9_reach_204 : decode cX9_reach 204 = .ok (.lneg, 1) := by decide +kernel
theorem dX9_reach_205 : decode cX9_reach 205 = .ok (.lload 5, 2) := by decide +kernel
theorem dX9_reach_207 : decode cX9_reach 207 = .ok (.invokestatic 98, 3) := by decide +kernel
theorem dX9_reach_210 : decode cX9_reach 210 = .ok (.ifCond .eq 16, 3) := by decide +kernel
theorem dX9_reach_213 : decode cX9_reach 213 = .ok (.lload 12, 2) := by decide +kernel
theorem dX9_reach_215 : decode cX9_reach 215 = .ok (.lload 5, 2) := by decide +kernel
theorem dX9_reach_217 : decode cX9_reach 217 = .ok (.lneg, 1) := by decide +kernel
theorem dX9_reach_218 : decode cX9_reach 218 = .ok (.lload 5, 2) := by decide +kernel
theorem dX9_reach_220 : decode cX9_reach 220 = .ok (.invokestatic 98, 3) := by decide +kernel
theorem dX9_reach_223 : decode cX9_reach 223 = .ok (.ifCond .ne 19, 3) := by decide +kernel
theorem dX9_reach_226 : decode cX9_reach 226 = .ok (.aload_n 0, 1) := by decide +kernel
theorem dX9_reach_227 : decode cX9_reach 227 = .ok (.iload 7, 2) := by decide +kernel
theorem dX9_reach_229 : decode cX9_reach 229 = .ok (.lload 8, 2) := by decide +kernel
theorem dX9_reach_231 : decode cX9_reach 231 = .ok (.invokevirtual 272, 3) := by decide +kernel
theorem dX9_reach_234 : decode cX9_reach 234 = .ok (.bipush (-100), 2) := by decide +kernel
theorem dX9_reach_236 : decode cX9_reach 236 = .ok (.aload_n 0, 1) := by decide +kernel
theorem dX9_reach_237 : decode cX9_reach 237 = .ok (.getfield 263, 3) := by decide +kernel
theorem dX9_reach_240 : decode cX9_reach 240 = .ok (.isub, 1) := by decide +kernel
theorem dX9_reach_241 : decode cX9_reach 241 = .ok (.ireturn, 1) := by decide +kernel
theorem dX9_reach_242 : decode cX9_reach 242 = .ok (.iconst 0, 1) := by decide +kernel
theorem dX9_reach_243 : decode cX9_reach 243 = .ok (.istore 14, 2) := by decide +kernel
theorem dX9_reach_245 : decode cX9_reach 245 = .ok (.iload 14, 2) := by decide +kernel
theorem dX9_reach_247 : decode cX9_reach 247 = .ok (.aload_n 0, 1) := by decide +kernel
theorem dX9_reach_248 : decode cX9_reach 248 = .ok (.getfield 270, 3) := by decide +kernel
theorem dX9_reach_251 : decode cX9_reach 251 = .ok (.if_icmp .ge 35, 3) := by decide +kernel
theorem dX9_reach_254 : decode cX9_reach 254 = .ok (.aload_n 0, 1) := by decide +kernel
theorem dX9_reach_255 : decode cX9_reach 255 = .ok (.getfield 69, 3) := by decide +kernel
theorem dX9_reach_258 : decode cX9_reach 258 = .ok (.iload 14, 2) := by decide +kernel
theorem dX9_reach_260 : decode cX9_reach 260 = .ok (.laload, 1) := by decide +kernel
theorem dX9_reach_261 : decode cX9_reach 261 = .ok (.lload 10, 2) := by decide +kernel
theorem dX9_reach_263 : decode cX9_reach 263 = .ok (.lcmp, 1) := by decide +kernel
theorem dX9_reach_264 : decode cX9_reach 264 = .ok (.ifCond .ne 16, 3) := by decide +kernel
theorem dX9_reach_267 : decode cX9_reach 267 = .ok (.aload_n 0, 1) := by decide +kernel
theorem dX9_reach_268 : decode cX9_reach 268 = .ok (.getfield 72, 3) := by decide +kernel
theorem dX9_reach_271 : decode cX9_reach 271 = .ok (.iload 14, 2) := by decide +kernel
theorem dX9_reach_273 : decode cX9_reach 273 = .ok (.laload, 1) := by decide +kernel
theorem dX9_reach_274 : decode cX9_reach 274 = .ok (.lload 12, 2) := by decide +kernel
theorem dX9_reach_276 : decode cX9_reach 276 = .ok (.lcmp, 1) := by decide +kernel
theorem dX9_reach_277 : decode cX9_reach 277 = .ok (.ifCond .eq 9, 3) := by decide +kernel
theorem dX9_reach_280 : decode cX9_reach 280 = .ok (.iinc 14 1, 3) := by decide +kernel
theorem dX9_reach_283 : decode cX9_reach 283 = .ok (.goto (-38), 3) := by decide +kernel
theorem dX9_reach_286 : decode cX9_reach 286 = .ok (.iload 14, 2) := by decide +kernel
theorem dX9_reach_288 : decode cX9_reach 288 = .ok (.aload_n 0, 1) := by decide +kernel
theorem dX9_reach_289 : decode cX9_reach 289 = .ok (.getfield 270, 3) := by decide +kernel
theorem dX9_reach_292 : decode cX9_reach 292 = .ok (.if_icmp .ne 62, 3) := by decide +kernel
theorem dX9_reach_295 : decode cX9_reach 295 = .ok (.aload_n 0, 1) := by decide +kernel
theorem dX9_reach_296 : decode cX9_reach 296 = .ok (.getfield 270, 3) := by decide +kernel
theorem dX9_reach_299 : decode cX9_reach 299 = .ok (.sipush 500, 3) := by decide +kernel
theorem dX9_reach_302 : decode cX9_reach 302 = .ok (.if_icmp .ne 6, 3) := by decide +kernel
theorem dX9_reach_305 : decode cX9_reach 305 = .ok (.bipush (-5), 2) := by decide +kernel
theorem dX9_reach_307 : decode cX9_reach 307 = .ok (.ireturn, 1) := by decide +kernel
theorem dX9_reach_308 : decode cX9_reach 308 = .ok (.aload_n 0, 1) := by decide +kernel
theorem dX9_reach_309 : decode cX9_reach 309 = .ok (.getfield 69, 3) := by decide +kernel
theorem dX9_reach_312 : decode cX9_reach 312 = .ok (.iload 14, 2) := by decide +kernel
theorem dX9_reach_314 : decode cX9_reach 314 = .ok (.lload 10, 2) := by decide +kernel
theorem dX9_reach_316 : decode cX9_reach 316 = .ok (.lastore, 1) := by decide +kernel
theorem dX9_reach_317 : decode cX9_reach 317 = .ok (.aload_n 0, 1) := by decide +kernel
theorem dX9_reach_318 : decode cX9_reach 318 = .ok (.getfield 72, 3) := by decide +kernel
theorem dX9_reach_321 : decode cX9_reach 321 = .ok (.iload 14, 2) := by decide +kernel
theorem dX9_reach_323 : decode cX9_reach 323 = .ok (.lload 12, 2) := by decide +kernel
theorem dX9_reach_325 : decode cX9_reach 325 = .ok (.lastore, 1) := by decide +kernel
theorem dX9_reach_326 : decode cX9_reach 326 = .ok (.aload_n 0, 1) := by decide +kernel
theorem dX9_reach_327 : decode cX9_reach 327 = .ok (.getfield 75, 3) := by decide +kernel
theorem dX9_reach_330 : decode cX9_reach 330 = .ok (.iload 14, 2) := by decide +kernel
theorem dX9_reach_332 : decode cX9_reach 332 = .ok (.iload 7, 2) := by decide +kernel
theorem dX9_reach_334 : decode cX9_reach 334 = .ok (.iastore, 1) := by decide +kernel
theorem dX9_reach_335 : decode cX9_reach 335 = .ok (.aload_n 0, 1) := by decide +kernel
theorem dX9_reach_336 : decode cX9_reach 336 = .ok (.getfield 78, 3) := by decide +kernel
theorem dX9_reach_339 : decode cX9_reach 339 = .ok (.iload 14, 2) := by decide +kernel
theorem dX9_reach_341 : decode cX9_reach 341 = .ok (.lload 8, 2) := by decide +kernel
theorem dX9_reach_343 : decode cX9_reach 343 = .ok (.lastore, 1) := by decide +kernel
theorem dX9_reach_344 : decode cX9_reach 344 = .ok (.aload_n 0, 1) := by decide +kernel
theorem dX9_reach_345 : decode cX9_reach 345 = .ok (.dup, 1) := by decide +kernel
theorem dX9_reach_346 : decode cX9_reach 346 = .ok (.getfield 270, 3) := by decide +kernel
theorem dX9_reach_349 : decode cX9_reach 349 = .ok (.iconst 1, 1) := by decide +kernel
theorem dX9_reach_350 : decode cX9_reach 350 = .ok (.iadd, 1) := by decide +kernel
theorem dX9_reach_351 : decode cX9_reach 351 = .ok (.putfield 270, 3) := by decide +kernel
theorem dX9_reach_354 : decode cX9_reach 354 = .ok (.lload 8, 2) := by decide +kernel
theorem dX9_reach_356 : decode cX9_reach 356 = .ok (.lconst 1, 1) := by decide +kernel
theorem dX9_reach_357 : decode cX9_reach 357 = .ok (.ladd, 1) := by decide +kernel
theorem dX9_reach_358 : decode cX9_reach 358 = .ok (.lstore 8, 2) := by decide +kernel
theorem dX9_reach_360 : decode cX9_reach 360 = .ok (.goto (-239), 3) := by decide +kernel
theorem dX9_reach_363 : decode cX9_reach 363 = .ok (.iinc 7 1, 3) := by decide +kernel
theorem dX9_reach_366 : decode cX9_reach 366 = .ok (.goto (-257), 3) := by decide +kernel
theorem dX9_reach_369 : decode cX9_reach 369 = .ok (.aload_n 0, 1) := by decide +kernel
theorem dX9_reach_370 : decode cX9_reach 370 = .ok (.getfield 270, 3) := by decide +kernel
theorem dX9_reach_373 : decode cX9_reach 373 = .ok (.ireturn, 1) := by decide +kernel
theorem dX9_leaving_0 : decode cX9_leaving 0 = .ok (.iload_n 1, 1) := by decide +kernel
theorem dX9_leaving_1 : decode cX9_leaving 1 = .ok (.i2l, 1) := by decide +kernel
theorem dX9_leaving_2 : decode cX9_leaving 2 = .ok (.lconst 0, 1) := by decide +kernel
theorem dX9_leaving_3 : decode cX9_leaving 3 = .ok (.aload_n 0, 1) := by decide +kernel
theorem dX9_leaving_4 : decode cX9_leaving 4 = .ok (.getfield 263, 3) := by decide +kernel
theorem dX9_leaving_7 : decode cX9_leaving 7 = .ok (.iconst 1, 1) := by decide +kernel
theorem dX9_leaving_8 : decode cX9_leaving 8 = .ok (.isub, 1) := by decide +kernel
theorem dX9_leaving_9 : decode cX9_leaving 9 = .ok (.i2l, 1) := by decide +kernel
theorem dX9_leaving_10 : decode cX9_leaving 10 = .ok (.invokestatic 98, 3) := by decide +kernel
theorem dX9_leaving_13 : decode cX9_leaving 13 = .ok (.ifCond .eq 12, 3) := by decide +kernel
theorem dX9_leaving_16 : decode cX9_leaving 16 = .ok (.aload_n 0, 1) := by decide +kernel
theorem dX9_leaving_17 : decode cX9_leaving 17 = .ok (.getfield 81, 3) := by decide +kernel
theorem dX9_leaving_20 : decode cX9_leaving 20 = .ok (.iload_n 1, 1) := by decide +kernel
theorem dX9_leaving_21 : decode cX9_leaving 21 = .ok (.laload, 1) := by decide +kernel
theorem dX9_leaving_22 : decode cX9_leaving 22 = .ok (.goto 4, 3) := by decide +kernel
theorem dX9_leaving_25 : decode cX9_leaving 25 = .ok (.lconst 0, 1) := by decide +kernel
theorem dX9_leaving_26 : decode cX9_leaving 26 = .ok (.lreturn, 1) := by decide +kernel
theorem dX9_refuses_0 : decode cX9_refuses 0 = .ok (.aload_n 0, 1) := by decide +kernel
theorem dX9_refuses_1 : decode cX9_refuses 1 = .ok (.iload_n 1, 1) := by decide +kernel
theorem dX9_refuses_2 : decode cX9_refuses 2 = .ok (.putfield 276, 3) := by decide +kernel
theorem dX9_refuses_5 : decode cX9_refuses 5 = .ok (.ldc2_w 244, 3) := by decide +kernel
theorem dX9_refuses_8 : decode cX9_refuses 8 = .ok (.lreturn, 1) := by decide +kernel
theorem dX9_worst_0 : decode cX9_worst 0 = .ok (.iload_n 1, 1) := by decide +kernel
theorem dX9_worst_1 : decode cX9_worst 1 = .ok (.i2l, 1) := by decide +kernel
theorem dX9_worst_2 : decode cX9_worst 2 = .ok (.lconst 1, 1) := by decide +kernel
theorem dX9_worst_3 : decode cX9_worst 3 = .ok (.ldc2_w 279, 3) := by decide +kernel
theorem dX9_worst_6 : decode cX9_worst 6 = .ok (.invokestatic 98, 3) := by decide +kernel
theorem dX9_worst_9 : decode cX9_worst 9 = .ok (.ifCond .eq 18, 3) := by decide +kernel
theorem dX9_worst_12 : decode cX9_worst 12 = .ok (.lload_n 2, 1) := by decide +kernel
theorem dX9_worst_13 : decode cX9_worst 13 = .ok (.invokestatic 167, 3) := by decide +kernel
theorem dX9_worst_16 : decode cX9_worst 16 = .ok (.ifCond .eq 11, 3) := by decide +kernel
theorem dX9_worst_19 : decode cX9_worst 19 = .ok (.lload 4, 2) := by decide +kernel
theorem dX9_worst_21 : decode cX9_worst 21 = .ok (.invokestatic 167, 3) := by decide +kernel
theorem dX9_worst_24 : decode cX9_worst 24 = .ok (.ifCond .ne 10, 3) := by decide +kernel
theorem dX9_worst_27 : decode cX9_worst 27 = .ok (.aload_n 0, 1) := by decide +kernel
theorem dX9_worst_28 : decode cX9_worst 28 = .ok (.bipush (-2), 2) := by decide +kernel
theorem dX9_worst_30 : decode cX9_worst 30 = .ok (.invokevirtual 281, 3) := by decide +kernel
theorem dX9_worst_33 : decode cX9_worst 33 = .ok (.lreturn, 1) := by decide +kernel
theorem dX9_worst_34 : decode cX9_worst 34 = .ok (.aload_n 0, 1) := by decide +kernel
theorem dX9_worst_35 : decode cX9_worst 35 = .ok (.getfield 160, 3) := by decide +kernel
theorem dX9_worst_38 : decode cX9_worst 38 = .ok (.ifCond .eq 10, 3) := by decide +kernel
theorem dX9_worst_41 : decode cX9_worst 41 = .ok (.aload_n 0, 1) := by decide +kernel
theorem dX9_worst_42 : decode cX9_worst 42 = .ok (.getfield 173, 3) := by decide +kernel
theorem dX9_worst_45 : decode cX9_worst 45 = .ok (.ifCond .le 10, 3) := by decide +kernel
theorem dX9_worst_48 : decode cX9_worst 48 = .ok (.aload_n 0, 1) := by decide +kernel
theorem dX9_worst_49 : decode cX9_worst 49 = .ok (.bipush (-7), 2) := by decide +kernel
theorem dX9_worst_51 : decode cX9_worst 51 = .ok (.invokevirtual 281, 3) := by decide +kernel
theorem dX9_worst_54 : decode cX9_worst 54 = .ok (.lreturn, 1) := by decide +kernel
theorem dX9_worst_55 : decode cX9_worst 55 = .ok (.ldc2_w 91, 3) := by decide +kernel
theorem dX9_worst_58 : decode cX9_worst 58 = .ok (.lstore 6, 2) := by decide +kernel
theorem dX9_worst_60 : decode cX9_worst 60 = .ok (.iconst 0, 1) := by decide +kernel
theorem dX9_worst_61 : decode cX9_worst 61 = .ok (.istore 8, 2) := by decide +kernel
theorem dX9_worst_63 : decode cX9_worst 63 = .ok (.iconst 0, 1) := by decide +kernel
theorem dX9_worst_64 : decode cX9_worst 64 = .ok (.istore 9, 2) := by decide +kernel
theorem dX9_worst_66 : decode cX9_worst 66 = .ok (.iload 9, 2) := by decide +kernel
theorem dX9_worst_68 : decode cX9_worst 68 = .ok (.iconst 1, 1) := by decide +kernel
theorem dX9_worst_69 : decode cX9_worst 69 = .ok (.iload_n 1, 1) := by decide +kernel
theorem dX9_worst_70 : decode cX9_worst 70 = .ok (.ishl, 1) := by decide +kernel
theorem dX9_worst_71 : decode cX9_worst 71 = .ok (.if_icmp .ge 112, 3) := by decide +kernel
theorem dX9_worst_74 : decode cX9_worst 74 = .ok (.aload_n 0, 1) := by decide +kernel
theorem dX9_worst_75 : decode cX9_worst 75 = .ok (.invokevirtual 239, 3) := by decide +kernel
theorem dX9_worst_78 : decode cX9_worst 78 = .ok (.iconst 0, 1) := by decide +kernel
theorem dX9_worst_79 : decode cX9_worst 79 = .ok (.istore 10, 2) := by decide +kernel
theorem dX9_worst_81 : decode cX9_worst 81 = .ok (.iload 10, 2) := by decide +kernel
theorem dX9_worst_83 : decode cX9_worst 83 = .ok (.iload_n 1, 1) := by decide +kernel
theorem dX9_worst_84 : decode cX9_worst 84 = .ok (.if_icmp .ge 43, 3) := by decide +kernel
theorem dX9_worst_87 : decode cX9_worst 87 = .ok (.aload_n 0, 1) := by decide +kernel
theorem dX9_worst_88 : decode cX9_worst 88 = .ok (.iload 9, 2) := by decide +kernel
theorem dX9_worst_90 : decode cX9_worst 90 = .ok (.iload_n 1, 1) := by decide +kernel
theorem dX9_worst_91 : decode cX9_worst 91 = .ok (.iconst 1, 1) := by decide +kernel
theorem dX9_worst_92 : decode cX9_worst 92 = .ok (.isub, 1) := by decide +kernel
theorem dX9_worst_93 : decode cX9_worst 93 = .ok (.iload 10, 2) := by decide +kernel
theorem dX9_worst_95 : decode cX9_worst 95 = .ok (.isub, 1) := by decide +kernel
theorem dX9_worst_96 : decode cX9_worst 96 = .ok (.ishr, 1) := by decide +kernel
theorem dX9_worst_97 : decode cX9_worst 97 = .ok (.iconst 1, 1) := by decide +kernel
theorem dX9_worst_98 : decode cX9_worst 98 = .ok (.iand, 1) := by decide +kernel
theorem dX9_worst_99 : decode cX9_worst 99 = .ok (.ifCond .ne 7, 3) := by decide +kernel
theorem dX9_worst_102 : decode cX9_worst 102 = .ok (.lload_n 2, 1) := by decide +kernel
theorem dX9_worst_103 : decode cX9_worst 103 = .ok (.goto 5, 3) := by decide +kernel
theorem dX9_worst_106 : decode cX9_worst 106 = .ok (.lload 4, 2) := by decide +kernel
theorem dX9_worst_108 : decode cX9_worst 108 = .ok (.invokevirtual 225, 3) := by decide +kernel
theorem dX9_worst_111 : decode cX9_worst 111 = .ok (.ifCond .ne 10, 3) := by decide +kernel
theorem dX9_worst_114 : decode cX9_worst 114 = .ok (.aload_n 0, 1) := by decide +kernel
theorem dX9_worst_115 : decode cX9_worst 115 = .ok (.bipush (-6), 2) := by decide +kernel
theorem dX9_worst_117 : decode cX9_worst 117 = .ok (.invokevirtual 281, 3) := by decide +kernel
theorem dX9_worst_120 : decode cX9_worst 120 = .ok (.lreturn, 1) := by decide +kernel
theorem dX9_worst_121 : decode cX9_worst 121 = .ok (.iinc 10 1, 3) := by decide +kernel
theorem dX9_worst_124 : decode cX9_worst 124 = .ok (.goto (-43), 3) := by decide +kernel
theorem dX9_worst_127 : decode cX9_worst 127 = .ok (.aload_n 0, 1) := by decide +kernel
theorem dX9_worst_128 : decode cX9_worst 128 = .ok (.getfield 51, 3) := by decide +kernel
theorem dX9_worst_131 : decode cX9_worst 131 = .ok (.bipush 6, 2) := by decide +kernel
theorem dX9_worst_133 : decode cX9_worst 133 = .ok (.aload_n 0, 1) := by decide +kernel
theorem dX9_worst_134 : decode cX9_worst 134 = .ok (.getfield 160, 3) := by decide +kernel
theorem dX9_worst_137 : decode cX9_worst 137 = .ok (.imul, 1) := by decide +kernel
theorem dX9_worst_138 : decode cX9_worst 138 = .ok (.bipush 6, 2) := by decide +kernel
theorem dX9_worst_140 : decode cX9_worst 140 = .ok (.isub, 1) := by decide +kernel
theorem dX9_worst_141 : decode cX9_worst 141 = .ok (.laload, 1) := by decide +kernel
theorem dX9_worst_142 : decode cX9_worst 142 = .ok (.lstore 10, 2) := by decide +kernel
theorem dX9_worst_144 : decode cX9_worst 144 = .ok (.lload 10, 2) := by decide +kernel
theorem dX9_worst_146 : decode cX9_worst 146 = .ok (.lconst 0, 1) := by decide +kernel
theorem dX9_worst_147 : decode cX9_worst 147 = .ok (.lcmp, 1) := by decide +kernel
theorem dX9_worst_148 : decode cX9_worst 148 = .ok (.ifCond .ge 9, 3) := by decide +kernel
theorem dX9_worst_151 : decode cX9_worst 151 = .ok (.lload 10, 2) := by decide +kernel
theorem dX9_worst_153 : decode cX9_worst 153 = .ok (.lneg, 1) := by decide +kernel
theorem dX9_worst_154 : decode cX9_worst 154 = .ok (.goto 5, 3) := by decide +kernel
theorem dX9_worst_157 : decode cX9_worst 157 = .ok (.lload 10, 2) := by decide +kernel
theorem dX9_worst_159 : decode cX9_worst 159 = .ok (.lstore 12, 2) := by decide +kernel
theorem dX9_worst_161 : decode cX9_worst 161 = .ok (.lload 12, 2) := by decide +kernel
theorem dX9_worst_163 : decode cX9_worst 163 = .ok (.lload 6, 2) := by decide +kernel
theorem dX9_worst_165 : decode cX9_worst 165 = .ok (.lcmp, 1) := by decide +kernel
theorem dX9_worst_166 : decode cX9_worst 166 = .ok (.ifCond .le 11, 3) := by decide +kernel
theorem dX9_worst_169 : decode cX9_worst 169 = .ok (.lload 12, 2) := by decide +kernel
theorem dX9_worst_171 : decode cX9_worst 171 = .ok (.lstore 6, 2) := by decide +kernel
theorem dX9_worst_173 : decode cX9_worst 173 = .ok (.iload 9, 2) := by decide +kernel
theorem dX9_worst_175 : decode cX9_worst 175 = .ok (.istore 8, 2) := by decide +kernel
theorem dX9_worst_177 : decode cX9_worst 177 = .ok (.iinc 9 1, 3) := by decide +kernel
theorem dX9_worst_180 : decode cX9_worst 180 = .ok (.goto (-114), 3) := by decide +kernel
theorem dX9_worst_183 : decode cX9_worst 183 = .ok (.aload_n 0, 1) := by decide +kernel
theorem dX9_worst_184 : decode cX9_worst 184 = .ok (.iconst 0, 1) := by decide +kernel
theorem dX9_worst_185 : decode cX9_worst 185 = .ok (.putfield 276, 3) := by decide +kernel
theorem dX9_worst_188 : decode cX9_worst 188 = .ok (.aload_n 0, 1) := by decide +kernel
theorem dX9_worst_189 : decode cX9_worst 189 = .ok (.iload_n 1, 1) := by decide +kernel
theorem dX9_worst_190 : decode cX9_worst 190 = .ok (.putfield 285, 3) := by decide +kernel
theorem dX9_worst_193 : decode cX9_worst 193 = .ok (.iconst 0, 1) := by decide +kernel
theorem dX9_worst_194 : decode cX9_worst 194 = .ok (.istore 9, 2) := by decide +kernel
theorem dX9_worst_196 : decode cX9_worst 196 = .ok (.iload 9, 2) := by decide +kernel
theorem dX9_worst_198 : decode cX9_worst 198 = .ok (.iload_n 1, 1) := by decide +kernel
theorem dX9_worst_199 : decode cX9_worst 199 = .ok (.if_icmp .ge 36, 3) := by decide +kernel
theorem dX9_worst_202 : decode cX9_worst 202 = .ok (.aload_n 0, 1) := by decide +kernel
theorem dX9_worst_203 : decode cX9_worst 203 = .ok (.getfield 84, 3) := by decide +kernel
theorem dX9_worst_206 : decode cX9_worst 206 = .ok (.iload 9, 2) := by decide +kernel
theorem dX9_worst_208 : decode cX9_worst 208 = .ok (.iload 8, 2) := by decide +kernel
theorem dX9_worst_210 : decode cX9_worst 210 = .ok (.iload_n 1, 1) := by decide +kernel
theorem dX9_worst_211 : decode cX9_worst 211 = .ok (.iconst 1, 1) := by decide +kernel
theorem dX9_worst_212 : decode cX9_worst 212 = .ok (.isub, 1) := by decide +kernel
theorem dX9_worst_213 : decode cX9_worst 213 = .ok (.iload 9, 2) := by decide +kernel
theorem dX9_worst_215 : decode cX9_worst 215 = .ok (.isub, 1) := by decide +kernel
theorem dX9_worst_216 : decode cX9_worst 216 = .ok (.ishr, 1) := by decide +kernel
theorem dX9_worst_217 : decode cX9_worst 217 = .ok (.iconst 1, 1) := by decide +kernel
theorem dX9_worst_218 : decode cX9_worst 218 = .ok (.iand, 1) := by decide +kernel
theorem dX9_worst_219 : decode cX9_worst 219 = .ok (.ifCond .ne 7, 3) := by decide +kernel
theorem dX9_worst_222 : decode cX9_worst 222 = .ok (.lload_n 2, 1) := by decide +kernel
theorem dX9_worst_223 : decode cX9_worst 223 = .ok (.goto 5, 3) := by decide +kernel
theorem dX9_worst_226 : decode cX9_worst 226 = .ok (.lload 4, 2) := by decide +kernel
theorem dX9_worst_228 : decode cX9_worst 228 = .ok (.lastore, 1) := by decide +kernel
theorem dX9_worst_229 : decode cX9_worst 229 = .ok (.iinc 9 1, 3) := by decide +kernel
theorem dX9_worst_232 : decode cX9_worst 232 = .ok (.goto (-36), 3) := by decide +kernel
theorem dX9_worst_235 : decode cX9_worst 235 = .ok (.lload 6, 2) := by decide +kernel
theorem dX9_worst_237 : decode cX9_worst 237 = .ok (.lreturn, 1) := by decide +kernel
theorem dX9_worstAt_0 : decode cX9_worstAt 0 = .ok (.iload_n 1, 1) := by decide +kernel
theorem dX9_worstAt_1 : decode cX9_worstAt 1 = .ok (.i2l, 1) := by decide +kernel
theorem dX9_worstAt_2 : decode cX9_worstAt 2 = .ok (.lconst 0, 1) := by decide +kernel
theorem dX9_worstAt_3 : decode cX9_worstAt 3 = .ok (.aload_n 0, 1) := by decide +kernel
theorem dX9_worstAt_4 : decode cX9_worstAt 4 = .ok (.getfield 285, 3) := by decide +kernel
theorem dX9_worstAt_7 : decode cX9_worstAt 7 = .ok (.iconst 1, 1) := by decide +kernel
theorem dX9_worstAt_8 : decode cX9_worstAt 8 = .ok (.isub, 1) := by decide +kernel
theorem dX9_worstAt_9 : decode cX9_worstAt 9 = .ok (.i2l, 1) := by decide +kernel
theorem dX9_worstAt_10 : decode cX9_worstAt 10 = .ok (.invokestatic 98, 3) := by decide +kernel
theorem dX9_worstAt_13 : decode cX9_worstAt 13 = .ok (.ifCond .eq 12, 3) := by decide +kernel
theorem dX9_worstAt_16 : decode cX9_worstAt 16 = .ok (.aload_n 0, 1) := by decide +kernel
theorem dX9_worstAt_17 : decode cX9_worstAt 17 = .ok (.getfield 84, 3) := by decide +kernel
theorem dX9_worstAt_20 : decode cX9_worstAt 20 = .ok (.iload_n 1, 1) := by decide +kernel
theorem dX9_worstAt_21 : decode cX9_worstAt 21 = .ok (.laload, 1) := by decide +kernel
theorem dX9_worstAt_22 : decode cX9_worstAt 22 = .ok (.goto 4, 3) := by decide +kernel
theorem dX9_worstAt_25 : decode cX9_worstAt 25 = .ok (.lconst 0, 1) := by decide +kernel
theorem dX9_worstAt_26 : decode cX9_worstAt 26 = .ok (.lreturn, 1) := by decide +kernel
theorem dX9_count_0 : decode cX9_count 0 = .ok (.iload_n 1, 1) := by decide +kernel
theorem dX9_count_1 : decode cX9_count 1 = .ok (.tableswitch 69 0 5 #[39, 44, 49, 54, 59, 64], 39) := by decide +kernel
theorem dX9_count_40 : decode cX9_count 40 = .ok (.aload_n 0, 1) := by decide +kernel
theorem dX9_count_41 : decode cX9_count 41 = .ok (.getfield 160, 3) := by decide +kernel
theorem dX9_count_44 : decode cX9_count 44 = .ok (.ireturn, 1) := by decide +kernel
theorem dX9_count_45 : decode cX9_count 45 = .ok (.aload_n 0, 1) := by decide +kernel
theorem dX9_count_46 : decode cX9_count 46 = .ok (.getfield 87, 3) := by decide +kernel
theorem dX9_count_49 : decode cX9_count 49 = .ok (.ireturn, 1) := by decide +kernel
theorem dX9_count_50 : decode cX9_count 50 = .ok (.aload_n 0, 1) := by decide +kernel
theorem dX9_count_51 : decode cX9_count 51 = .ok (.getfield 129, 3) := by decide +kernel
theorem dX9_count_54 : decode cX9_count 54 = .ok (.ireturn, 1) := by decide +kernel
theorem dX9_count_55 : decode cX9_count 55 = .ok (.aload_n 0, 1) := by decide +kernel
theorem dX9_count_56 : decode cX9_count 56 = .ok (.getfield 231, 3) := by decide +kernel
theorem dX9_count_59 : decode cX9_count 59 = .ok (.ireturn, 1) := by decide +kernel
theorem dX9_count_60 : decode cX9_count 60 = .ok (.aload_n 0, 1) := by decide +kernel
theorem dX9_count_61 : decode cX9_count 61 = .ok (.getfield 93, 3) := by decide +kernel
theorem dX9_count_64 : decode cX9_count 64 = .ok (.ireturn, 1) := by decide +kernel
theorem dX9_count_65 : decode cX9_count 65 = .ok (.aload_n 0, 1) := by decide +kernel
theorem dX9_count_66 : decode cX9_count 66 = .ok (.getfield 276, 3) := by decide +kernel
theorem dX9_count_69 : decode cX9_count 69 = .ok (.ireturn, 1) := by decide +kernel
theorem dX9_count_70 : decode cX9_count 70 = .ok (.bipush (-2), 2) := by decide +kernel
theorem dX9_count_72 : decode cX9_count 72 = .ok (.ireturn, 1) := by decide +kernel
theorem dX9_digest_0 : decode cX9_digest 0 = .ok (.ldc2_w 288, 3) := by decide +kernel
theorem dX9_digest_3 : decode cX9_digest 3 = .ok (.lstore_n 1, 1) := by decide +kernel
theorem dX9_digest_4 : decode cX9_digest 4 = .ok (.iconst 0, 1) := by decide +kernel
theorem dX9_digest_5 : decode cX9_digest 5 = .ok (.istore_n 3, 1) := by decide +kernel
theorem dX9_digest_6 : decode cX9_digest 6 = .ok (.iload_n 3, 1) := by decide +kernel
theorem dX9_digest_7 : decode cX9_digest 7 = .ok (.aload_n 0, 1) := by decide +kernel
theorem dX9_digest_8 : decode cX9_digest 8 = .ok (.getfield 160, 3) := by decide +kernel
theorem dX9_digest_11 : decode cX9_digest 11 = .ok (.if_icmp .ge 39, 3) := by decide +kernel
theorem dX9_digest_14 : decode cX9_digest 14 = .ok (.iconst 0, 1) := by decide +kernel
theorem dX9_digest_15 : decode cX9_digest 15 = .ok (.istore 4, 2) := by decide +kernel
theorem dX9_digest_17 : decode cX9_digest 17 = .ok (.iload 4, 2) := by decide +kernel
theorem dX9_digest_19 : decode cX9_digest 19 = .ok (.bipush 7, 2) := by decide +kernel
theorem dX9_digest_21 : decode cX9_digest 21 = .ok (.if_icmp .ge 23, 3) := by decide +kernel
theorem dX9_digest_24 : decode cX9_digest 24 = .ok (.ldc2_w 290, 3) := by decide +kernel
theorem dX9_digest_27 : decode cX9_digest 27 = .ok (.lload_n 1, 1) := by decide +kernel
theorem dX9_digest_28 : decode cX9_digest 28 = .ok (.lmul, 1) := by decide +kernel
theorem dX9_digest_29 : decode cX9_digest 29 = .ok (.aload_n 0, 1) := by decide +kernel
theorem dX9_digest_30 : decode cX9_digest 30 = .ok (.iload_n 3, 1) := by decide +kernel
theorem dX9_digest_31 : decode cX9_digest 31 = .ok (.iload 4, 2) := by decide +kernel
theorem dX9_digest_33 : decode cX9_digest 33 = .ok (.invokevirtual 292, 3) := by decide +kernel
theorem dX9_digest_36 : decode cX9_digest 36 = .ok (.ladd, 1) := by decide +kernel
theorem dX9_digest_37 : decode cX9_digest 37 = .ok (.lstore_n 1, 1) := by decide +kernel
theorem dX9_digest_38 : decode cX9_digest 38 = .ok (.iinc 4 1, 3) := by decide +kernel
theorem dX9_digest_41 : decode cX9_digest 41 = .ok (.goto (-24), 3) := by decide +kernel
theorem dX9_digest_44 : decode cX9_digest 44 = .ok (.iinc 3 1, 3) := by decide +kernel
theorem dX9_digest_47 : decode cX9_digest 47 = .ok (.goto (-41), 3) := by decide +kernel
theorem dX9_digest_50 : decode cX9_digest 50 = .ok (.iconst 0, 1) := by decide +kernel
theorem dX9_digest_51 : decode cX9_digest 51 = .ok (.istore_n 3, 1) := by decide +kernel
theorem dX9_digest_52 : decode cX9_digest 52 = .ok (.iload_n 3, 1) := by decide +kernel
theorem dX9_digest_53 : decode cX9_digest 53 = .ok (.aload_n 0, 1) := by decide +kernel
theorem dX9_digest_54 : decode cX9_digest 54 = .ok (.getfield 87, 3) := by decide +kernel
theorem dX9_digest_57 : decode cX9_digest 57 = .ok (.if_icmp .ge 22, 3) := by decide +kernel
theorem dX9_digest_60 : decode cX9_digest 60 = .ok (.ldc2_w 290, 3) := by decide +kernel
theorem dX9_digest_63 : decode cX9_digest 63 = .ok (.lload_n 1, 1) := by decide +kernel
theorem dX9_digest_64 : decode cX9_digest 64 = .ok (.lmul, 1) := by decide +kernel
theorem dX9_digest_65 : decode cX9_digest 65 = .ok (.aload_n 0, 1) := by decide +kernel
theorem dX9_digest_66 : decode cX9_digest 66 = .ok (.getfield 36, 3) := by decide +kernel
theorem dX9_digest_69 : decode cX9_digest 69 = .ok (.iload_n 3, 1) := by decide +kernel
theorem dX9_digest_70 : decode cX9_digest 70 = .ok (.laload, 1) := by decide +kernel
theorem dX9_digest_71 : decode cX9_digest 71 = .ok (.ladd, 1) := by decide +kernel
theorem dX9_digest_72 : decode cX9_digest 72 = .ok (.lstore_n 1, 1) := by decide +kernel
theorem dX9_digest_73 : decode cX9_digest 73 = .ok (.iinc 3 1, 3) := by decide +kernel
theorem dX9_digest_76 : decode cX9_digest 76 = .ok (.goto (-24), 3) := by decide +kernel
theorem dX9_digest_79 : decode cX9_digest 79 = .ok (.ldc2_w 290, 3) := by decide +kernel
theorem dX9_digest_82 : decode cX9_digest 82 = .ok (.lload_n 1, 1) := by decide +kernel
theorem dX9_digest_83 : decode cX9_digest 83 = .ok (.lmul, 1) := by decide +kernel
theorem dX9_digest_84 : decode cX9_digest 84 = .ok (.aload_n 0, 1) := by decide +kernel
theorem dX9_digest_85 : decode cX9_digest 85 = .ok (.getfield 180, 3) := by decide +kernel
theorem dX9_digest_88 : decode cX9_digest 88 = .ok (.ladd, 1) := by decide +kernel
theorem dX9_digest_89 : decode cX9_digest 89 = .ok (.lstore_n 1, 1) := by decide +kernel
theorem dX9_digest_90 : decode cX9_digest 90 = .ok (.iconst 0, 1) := by decide +kernel
theorem dX9_digest_91 : decode cX9_digest 91 = .ok (.istore_n 3, 1) := by decide +kernel
theorem dX9_digest_92 : decode cX9_digest 92 = .ok (.iload_n 3, 1) := by decide +kernel
theorem dX9_digest_93 : decode cX9_digest 93 = .ok (.aload_n 0, 1) := by decide +kernel
theorem dX9_digest_94 : decode cX9_digest 94 = .ok (.getfield 129, 3) := by decide +kernel
theorem dX9_digest_97 : decode cX9_digest 97 = .ok (.if_icmp .ge 43, 3) := by decide +kernel
theorem dX9_digest_100 : decode cX9_digest 100 = .ok (.ldc2_w 290, 3) := by decide +kernel
theorem dX9_digest_103 : decode cX9_digest 103 = .ok (.lload_n 1, 1) := by decide +kernel
theorem dX9_digest_104 : decode cX9_digest 104 = .ok (.lmul, 1) := by decide +kernel
theorem dX9_digest_105 : decode cX9_digest 105 = .ok (.aload_n 0, 1) := by decide +kernel
theorem dX9_digest_106 : decode cX9_digest 106 = .ok (.getfield 45, 3) := by decide +kernel
theorem dX9_digest_109 : decode cX9_digest 109 = .ok (.bipush 7, 2) := by decide +kernel
theorem dX9_digest_111 : decode cX9_digest 111 = .ok (.iload_n 3, 1) := by decide +kernel
theorem dX9_digest_112 : decode cX9_digest 112 = .ok (.imul, 1) := by decide +kernel
theorem dX9_digest_113 : decode cX9_digest 113 = .ok (.laload, 1) := by decide +kernel
theorem dX9_digest_114 : decode cX9_digest 114 = .ok (.ladd, 1) := by decide +kernel
theorem dX9_digest_115 : decode cX9_digest 115 = .ok (.lstore_n 1, 1) := by decide +kernel
theorem dX9_digest_116 : decode cX9_digest 116 = .ok (.ldc2_w 290, 3) := by decide +kernel
theorem dX9_digest_119 : decode cX9_digest 119 = .ok (.lload_n 1, 1) := by decide +kernel
theorem dX9_digest_120 : decode cX9_digest 120 = .ok (.lmul, 1) := by decide +kernel
theorem dX9_digest_121 : decode cX9_digest 121 = .ok (.aload_n 0, 1) := by decide +kernel
theorem dX9_digest_122 : decode cX9_digest 122 = .ok (.getfield 45, 3) := by decide +kernel
theorem dX9_digest_125 : decode cX9_digest 125 = .ok (.bipush 7, 2) := by decide +kernel
theorem dX9_digest_127 : decode cX9_digest 127 = .ok (.iload_n 3, 1) := by decide +kernel
theorem dX9_digest_128 : decode cX9_digest 128 = .ok (.imul, 1) := by decide +kernel
theorem dX9_digest_129 : decode cX9_digest 129 = .ok (.iconst 1, 1) := by decide +kernel
theorem dX9_digest_130 : decode cX9_digest 130 = .ok (.iadd, 1) := by decide +kernel
theorem dX9_digest_131 : decode cX9_digest 131 = .ok (.laload, 1) := by decide +kernel
theorem dX9_digest_132 : decode cX9_digest 132 = .ok (.ladd, 1) := by decide +kernel
theorem dX9_digest_133 : decode cX9_digest 133 = .ok (.lstore_n 1, 1) := by decide +kernel
theorem dX9_digest_134 : decode cX9_digest 134 = .ok (.iinc 3 1, 3) := by decide +kernel
theorem dX9_digest_137 : decode cX9_digest 137 = .ok (.goto (-45), 3) := by decide +kernel
theorem dX9_digest_140 : decode cX9_digest 140 = .ok (.lload_n 1, 1) := by decide +kernel
theorem dX9_digest_141 : decode cX9_digest 141 = .ok (.lreturn, 1) := by decide +kernel
theorem dJ6_numberOfTrailingZeros_0f7a4_0 : decode cJ6_numberOfTrailingZeros_0f7a4 0 = .ok (.iload_n 0, 1) := by decide +kernel
theorem dJ6_numberOfTrailingZeros_0f7a4_1 : decode cJ6_numberOfTrailingZeros_0f7a4 1 = .ok (.iconst (-1), 1) := by decide +kernel
theorem dJ6_numberOfTrailingZeros_0f7a4_2 : decode cJ6_numberOfTrailingZeros_0f7a4 2 = .ok (.ixor, 1) := by decide +kernel
theorem dJ6_numberOfTrailingZeros_0f7a4_3 : decode cJ6_numberOfTrailingZeros_0f7a4 3 = .ok (.iload_n 0, 1) := by decide +kernel
theorem dJ6_numberOfTrailingZeros_0f7a4_4 : decode cJ6_numberOfTrailingZeros_0f7a4 4 = .ok (.iconst 1, 1) := by decide +kernel
theorem dJ6_numberOfTrailingZeros_0f7a4_5 : decode cJ6_numberOfTrailingZeros_0f7a4 5 = .ok (.isub, 1) := by decide +kernel
theorem dJ6_numberOfTrailingZeros_0f7a4_6 : decode cJ6_numberOfTrailingZeros_0f7a4 6 = .ok (.iand, 1) := by decide +kernel
theorem dJ6_numberOfTrailingZeros_0f7a4_7 : decode cJ6_numberOfTrailingZeros_0f7a4 7 = .ok (.istore_n 0, 1) := by decide +kernel
theorem dJ6_numberOfTrailingZeros_0f7a4_8 : decode cJ6_numberOfTrailingZeros_0f7a4 8 = .ok (.iload_n 0, 1) := by decide +kernel
theorem dJ6_numberOfTrailingZeros_0f7a4_9 : decode cJ6_numberOfTrailingZeros_0f7a4 9 = .ok (.ifCond .gt 8, 3) := by decide +kernel
theorem dJ6_numberOfTrailingZeros_0f7a4_12 : decode cJ6_numberOfTrailingZeros_0f7a4 12 = .ok (.iload_n 0, 1) := by decide +kernel
theorem dJ6_numberOfTrailingZeros_0f7a4_13 : decode cJ6_numberOfTrailingZeros_0f7a4 13 = .ok (.bipush 32, 2) := by decide +kernel
theorem dJ6_numberOfTrailingZeros_0f7a4_15 : decode cJ6_numberOfTrailingZeros_0f7a4 15 = .ok (.iand, 1) := by decide +kernel
theorem dJ6_numberOfTrailingZeros_0f7a4_16 : decode cJ6_numberOfTrailingZeros_0f7a4 16 = .ok (.ireturn, 1) := by decide +kernel
theorem dJ6_numberOfTrailingZeros_0f7a4_17 : decode cJ6_numberOfTrailingZeros_0f7a4 17 = .ok (.iconst 1, 1) := by decide +kernel
theorem dJ6_numberOfTrailingZeros_0f7a4_18 : decode cJ6_numberOfTrailingZeros_0f7a4 18 = .ok (.istore_n 1, 1) := by decide +kernel
theorem dJ6_numberOfTrailingZeros_0f7a4_19 : decode cJ6_numberOfTrailingZeros_0f7a4 19 = .ok (.iload_n 0, 1) := by decide +kernel
theorem dJ6_numberOfTrailingZeros_0f7a4_20 : decode cJ6_numberOfTrailingZeros_0f7a4 20 = .ok (.ldc_w 264, 3) := by decide +kernel
theorem dJ6_numberOfTrailingZeros_0f7a4_23 : decode cJ6_numberOfTrailingZeros_0f7a4 23 = .ok (.if_icmp .le 11, 3) := by decide +kernel
theorem dJ6_numberOfTrailingZeros_0f7a4_26 : decode cJ6_numberOfTrailingZeros_0f7a4 26 = .ok (.iinc 1 16, 3) := by decide +kernel
theorem dJ6_numberOfTrailingZeros_0f7a4_29 : decode cJ6_numberOfTrailingZeros_0f7a4 29 = .ok (.iload_n 0, 1) := by decide +kernel
theorem dJ6_numberOfTrailingZeros_0f7a4_30 : decode cJ6_numberOfTrailingZeros_0f7a4 30 = .ok (.bipush 16, 2) := by decide +kernel
theorem dJ6_numberOfTrailingZeros_0f7a4_32 : decode cJ6_numberOfTrailingZeros_0f7a4 32 = .ok (.iushr, 1) := by decide +kernel
theorem dJ6_numberOfTrailingZeros_0f7a4_33 : decode cJ6_numberOfTrailingZeros_0f7a4 33 = .ok (.istore_n 0, 1) := by decide +kernel
theorem dJ6_numberOfTrailingZeros_0f7a4_34 : decode cJ6_numberOfTrailingZeros_0f7a4 34 = .ok (.iload_n 0, 1) := by decide +kernel
theorem dJ6_numberOfTrailingZeros_0f7a4_35 : decode cJ6_numberOfTrailingZeros_0f7a4 35 = .ok (.sipush 256, 3) := by decide +kernel
theorem dJ6_numberOfTrailingZeros_0f7a4_38 : decode cJ6_numberOfTrailingZeros_0f7a4 38 = .ok (.if_icmp .le 11, 3) := by decide +kernel
theorem dJ6_numberOfTrailingZeros_0f7a4_41 : decode cJ6_numberOfTrailingZeros_0f7a4 41 = .ok (.iinc 1 8, 3) := by decide +kernel
theorem dJ6_numberOfTrailingZeros_0f7a4_44 : decode cJ6_numberOfTrailingZeros_0f7a4 44 = .ok (.iload_n 0, 1) := by decide +kernel
theorem dJ6_numberOfTrailingZeros_0f7a4_45 : decode cJ6_numberOfTrailingZeros_0f7a4 45 = .ok (.bipush 8, 2) := by decide +kernel
theorem dJ6_numberOfTrailingZeros_0f7a4_47 : decode cJ6_numberOfTrailingZeros_0f7a4 47 = .ok (.iushr, 1) := by decide +kernel
theorem dJ6_numberOfTrailingZeros_0f7a4_48 : decode cJ6_numberOfTrailingZeros_0f7a4 48 = .ok (.istore_n 0, 1) := by decide +kernel
theorem dJ6_numberOfTrailingZeros_0f7a4_49 : decode cJ6_numberOfTrailingZeros_0f7a4 49 = .ok (.iload_n 0, 1) := by decide +kernel
theorem dJ6_numberOfTrailingZeros_0f7a4_50 : decode cJ6_numberOfTrailingZeros_0f7a4 50 = .ok (.bipush 16, 2) := by decide +kernel
theorem dJ6_numberOfTrailingZeros_0f7a4_52 : decode cJ6_numberOfTrailingZeros_0f7a4 52 = .ok (.if_icmp .le 10, 3) := by decide +kernel
theorem dJ6_numberOfTrailingZeros_0f7a4_55 : decode cJ6_numberOfTrailingZeros_0f7a4 55 = .ok (.iinc 1 4, 3) := by decide +kernel
theorem dJ6_numberOfTrailingZeros_0f7a4_58 : decode cJ6_numberOfTrailingZeros_0f7a4 58 = .ok (.iload_n 0, 1) := by decide +kernel
theorem dJ6_numberOfTrailingZeros_0f7a4_59 : decode cJ6_numberOfTrailingZeros_0f7a4 59 = .ok (.iconst 4, 1) := by decide +kernel
theorem dJ6_numberOfTrailingZeros_0f7a4_60 : decode cJ6_numberOfTrailingZeros_0f7a4 60 = .ok (.iushr, 1) := by decide +kernel
theorem dJ6_numberOfTrailingZeros_0f7a4_61 : decode cJ6_numberOfTrailingZeros_0f7a4 61 = .ok (.istore_n 0, 1) := by decide +kernel
theorem dJ6_numberOfTrailingZeros_0f7a4_62 : decode cJ6_numberOfTrailingZeros_0f7a4 62 = .ok (.iload_n 0, 1) := by decide +kernel
theorem dJ6_numberOfTrailingZeros_0f7a4_63 : decode cJ6_numberOfTrailingZeros_0f7a4 63 = .ok (.iconst 4, 1) := by decide +kernel
theorem dJ6_numberOfTrailingZeros_0f7a4_64 : decode cJ6_numberOfTrailingZeros_0f7a4 64 = .ok (.if_icmp .le 10, 3) := by decide +kernel
theorem dJ6_numberOfTrailingZeros_0f7a4_67 : decode cJ6_numberOfTrailingZeros_0f7a4 67 = .ok (.iinc 1 2, 3) := by decide +kernel
theorem dJ6_numberOfTrailingZeros_0f7a4_70 : decode cJ6_numberOfTrailingZeros_0f7a4 70 = .ok (.iload_n 0, 1) := by decide +kernel
theorem dJ6_numberOfTrailingZeros_0f7a4_71 : decode cJ6_numberOfTrailingZeros_0f7a4 71 = .ok (.iconst 2, 1) := by decide +kernel
theorem dJ6_numberOfTrailingZeros_0f7a4_72 : decode cJ6_numberOfTrailingZeros_0f7a4 72 = .ok (.iushr, 1) := by decide +kernel
theorem dJ6_numberOfTrailingZeros_0f7a4_73 : decode cJ6_numberOfTrailingZeros_0f7a4 73 = .ok (.istore_n 0, 1) := by decide +kernel
theorem dJ6_numberOfTrailingZeros_0f7a4_74 : decode cJ6_numberOfTrailingZeros_0f7a4 74 = .ok (.iload_n 1, 1) := by decide +kernel
theorem dJ6_numberOfTrailingZeros_0f7a4_75 : decode cJ6_numberOfTrailingZeros_0f7a4 75 = .ok (.iload_n 0, 1) := by decide +kernel
theorem dJ6_numberOfTrailingZeros_0f7a4_76 : decode cJ6_numberOfTrailingZeros_0f7a4 76 = .ok (.iconst 1, 1) := by decide +kernel
theorem dJ6_numberOfTrailingZeros_0f7a4_77 : decode cJ6_numberOfTrailingZeros_0f7a4 77 = .ok (.iushr, 1) := by decide +kernel
theorem dJ6_numberOfTrailingZeros_0f7a4_78 : decode cJ6_numberOfTrailingZeros_0f7a4 78 = .ok (.iadd, 1) := by decide +kernel
theorem dJ6_numberOfTrailingZeros_0f7a4_79 : decode cJ6_numberOfTrailingZeros_0f7a4 79 = .ok (.ireturn, 1) := by decide +kernel
theorem dJ9_abs_067f4_0 : decode cJ9_abs_067f4 0 = .ok (.lload_n 0, 1) := by decide +kernel
theorem dJ9_abs_067f4_1 : decode cJ9_abs_067f4 1 = .ok (.lconst 0, 1) := by decide +kernel
theorem dJ9_abs_067f4_2 : decode cJ9_abs_067f4 2 = .ok (.lcmp, 1) := by decide +kernel
theorem dJ9_abs_067f4_3 : decode cJ9_abs_067f4 3 = .ok (.ifCond .ge 8, 3) := by decide +kernel
theorem dJ9_abs_067f4_6 : decode cJ9_abs_067f4 6 = .ok (.lload_n 0, 1) := by decide +kernel
theorem dJ9_abs_067f4_7 : decode cJ9_abs_067f4 7 = .ok (.lneg, 1) := by decide +kernel
theorem dJ9_abs_067f4_8 : decode cJ9_abs_067f4 8 = .ok (.goto 4, 3) := by decide +kernel
theorem dJ9_abs_067f4_11 : decode cJ9_abs_067f4 11 = .ok (.lload_n 0, 1) := by decide +kernel
theorem dJ9_abs_067f4_12 : decode cJ9_abs_067f4 12 = .ok (.lreturn, 1) := by decide +kernel
theorem dJ9_max_f86c9_0 : decode cJ9_max_f86c9 0 = .ok (.lload_n 0, 1) := by decide +kernel
theorem dJ9_max_f86c9_1 : decode cJ9_max_f86c9 1 = .ok (.lload_n 2, 1) := by decide +kernel
theorem dJ9_max_f86c9_2 : decode cJ9_max_f86c9 2 = .ok (.lcmp, 1) := by decide +kernel
theorem dJ9_max_f86c9_3 : decode cJ9_max_f86c9 3 = .ok (.ifCond .lt 7, 3) := by decide +kernel
theorem dJ9_max_f86c9_6 : decode cJ9_max_f86c9 6 = .ok (.lload_n 0, 1) := by decide +kernel
theorem dJ9_max_f86c9_7 : decode cJ9_max_f86c9 7 = .ok (.goto 4, 3) := by decide +kernel
theorem dJ9_max_f86c9_10 : decode cJ9_max_f86c9 10 = .ok (.lload_n 2, 1) := by decide +kernel
theorem dJ9_max_f86c9_11 : decode cJ9_max_f86c9 11 = .ok (.lreturn, 1) := by decide +kernel
theorem dJ9_min_f86c9_0 : decode cJ9_min_f86c9 0 = .ok (.lload_n 0, 1) := by decide +kernel
theorem dJ9_min_f86c9_1 : decode cJ9_min_f86c9 1 = .ok (.lload_n 2, 1) := by decide +kernel
theorem dJ9_min_f86c9_2 : decode cJ9_min_f86c9 2 = .ok (.lcmp, 1) := by decide +kernel
theorem dJ9_min_f86c9_3 : decode cJ9_min_f86c9 3 = .ok (.ifCond .gt 7, 3) := by decide +kernel
theorem dJ9_min_f86c9_6 : decode cJ9_min_f86c9 6 = .ok (.lload_n 0, 1) := by decide +kernel
theorem dJ9_min_f86c9_7 : decode cJ9_min_f86c9 7 = .ok (.goto 4, 3) := by decide +kernel
theorem dJ9_min_f86c9_10 : decode cJ9_min_f86c9 10 = .ok (.lload_n 2, 1) := by decide +kernel
theorem dJ9_min_f86c9_11 : decode cJ9_min_f86c9 11 = .ok (.lreturn, 1) := by decide +kernel
theorem dJ7_fill_d0a16_0 : decode cJ7_fill_d0a16 0 = .ok (.iconst 0, 1) := by decide +kernel
theorem dJ7_fill_d0a16_1 : decode cJ7_fill_d0a16 1 = .ok (.istore_n 3, 1) := by decide +kernel
theorem dJ7_fill_d0a16_2 : decode cJ7_fill_d0a16 2 = .ok (.aload_n 0, 1) := by decide +kernel
theorem dJ7_fill_d0a16_3 : decode cJ7_fill_d0a16 3 = .ok (.arraylength, 1) := by decide +kernel
theorem dJ7_fill_d0a16_4 : decode cJ7_fill_d0a16 4 = .ok (.istore 4, 2) := by decide +kernel
theorem dJ7_fill_d0a16_6 : decode cJ7_fill_d0a16 6 = .ok (.iload_n 3, 1) := by decide +kernel
theorem dJ7_fill_d0a16_7 : decode cJ7_fill_d0a16 7 = .ok (.iload 4, 2) := by decide +kernel
theorem dJ7_fill_d0a16_9 : decode cJ7_fill_d0a16 9 = .ok (.if_icmp .ge 13, 3) := by decide +kernel
theorem dJ7_fill_d0a16_12 : decode cJ7_fill_d0a16 12 = .ok (.aload_n 0, 1) := by decide +kernel
theorem dJ7_fill_d0a16_13 : decode cJ7_fill_d0a16 13 = .ok (.iload_n 3, 1) := by decide +kernel
theorem dJ7_fill_d0a16_14 : decode cJ7_fill_d0a16 14 = .ok (.lload_n 1, 1) := by decide +kernel
theorem dJ7_fill_d0a16_15 : decode cJ7_fill_d0a16 15 = .ok (.lastore, 1) := by decide +kernel
theorem dJ7_fill_d0a16_16 : decode cJ7_fill_d0a16 16 = .ok (.iinc 3 1, 3) := by decide +kernel
theorem dJ7_fill_d0a16_19 : decode cJ7_fill_d0a16 19 = .ok (.goto (-13), 3) := by decide +kernel
theorem dJ7_fill_d0a16_22 : decode cJ7_fill_d0a16 22 = .ok (.return_, 1) := by decide +kernel
theorem dJ7_fill_53178_0 : decode cJ7_fill_53178 0 = .ok (.iconst 0, 1) := by decide +kernel
theorem dJ7_fill_53178_1 : decode cJ7_fill_53178 1 = .ok (.istore_n 2, 1) := by decide +kernel
theorem dJ7_fill_53178_2 : decode cJ7_fill_53178 2 = .ok (.aload_n 0, 1) := by decide +kernel
theorem dJ7_fill_53178_3 : decode cJ7_fill_53178 3 = .ok (.arraylength, 1) := by decide +kernel
theorem dJ7_fill_53178_4 : decode cJ7_fill_53178 4 = .ok (.istore_n 3, 1) := by decide +kernel
theorem dJ7_fill_53178_5 : decode cJ7_fill_53178 5 = .ok (.iload_n 2, 1) := by decide +kernel
theorem dJ7_fill_53178_6 : decode cJ7_fill_53178 6 = .ok (.iload_n 3, 1) := by decide +kernel
theorem dJ7_fill_53178_7 : decode cJ7_fill_53178 7 = .ok (.if_icmp .ge 13, 3) := by decide +kernel
theorem dJ7_fill_53178_10 : decode cJ7_fill_53178 10 = .ok (.aload_n 0, 1) := by decide +kernel
theorem dJ7_fill_53178_11 : decode cJ7_fill_53178 11 = .ok (.iload_n 2, 1) := by decide +kernel
theorem dJ7_fill_53178_12 : decode cJ7_fill_53178 12 = .ok (.iload_n 1, 1) := by decide +kernel
theorem dJ7_fill_53178_13 : decode cJ7_fill_53178 13 = .ok (.iastore, 1) := by decide +kernel
theorem dJ7_fill_53178_14 : decode cJ7_fill_53178 14 = .ok (.iinc 2 1, 3) := by decide +kernel
theorem dJ7_fill_53178_17 : decode cJ7_fill_53178 17 = .ok (.goto (-12), 3) := by decide +kernel
theorem dJ7_fill_53178_20 : decode cJ7_fill_53178 20 = .ok (.return_, 1) := by decide +kernel
theorem dL_law_0 : decode cL_law 0 = .ok (.new 7, 3) := by decide +kernel
theorem dL_law_3 : decode cL_law 3 = .ok (.dup, 1) := by decide +kernel
theorem dL_law_4 : decode cL_law 4 = .ok (.invokespecial 9, 3) := by decide +kernel
theorem dL_law_7 : decode cL_law 7 = .ok (.astore_n 1, 1) := by decide +kernel
theorem dL_law_8 : decode cL_law 8 = .ok (.new 10, 3) := by decide +kernel
theorem dL_law_11 : decode cL_law 11 = .ok (.dup, 1) := by decide +kernel
theorem dL_law_12 : decode cL_law 12 = .ok (.invokespecial 12, 3) := by decide +kernel
theorem dL_law_15 : decode cL_law 15 = .ok (.astore_n 2, 1) := by decide +kernel
theorem dL_law_16 : decode cL_law 16 = .ok (.iconst 0, 1) := by decide +kernel
theorem dL_law_17 : decode cL_law 17 = .ok (.istore_n 3, 1) := by decide +kernel
theorem dL_law_18 : decode cL_law 18 = .ok (.iload_n 3, 1) := by decide +kernel
theorem dL_law_19 : decode cL_law 19 = .ok (.aload_n 0, 1) := by decide +kernel
theorem dL_law_20 : decode cL_law 20 = .ok (.arraylength, 1) := by decide +kernel
theorem dL_law_21 : decode cL_law 21 = .ok (.bipush 7, 2) := by decide +kernel
theorem dL_law_23 : decode cL_law 23 = .ok (.isub, 1) := by decide +kernel
theorem dL_law_24 : decode cL_law 24 = .ok (.if_icmp .gt 1581, 3) := by decide +kernel
theorem dL_law_27 : decode cL_law 27 = .ok (.aload_n 0, 1) := by decide +kernel
theorem dL_law_28 : decode cL_law 28 = .ok (.iload_n 3, 1) := by decide +kernel
theorem dL_law_29 : decode cL_law 29 = .ok (.iaload, 1) := by decide +kernel
theorem dL_law_30 : decode cL_law 30 = .ok (.bipush 31, 2) := by decide +kernel
theorem dL_law_32 : decode cL_law 32 = .ok (.iand, 1) := by decide +kernel
theorem dL_law_33 : decode cL_law 33 = .ok (.tableswitch 1566 0 30 #[139, 182, 205, 288, 332, 395, 429, 502, 605, 668, 731, 784, 827, 850, 863, 897, 921, 955, 1028, 1041, 1065, 1098, 1132, 1155, 1218, 1242, 1377, 1401, 1505, 1529, 1552], 139) := by decide +kernel
theorem dL_law_172 : decode cL_law 172 = .ok (.aload_n 1, 1) := by decide +kernel
theorem dL_law_173 : decode cL_law 173 = .ok (.aload_n 0, 1) := by decide +kernel
theorem dL_law_174 : decode cL_law 174 = .ok (.iload_n 3, 1) := by decide +kernel
theorem dL_law_175 : decode cL_law 175 = .ok (.iconst 1, 1) := by decide +kernel
theorem dL_law_176 : decode cL_law 176 = .ok (.iadd, 1) := by decide +kernel
theorem dL_law_177 : decode cL_law 177 = .ok (.iaload, 1) := by decide +kernel
theorem dL_law_178 : decode cL_law 178 = .ok (.aload_n 0, 1) := by decide +kernel
theorem dL_law_179 : decode cL_law 179 = .ok (.iload_n 3, 1) := by decide +kernel
theorem dL_law_180 : decode cL_law 180 = .ok (.iconst 2, 1) := by decide +kernel
theorem dL_law_181 : decode cL_law 181 = .ok (.iadd, 1) := by decide +kernel
theorem dL_law_182 : decode cL_law 182 = .ok (.iaload, 1) := by decide +kernel
theorem dL_law_183 : decode cL_law 183 = .ok (.aload_n 0, 1) := by decide +kernel
theorem dL_law_184 : decode cL_law 184 = .ok (.iload_n 3, 1) := by decide +kernel
theorem dL_law_185 : decode cL_law 185 = .ok (.iconst 3, 1) := by decide +kernel
theorem dL_law_186 : decode cL_law 186 = .ok (.iadd, 1) := by decide +kernel
theorem dL_law_187 : decode cL_law 187 = .ok (.iaload, 1) := by decide +kernel
theorem dL_law_188 : decode cL_law 188 = .ok (.invokevirtual 13, 3) := by decide +kernel
theorem dL_law_191 : decode cL_law 191 = .ok (.aload_n 2, 1) := by decide +kernel
theorem dL_law_192 : decode cL_law 192 = .ok (.aload_n 0, 1) := by decide +kernel
theorem dL_law_193 : decode cL_law 193 = .ok (.iload_n 3, 1) := by decide +kernel
theorem dL_law_194 : decode cL_law 194 = .ok (.iconst 1, 1) := by decide +kernel
theorem dL_law_195 : decode cL_law 195 = .ok (.iadd, 1) := by decide +kernel
theorem dL_law_196 : decode cL_law 196 = .ok (.iaload, 1) := by decide +kernel
theorem dL_law_197 : decode cL_law 197 = .ok (.aload_n 0, 1) := by decide +kernel
theorem dL_law_198 : decode cL_law 198 = .ok (.iload_n 3, 1) := by decide +kernel
theorem dL_law_199 : decode cL_law 199 = .ok (.iconst 2, 1) := by decide +kernel
theorem dL_law_200 : decode cL_law 200 = .ok (.iadd, 1) := by decide +kernel
theorem dL_law_201 : decode cL_law 201 = .ok (.iaload, 1) := by decide +kernel
theorem dL_law_202 : decode cL_law 202 = .ok (.aload_n 0, 1) := by decide +kernel
theorem dL_law_203 : decode cL_law 203 = .ok (.iload_n 3, 1) := by decide +kernel
theorem dL_law_204 : decode cL_law 204 = .ok (.iconst 3, 1) := by decide +kernel
theorem dL_law_205 : decode cL_law 205 = .ok (.iadd, 1) := by decide +kernel
theorem dL_law_206 : decode cL_law 206 = .ok (.iaload, 1) := by decide +kernel
theorem dL_law_207 : decode cL_law 207 = .ok (.invokevirtual 17, 3) := by decide +kernel
theorem dL_law_210 : decode cL_law 210 = .ok (.if_icmp .eq 1389, 3) := by decide +kernel
theorem dL_law_213 : decode cL_law 213 = .ok (.iconst 0, 1) := by decide +kernel
theorem dL_law_214 : decode cL_law 214 = .ok (.ireturn, 1) := by decide +kernel
theorem dL_law_215 : decode cL_law 215 = .ok (.aload_n 1, 1) := by decide +kernel
theorem dL_law_216 : decode cL_law 216 = .ok (.aload_n 0, 1) := by decide +kernel
theorem dL_law_217 : decode cL_law 217 = .ok (.iload_n 3, 1) := by decide +kernel
theorem dL_law_218 : decode cL_law 218 = .ok (.iconst 1, 1) := by decide +kernel
theorem dL_law_219 : decode cL_law 219 = .ok (.iadd, 1) := by decide +kernel
theorem dL_law_220 : decode cL_law 220 = .ok (.iaload, 1) := by decide +kernel
theorem dL_law_221 : decode cL_law 221 = .ok (.invokevirtual 18, 3) := by decide +kernel
theorem dL_law_224 : decode cL_law 224 = .ok (.aload_n 2, 1) := by decide +kernel
theorem dL_law_225 : decode cL_law 225 = .ok (.aload_n 0, 1) := by decide +kernel
theorem dL_law_226 : decode cL_law 226 = .ok (.iload_n 3, 1) := by decide +kernel
theorem dL_law_227 : decode cL_law 227 = .ok (.iconst 1, 1) := by decide +kernel
theorem dL_law_228 : decode cL_law 228 = .ok (.iadd, 1) := by decide +kernel
theorem dL_law_229 : decode cL_law 229 = .ok (.iaload, 1) := by decide +kernel
theorem dL_law_230 : decode cL_law 230 = .ok (.invokevirtual 22, 3) := by decide +kernel
theorem dL_law_233 : decode cL_law 233 = .ok (.if_icmp .eq 1366, 3) := by decide +kernel
theorem dL_law_236 : decode cL_law 236 = .ok (.iconst 0, 1) := by decide +kernel
theorem dL_law_237 : decode cL_law 237 = .ok (.ireturn, 1) := by decide +kernel
theorem dL_law_238 : decode cL_law 238 = .ok (.aload_n 1, 1) := by decide +kernel
theorem dL_law_239 : decode cL_law 239 = .ok (.aload_n 0, 1) := by decide +kernel
theorem dL_law_240 : decode cL_law 240 = .ok (.iload_n 3, 1) := by decide +kernel
theorem dL_law_241 : decode cL_law 241 = .ok (.iconst 1, 1) := by decide +kernel
theorem dL_law_242 : decode cL_law 242 = .ok (.iadd, 1) := by decide +kernel
theorem dL_law_243 : decode cL_law 243 = .ok (.iaload, 1) := by decide +kernel
theorem dL_law_244 : decode cL_law 244 = .ok (.aload_n 0, 1) := by decide +kernel
theorem dL_law_245 : decode cL_law 245 = .ok (.iload_n 3, 1) := by decide +kernel
theorem dL_law_246 : decode cL_law 246 = .ok (.iconst 2, 1) := by decide +kernel
theorem dL_law_247 : decode cL_law 247 = .ok (.iadd, 1) := by decide +kernel
theorem dL_law_248 : decode cL_law 248 = .ok (.iaload, 1) := by decide +kernel
theorem dL_law_249 : decode cL_law 249 = .ok (.aload_n 0, 1) := by decide +kernel
theorem dL_law_250 : decode cL_law 250 = .ok (.iload_n 3, 1) := by decide +kernel
theorem dL_law_251 : decode cL_law 251 = .ok (.iconst 3, 1) := by decide +kernel
theorem dL_law_252 : decode cL_law 252 = .ok (.iadd, 1) := by decide +kernel
theorem dL_law_253 : decode cL_law 253 = .ok (.iaload, 1) := by decide +kernel
theorem dL_law_254 : decode cL_law 254 = .ok (.aload_n 0, 1) := by decide +kernel
theorem dL_law_255 : decode cL_law 255 = .ok (.iload_n 3, 1) := by decide +kernel
theorem dL_law_256 : decode cL_law 256 = .ok (.iconst 4, 1) := by decide +kernel
theorem dL_law_257 : decode cL_law 257 = .ok (.iadd, 1) := by decide +kernel
theorem dL_law_258 : decode cL_law 258 = .ok (.iaload, 1) := by decide +kernel
theorem dL_law_259 : decode cL_law 259 = .ok (.i2l, 1) := by decide +kernel
theorem dL_law_260 : decode cL_law 260 = .ok (.bipush 32, 2) := by decide +kernel
theorem dL_law_262 : decode cL_law 262 = .ok (.lshl, 1) := by decide +kernel
theorem dL_law_263 : decode cL_law 263 = .ok (.aload_n 0, 1) := by decide +kernel
theorem dL_law_264 : decode cL_law 264 = .ok (.iload_n 3, 1) := by decide +kernel
theorem dL_law_265 : decode cL_law 265 = .ok (.iconst 5, 1) := by decide +kernel
theorem dL_law_266 : decode cL_law 266 = .ok (.iadd, 1) := by decide +kernel
theorem dL_law_267 : decode cL_law 267 = .ok (.iaload, 1) := by decide +kernel
theorem dL_law_268 : decode cL_law 268 = .ok (.i2l, 1) := by decide +kernel
theorem dL_law_269 : decode cL_law 269 = .ok (.ldc2_w 23, 3) := by decide +kernel
theorem dL_law_272 : decode cL_law 272 = .ok (.land, 1) := by decide +kernel
theorem dL_law_273 : decode cL_law 273 = .ok (.lor, 1) := by decide +kernel
theorem dL_law_274 : decode cL_law 274 = .ok (.invokevirtual 25, 3) := by decide +kernel
theorem dL_law_277 : decode cL_law 277 = .ok (.aload_n 2, 1) := by decide +kernel
theorem dL_law_278 : decode cL_law 278 = .ok (.aload_n 0, 1) := by decide +kernel
theorem dL_law_279 : decode cL_law 279 = .ok (.iload_n 3, 1) := by decide +kernel
theorem dL_law_280 : decode cL_law 280 = .ok (.iconst 1, 1) := by decide +kernel
theorem dL_law_281 : decode cL_law 281 = .ok (.iadd, 1) := by decide +kernel
theorem dL_law_282 : decode cL_law 282 = .ok (.iaload, 1) := by decide +kernel
theorem dL_law_283 : decode cL_law 283 = .ok (.aload_n 0, 1) := by decide +kernel
theorem dL_law_284 : decode cL_law 284 = .ok (.iload_n 3, 1) := by decide +kernel
theorem dL_law_285 : decode cL_law 285 = .ok (.iconst 2, 1) := by decide +kernel
theorem dL_law_286 : decode cL_law 286 = .ok (.iadd, 1) := by decide +kernel
theorem dL_law_287 : decode cL_law 287 = .ok (.iaload, 1) := by decide +kernel
theorem dL_law_288 : decode cL_law 288 = .ok (.aload_n 0, 1) := by decide +kernel
theorem dL_law_289 : decode cL_law 289 = .ok (.iload_n 3, 1) := by decide +kernel
theorem dL_law_290 : decode cL_law 290 = .ok (.iconst 3, 1) := by decide +kernel
theorem dL_law_291 : decode cL_law 291 = .ok (.iadd, 1) := by decide +kernel
theorem dL_law_292 : decode cL_law 292 = .ok (.iaload, 1) := by decide +kernel
theorem dL_law_293 : decode cL_law 293 = .ok (.aload_n 0, 1) := by decide +kernel
theorem dL_law_294 : decode cL_law 294 = .ok (.iload_n 3, 1) := by decide +kernel
theorem dL_law_295 : decode cL_law 295 = .ok (.iconst 4, 1) := by decide +kernel
theorem dL_law_296 : decode cL_law 296 = .ok (.iadd, 1) := by decide +kernel
theorem dL_law_297 : decode cL_law 297 = .ok (.iaload, 1) := by decide +kernel
theorem dL_law_298 : decode cL_law 298 = .ok (.i2l, 1) := by decide +kernel
theorem dL_law_299 : decode cL_law 299 = .ok (.bipush 32, 2) := by decide +kernel
theorem dL_law_301 : decode cL_law 301 = .ok (.lshl, 1) := by decide +kernel
theorem dL_law_302 : decode cL_law 302 = .ok (.aload_n 0, 1) := by decide +kernel
theorem dL_law_303 : decode cL_law 303 = .ok (.iload_n 3, 1) := by decide +kernel
theorem dL_law_304 : decode cL_law 304 = .ok (.iconst 5, 1) := by decide +kernel
theorem dL_law_305 : decode cL_law 305 = .ok (.iadd, 1) := by decide +kernel
theorem dL_law_306 : decode cL_law 306 = .ok (.iaload, 1) := by decide +kernel
theorem dL_law_307 : decode cL_law 307 = .ok (.i2l, 1) := by decide +kernel
theorem dL_law_308 : decode cL_law 308 = .ok (.ldc2_w 23, 3) := by decide +kernel
theorem dL_law_311 : decode cL_law 311 = .ok (.land, 1) := by decide +kernel
theorem dL_law_312 : decode cL_law 312 = .ok (.lor, 1) := by decide +kernel
theorem dL_law_313 : decode cL_law 313 = .ok (.invokevirtual 29, 3) := by decide +kernel
theorem dL_law_316 : decode cL_law 316 = .ok (.if_icmp .eq 1283, 3) := by decide +kernel
theorem dL_law_319 : decode cL_law 319 = .ok (.iconst 0, 1) := by decide +kernel
theorem dL_law_320 : decode cL_law 320 = .ok (.ireturn, 1) := by decide +kernel
theorem dL_law_321 : decode cL_law 321 = .ok (.aload_n 1, 1) := by decide +kernel
theorem dL_law_322 : decode cL_law 322 = .ok (.aload_n 0, 1) := by decide +kernel
theorem dL_law_323 : decode cL_law 323 = .ok (.iload_n 3, 1) := by decide +kernel
theorem dL_law_324 : decode cL_law 324 = .ok (.iconst 1, 1) := by decide +kernel
theorem dL_law_325 : decode cL_law 325 = .ok (.iadd, 1) := by decide +kernel
theorem dL_law_326 : decode cL_law 326 = .ok (.iaload, 1) := by decide +kernel
theorem dL_law_327 : decode cL_law 327 = .ok (.aload_n 0, 1) := by decide +kernel
theorem dL_law_328 : decode cL_law 328 = .ok (.iload_n 3, 1) := by decide +kernel
theorem dL_law_329 : decode cL_law 329 = .ok (.iconst 2, 1) := by decide +kernel
theorem dL_law_330 : decode cL_law 330 = .ok (.iadd, 1) := by decide +kernel
theorem dL_law_331 : decode cL_law 331 = .ok (.iaload, 1) := by decide +kernel
theorem dL_law_332 : decode cL_law 332 = .ok (.aload_n 0, 1) := by decide +kernel
theorem dL_law_333 : decode cL_law 333 = .ok (.iload_n 3, 1) := by decide +kernel
theorem dL_law_334 : decode cL_law 334 = .ok (.iconst 3, 1) := by decide +kernel
theorem dL_law_335 : decode cL_law 335 = .ok (.iadd, 1) := by decide +kernel
theorem dL_law_336 : decode cL_law 336 = .ok (.iaload, 1) := by decide +kernel
theorem dL_law_337 : decode cL_law 337 = .ok (.invokevirtual 30, 3) := by decide +kernel
theorem dL_law_340 : decode cL_law 340 = .ok (.aload_n 2, 1) := by decide +kernel
theorem dL_law_341 : decode cL_law 341 = .ok (.aload_n 0, 1) := by decide +kernel
theorem dL_law_342 : decode cL_law 342 = .ok (.iload_n 3, 1) := by decide +kernel
theorem dL_law_343 : decode cL_law 343 = .ok (.iconst 1, 1) := by decide +kernel
theorem dL_law_344 : decode cL_law 344 = .ok (.iadd, 1) := by decide +kernel
theorem dL_law_345 : decode cL_law 345 = .ok (.iaload, 1) := by decide +kernel
theorem dL_law_346 : decode cL_law 346 = .ok (.aload_n 0, 1) := by decide +kernel
theorem dL_law_347 : decode cL_law 347 = .ok (.iload_n 3, 1) := by decide +kernel
theorem dL_law_348 : decode cL_law 348 = .ok (.iconst 2, 1) := by decide +kernel
theorem dL_law_349 : decode cL_law 349 = .ok (.iadd, 1) := by decide +kernel
theorem dL_law_350 : decode cL_law 350 = .ok (.iaload, 1) := by decide +kernel
theorem dL_law_351 : decode cL_law 351 = .ok (.aload_n 0, 1) := by decide +kernel
theorem dL_law_352 : decode cL_law 352 = .ok (.iload_n 3, 1) := by decide +kernel
theorem dL_law_353 : decode cL_law 353 = .ok (.iconst 3, 1) := by decide +kernel
theorem dL_law_354 : decode cL_law 354 = .ok (.iadd, 1) := by decide +kernel
theorem dL_law_355 : decode cL_law 355 = .ok (.iaload, 1) := by decide +kernel
theorem dL_law_356 : decode cL_law 356 = .ok (.invokevirtual 34, 3) := by decide +kernel
theorem dL_law_359 : decode cL_law 359 = .ok (.lcmp, 1) := by decide +kernel
theorem dL_law_360 : decode cL_law 360 = .ok (.ifCond .eq 1239, 3) := by decide +kernel
theorem dL_law_363 : decode cL_law 363 = .ok (.iconst 0, 1) := by decide +kernel
theorem dL_law_364 : decode cL_law 364 = .ok (.ireturn, 1) := by decide +kernel
theorem dL_law_365 : decode cL_law 365 = .ok (.aload_n 1, 1) := by decide +kernel
theorem dL_law_366 : decode cL_law 366 = .ok (.aload_n 0, 1) := by decide +kernel
theorem dL_law_367 : decode cL_law 367 = .ok (.iload_n 3, 1) := by decide +kernel
theorem dL_law_368 : decode cL_law 368 = .ok (.iconst 1, 1) := by decide +kernel
theorem dL_law_369 : decode cL_law 369 = .ok (.iadd, 1) := by decide +kernel
theorem dL_law_370 : decode cL_law 370 = .ok (.iaload, 1) := by decide +kernel
theorem dL_law_371 : decode cL_law 371 = .ok (.aload_n 0, 1) := by decide +kernel
theorem dL_law_372 : decode cL_law 372 = .ok (.iload_n 3, 1) := by decide +kernel
theorem dL_law_373 : decode cL_law 373 = .ok (.iconst 2, 1) := by decide +kernel
theorem dL_law_374 : decode cL_law 374 = .ok (.iadd, 1) := by decide +kernel
theorem dL_law_375 : decode cL_law 375 = .ok (.iaload, 1) := by decide +kernel
theorem dL_law_376 : decode cL_law 376 = .ok (.aload_n 0, 1) := by decide +kernel
theorem dL_law_377 : decode cL_law 377 = .ok (.iload_n 3, 1) := by decide +kernel
theorem dL_law_378 : decode cL_law 378 = .ok (.iconst 3, 1) := by decide +kernel
theorem dL_law_379 : decode cL_law 379 = .ok (.iadd, 1) := by decide +kernel
theorem dL_law_380 : decode cL_law 380 = .ok (.iaload, 1) := by decide +kernel
theorem dL_law_381 : decode cL_law 381 = .ok (.aload_n 0, 1) := by decide +kernel
theorem dL_law_382 : decode cL_law 382 = .ok (.iload_n 3, 1) := by decide +kernel
theorem dL_law_383 : decode cL_law 383 = .ok (.iconst 4, 1) := by decide +kernel
theorem dL_law_384 : decode cL_law 384 = .ok (.iadd, 1) := by decide +kernel
theorem dL_law_385 : decode cL_law 385 = .ok (.iaload, 1) := by decide +kernel
theorem dL_law_386 : decode cL_law 386 = .ok (.aload_n 0, 1) := by decide +kernel
theorem dL_law_387 : decode cL_law 387 = .ok (.iload_n 3, 1) := by decide +kernel
theorem dL_law_388 : decode cL_law 388 = .ok (.iconst 5, 1) := by decide +kernel
theorem dL_law_389 : decode cL_law 389 = .ok (.iadd, 1) := by decide +kernel
theorem dL_law_390 : decode cL_law 390 = .ok (.iaload, 1) := by decide +kernel
theorem dL_law_391 : decode cL_law 391 = .ok (.invokevirtual 35, 3) := by decide +kernel
theorem dL_law_394 : decode cL_law 394 = .ok (.aload_n 2, 1) := by decide +kernel
theorem dL_law_395 : decode cL_law 395 = .ok (.aload_n 0, 1) := by decide +kernel
theorem dL_law_396 : decode cL_law 396 = .ok (.iload_n 3, 1) := by decide +kernel
theorem dL_law_397 : decode cL_law 397 = .ok (.iconst 1, 1) := by decide +kernel
theorem dL_law_398 : decode cL_law 398 = .ok (.iadd, 1) := by decide +kernel
theorem dL_law_399 : decode cL_law 399 = .ok (.iaload, 1) := by decide +kernel
theorem dL_law_400 : decode cL_law 400 = .ok (.aload_n 0, 1) := by decide +kernel
theorem dL_law_401 : decode cL_law 401 = .ok (.iload_n 3, 1) := by decide +kernel
theorem dL_law_402 : decode cL_law 402 = .ok (.iconst 2, 1) := by decide +kernel
theorem dL_law_403 : decode cL_law 403 = .ok (.iadd, 1) := by decide +kernel
theorem dL_law_404 : decode cL_law 404 = .ok (.iaload, 1) := by decide +kernel
theorem dL_law_405 : decode cL_law 405 = .ok (.aload_n 0, 1) := by decide +kernel
theorem dL_law_406 : decode cL_law 406 = .ok (.iload_n 3, 1) := by decide +kernel
theorem dL_law_407 : decode cL_law 407 = .ok (.iconst 3, 1) := by decide +kernel
theorem dL_law_408 : decode cL_law 408 = .ok (.iadd, 1) := by decide +kernel
theorem dL_law_409 : decode cL_law 409 = .ok (.iaload, 1) := by decide +kernel
theorem dL_law_410 : decode cL_law 410 = .ok (.aload_n 0, 1) := by decide +kernel
theorem dL_law_411 : decode cL_law 411 = .ok (.iload_n 3, 1) := by decide +kernel
theorem dL_law_412 : decode cL_law 412 = .ok (.iconst 4, 1) := by decide +kernel
theorem dL_law_413 : decode cL_law 413 = .ok (.iadd, 1) := by decide +kernel
theorem dL_law_414 : decode cL_law 414 = .ok (.iaload, 1) := by decide +kernel
theorem dL_law_415 : decode cL_law 415 = .ok (.aload_n 0, 1) := by decide +kernel
theorem dL_law_416 : decode cL_law 416 = .ok (.iload_n 3, 1) := by decide +kernel
theorem dL_law_417 : decode cL_law 417 = .ok (.iconst 5, 1) := by decide +kernel
theorem dL_law_418 : decode cL_law 418 = .ok (.iadd, 1) := by decide +kernel
theorem dL_law_419 : decode cL_law 419 = .ok (.iaload, 1) := by decide +kernel
theorem dL_law_420 : decode cL_law 420 = .ok (.invokevirtual 39, 3) := by decide +kernel
theorem dL_law_423 : decode cL_law 423 = .ok (.if_icmp .eq 1176, 3) := by decide +kernel
theorem dL_law_426 : decode cL_law 426 = .ok (.iconst 0, 1) := by decide +kernel
theorem dL_law_427 : decode cL_law 427 = .ok (.ireturn, 1) := by decide +kernel
theorem dL_law_428 : decode cL_law 428 = .ok (.aload_n 1, 1) := by decide +kernel
theorem dL_law_429 : decode cL_law 429 = .ok (.aload_n 0, 1) := by decide +kernel
theorem dL_law_430 : decode cL_law 430 = .ok (.iload_n 3, 1) := by decide +kernel
theorem dL_law_431 : decode cL_law 431 = .ok (.iconst 1, 1) := by decide +kernel
theorem dL_law_432 : decode cL_law 432 = .ok (.iadd, 1) := by decide +kernel
theorem dL_law_433 : decode cL_law 433 = .ok (.iaload, 1) := by decide +kernel
theorem dL_law_434 : decode cL_law 434 = .ok (.aload_n 0, 1) := by decide +kernel
theorem dL_law_435 : decode cL_law 435 = .ok (.iload_n 3, 1) := by decide +kernel
theorem dL_law_436 : decode cL_law 436 = .ok (.iconst 2, 1) := by decide +kernel
theorem dL_law_437 : decode cL_law 437 = .ok (.iadd, 1) := by decide +kernel
theorem dL_law_438 : decode cL_law 438 = .ok (.iaload, 1) := by decide +kernel
theorem dL_law_439 : decode cL_law 439 = .ok (.invokevirtual 40, 3) := by decide +kernel
theorem dL_law_442 : decode cL_law 442 = .ok (.aload_n 2, 1) := by decide +kernel
theorem dL_law_443 : decode cL_law 443 = .ok (.aload_n 0, 1) := by decide +kernel
theorem dL_law_444 : decode cL_law 444 = .ok (.iload_n 3, 1) := by decide +kernel
theorem dL_law_445 : decode cL_law 445 = .ok (.iconst 1, 1) := by decide +kernel
theorem dL_law_446 : decode cL_law 446 = .ok (.iadd, 1) := by decide +kernel
theorem dL_law_447 : decode cL_law 447 = .ok (.iaload, 1) := by decide +kernel
theorem dL_law_448 : decode cL_law 448 = .ok (.aload_n 0, 1) := by decide +kernel
theorem dL_law_449 : decode cL_law 449 = .ok (.iload_n 3, 1) := by decide +kernel
theorem dL_law_450 : decode cL_law 450 = .ok (.iconst 2, 1) := by decide +kernel
theorem dL_law_451 : decode cL_law 451 = .ok (.iadd, 1) := by decide +kernel
theorem dL_law_452 : decode cL_law 452 = .ok (.iaload, 1) := by decide +kernel
theorem dL_law_453 : decode cL_law 453 = .ok (.invokevirtual 44, 3) := by decide +kernel
theorem dL_law_456 : decode cL_law 456 = .ok (.lcmp, 1) := by decide +kernel
theorem dL_law_457 : decode cL_law 457 = .ok (.ifCond .eq 1142, 3) := by decide +kernel
theorem dL_law_460 : decode cL_law 460 = .ok (.iconst 0, 1) := by decide +kernel
theorem dL_law_461 : decode cL_law 461 = .ok (.ireturn, 1) := by decide +kernel
theorem dL_law_462 : decode cL_law 462 = .ok (.aload_n 1, 1) := by decide +kernel
theorem dL_law_463 : decode cL_law 463 = .ok (.aload_n 0, 1) := by decide +kernel
theorem dL_law_464 : decode cL_law 464 = .ok (.iload_n 3, 1) := by decide +kernel
theorem dL_law_465 : decode cL_law 465 = .ok (.iconst 1, 1) := by decide +kernel
theorem dL_law_466 : decode cL_law 466 = .ok (.iadd, 1) := by decide +kernel
theorem dL_law_467 : decode cL_law 467 = .ok (.iaload, 1) := by decide +kernel
theorem dL_law_468 : decode cL_law 468 = .ok (.aload_n 0, 1) := by decide +kernel
theorem dL_law_469 : decode cL_law 469 = .ok (.iload_n 3, 1) := by decide +kernel
theorem dL_law_470 : decode cL_law 470 = .ok (.iconst 2, 1) := by decide +kernel
theorem dL_law_471 : decode cL_law 471 = .ok (.iadd, 1) := by decide +kernel
theorem dL_law_472 : decode cL_law 472 = .ok (.iaload, 1) := by decide +kernel
theorem dL_law_473 : decode cL_law 473 = .ok (.i2l, 1) := by decide +kernel
theorem dL_law_474 : decode cL_law 474 = .ok (.bipush 32, 2) := by decide +kernel
theorem dL_law_476 : decode cL_law 476 = .ok (.lshl, 1) := by decide +kernel
theorem dL_law_477 : decode cL_law 477 = .ok (.aload_n 0, 1) := by decide +kernel
theorem dL_law_478 : decode cL_law 478 = .ok (.iload_n 3, 1) := by decide +kernel
theorem dL_law_479 : decode cL_law 479 = .ok (.iconst 3, 1) := by decide +kernel
theorem dL_law_480 : decode cL_law 480 = .ok (.iadd, 1) := by decide +kernel
theorem dL_law_481 : decode cL_law 481 = .ok (.iaload, 1) := by decide +kernel
theorem dL_law_482 : decode cL_law 482 = .ok (.i2l, 1) := by decide +kernel
theorem dL_law_483 : decode cL_law 483 = .ok (.ldc2_w 23, 3) := by decide +kernel
theorem dL_law_486 : decode cL_law 486 = .ok (.land, 1) := by decide +kernel
theorem dL_law_487 : decode cL_law 487 = .ok (.lor, 1) := by decide +kernel
theorem dL_law_488 : decode cL_law 488 = .ok (.aload_n 0, 1) := by decide +kernel
theorem dL_law_489 : decode cL_law 489 = .ok (.iload_n 3, 1) := by decide +kernel
theorem dL_law_490 : decode cL_law 490 = .ok (.iconst 4, 1) := by decide +kernel
theorem dL_law_491 : decode cL_law 491 = .ok (.iadd, 1) := by decide +kernel
theorem dL_law_492 : decode cL_law 492 = .ok (.iaload, 1) := by decide +kernel
theorem dL_law_493 : decode cL_law 493 = .ok (.invokevirtual 45, 3) := by decide +kernel
theorem dL_law_496 : decode cL_law 496 = .ok (.aload_n 2, 1) := by decide +kernel
theorem dL_law_497 : decode cL_law 497 = .ok (.aload_n 0, 1) := by decide +kernel
theorem dL_law_498 : decode cL_law 498 = .ok (.iload_n 3, 1) := by decide +kernel
theorem dL_law_499 : decode cL_law 499 = .ok (.iconst 1, 1) := by decide +kernel
theorem dL_law_500 : decode cL_law 500 = .ok (.iadd, 1) := by decide +kernel
theorem dL_law_501 : decode cL_law 501 = .ok (.iaload, 1) := by decide +kernel
theorem dL_law_502 : decode cL_law 502 = .ok (.aload_n 0, 1) := by decide +kernel
theorem dL_law_503 : decode cL_law 503 = .ok (.iload_n 3, 1) := by decide +kernel
theorem dL_law_504 : decode cL_law 504 = .ok (.iconst 2, 1) := by decide +kernel
theorem dL_law_505 : decode cL_law 505 = .ok (.iadd, 1) := by decide +kernel
theorem dL_law_506 : decode cL_law 506 = .ok (.iaload, 1) := by decide +kernel
theorem dL_law_507 : decode cL_law 507 = .ok (.i2l, 1) := by decide +kernel
theorem dL_law_508 : decode cL_law 508 = .ok (.bipush 32, 2) := by decide +kernel
theorem dL_law_510 : decode cL_law 510 = .ok (.lshl, 1) := by decide +kernel
theorem dL_law_511 : decode cL_law 511 = .ok (.aload_n 0, 1) := by decide +kernel
theorem dL_law_512 : decode cL_law 512 = .ok (.iload_n 3, 1) := by decide +kernel
theorem dL_law_513 : decode cL_law 513 = .ok (.iconst 3, 1) := by decide +kernel
theorem dL_law_514 : decode cL_law 514 = .ok (.iadd, 1) := by decide +kernel
theorem dL_law_515 : decode cL_law 515 = .ok (.iaload, 1) := by decide +kernel
theorem dL_law_516 : decode cL_law 516 = .ok (.i2l, 1) := by decide +kernel
theorem dL_law_517 : decode cL_law 517 = .ok (.ldc2_w 23, 3) := by decide +kernel
theorem dL_law_520 : decode cL_law 520 = .ok (.land, 1) := by decide +kernel
theorem dL_law_521 : decode cL_law 521 = .ok (.lor, 1) := by decide +kernel
theorem dL_law_522 : decode cL_law 522 = .ok (.aload_n 0, 1) := by decide +kernel
theorem dL_law_523 : decode cL_law 523 = .ok (.iload_n 3, 1) := by decide +kernel
theorem dL_law_524 : decode cL_law 524 = .ok (.iconst 4, 1) := by decide +kernel
theorem dL_law_525 : decode cL_law 525 = .ok (.iadd, 1) := by decide +kernel
theorem dL_law_526 : decode cL_law 526 = .ok (.iaload, 1) := by decide +kernel
theorem dL_law_527 : decode cL_law 527 = .ok (.invokevirtual 49, 3) := by decide +kernel
theorem dL_law_530 : decode cL_law 530 = .ok (.if_icmp .eq 1069, 3) := by decide +kernel
theorem dL_law_533 : decode cL_law 533 = .ok (.iconst 0, 1) := by decide +kernel
theorem dL_law_534 : decode cL_law 534 = .ok (.ireturn, 1) := by decide +kernel
theorem dL_law_535 : decode cL_law 535 = .ok (.aload_n 1, 1) := by decide +kernel
theorem dL_law_536 : decode cL_law 536 = .ok (.aload_n 0, 1) := by decide +kernel
theorem dL_law_537 : decode cL_law 537 = .ok (.iload_n 3, 1) := by decide +kernel
theorem dL_law_538 : decode cL_law 538 = .ok (.iconst 1, 1) := by decide +kernel
theorem dL_law_539 : decode cL_law 539 = .ok (.iadd, 1) := by decide +kernel
theorem dL_law_540 : decode cL_law 540 = .ok (.iaload, 1) := by decide +kernel
theorem dL_law_541 : decode cL_law 541 = .ok (.aload_n 0, 1) := by decide +kernel
theorem dL_law_542 : decode cL_law 542 = .ok (.iload_n 3, 1) := by decide +kernel
theorem dL_law_543 : decode cL_law 543 = .ok (.iconst 2, 1) := by decide +kernel
theorem dL_law_544 : decode cL_law 544 = .ok (.iadd, 1) := by decide +kernel
theorem dL_law_545 : decode cL_law 545 = .ok (.iaload, 1) := by decide +kernel
theorem dL_law_546 : decode cL_law 546 = .ok (.i2l, 1) := by decide +kernel
theorem dL_law_547 : decode cL_law 547 = .ok (.bipush 32, 2) := by decide +kernel
theorem dL_law_549 : decode cL_law 549 = .ok (.lshl, 1) := by decide +kernel
theorem dL_law_550 : decode cL_law 550 = .ok (.aload_n 0, 1) := by decide +kernel
theorem dL_law_551 : decode cL_law 551 = .ok (.iload_n 3, 1) := by decide +kernel
theorem dL_law_552 : decode cL_law 552 = .ok (.iconst 3, 1) := by decide +kernel
theorem dL_law_553 : decode cL_law 553 = .ok (.iadd, 1) := by decide +kernel
theorem dL_law_554 : decode cL_law 554 = .ok (.iaload, 1) := by decide +kernel
theorem dL_law_555 : decode cL_law 555 = .ok (.i2l, 1) := by decide +kernel
theorem dL_law_556 : decode cL_law 556 = .ok (.ldc2_w 23, 3) := by decide +kernel
theorem dL_law_559 : decode cL_law 559 = .ok (.land, 1) := by decide +kernel
theorem dL_law_560 : decode cL_law 560 = .ok (.lor, 1) := by decide +kernel
theorem dL_law_561 : decode cL_law 561 = .ok (.aload_n 0, 1) := by decide +kernel
theorem dL_law_562 : decode cL_law 562 = .ok (.iload_n 3, 1) := by decide +kernel
theorem dL_law_563 : decode cL_law 563 = .ok (.iconst 4, 1) := by decide +kernel
theorem dL_law_564 : decode cL_law 564 = .ok (.iadd, 1) := by decide +kernel
theorem dL_law_565 : decode cL_law 565 = .ok (.iaload, 1) := by decide +kernel
theorem dL_law_566 : decode cL_law 566 = .ok (.i2l, 1) := by decide +kernel
theorem dL_law_567 : decode cL_law 567 = .ok (.bipush 32, 2) := by decide +kernel
theorem dL_law_569 : decode cL_law 569 = .ok (.lshl, 1) := by decide +kernel
theorem dL_law_570 : decode cL_law 570 = .ok (.aload_n 0, 1) := by decide +kernel
theorem dL_law_571 : decode cL_law 571 = .ok (.iload_n 3, 1) := by decide +kernel
theorem dL_law_572 : decode cL_law 572 = .ok (.iconst 5, 1) := by decide +kernel
theorem dL_law_573 : decode cL_law 573 = .ok (.iadd, 1) := by decide +kernel
theorem dL_law_574 : decode cL_law 574 = .ok (.iaload, 1) := by decide +kernel
theorem dL_law_575 : decode cL_law 575 = .ok (.i2l, 1) := by decide +kernel
theorem dL_law_576 : decode cL_law 576 = .ok (.ldc2_w 23, 3) := by decide +kernel
theorem dL_law_579 : decode cL_law 579 = .ok (.land, 1) := by decide +kernel
theorem dL_law_580 : decode cL_law 580 = .ok (.lor, 1) := by decide +kernel
theorem dL_law_581 : decode cL_law 581 = .ok (.invokevirtual 50, 3) := by decide +kernel
theorem dL_law_584 : decode cL_law 584 = .ok (.aload_n 2, 1) := by decide +kernel
theorem dL_law_585 : decode cL_law 585 = .ok (.aload_n 0, 1) := by decide +kernel
theorem dL_law_586 : decode cL_law 586 = .ok (.iload_n 3, 1) := by decide +kernel
theorem dL_law_587 : decode cL_law 587 = .ok (.iconst 1, 1) := by decide +kernel
theorem dL_law_588 : decode cL_law 588 = .ok (.iadd, 1) := by decide +kernel
theorem dL_law_589 : decode cL_law 589 = .ok (.iaload, 1) := by decide +kernel
theorem dL_law_590 : decode cL_law 590 = .ok (.aload_n 0, 1) := by decide +kernel
theorem dL_law_591 : decode cL_law 591 = .ok (.iload_n 3, 1) := by decide +kernel
theorem dL_law_592 : decode cL_law 592 = .ok (.iconst 2, 1) := by decide +kernel
theorem dL_law_593 : decode cL_law 593 = .ok (.iadd, 1) := by decide +kernel
theorem dL_law_594 : decode cL_law 594 = .ok (.iaload, 1) := by decide +kernel
theorem dL_law_595 : decode cL_law 595 = .ok (.i2l, 1) := by decide +kernel
theorem dL_law_596 : decode cL_law 596 = .ok (.bipush 32, 2) := by decide +kernel
theorem dL_law_598 : decode cL_law 598 = .ok (.lshl, 1) := by decide +kernel
theorem dL_law_599 : decode cL_law 599 = .ok (.aload_n 0, 1) := by decide +kernel
theorem dL_law_600 : decode cL_law 600 = .ok (.iload_n 3, 1) := by decide +kernel
theorem dL_law_601 : decode cL_law 601 = .ok (.iconst 3, 1) := by decide +kernel
theorem dL_law_602 : decode cL_law 602 = .ok (.iadd, 1) := by decide +kernel
theorem dL_law_603 : decode cL_law 603 = .ok (.iaload, 1) := by decide +kernel
theorem dL_law_604 : decode cL_law 604 = .ok (.i2l, 1) := by decide +kernel
theorem dL_law_605 : decode cL_law 605 = .ok (.ldc2_w 23, 3) := by decide +kernel
theorem dL_law_608 : decode cL_law 608 = .ok (.land, 1) := by decide +kernel
theorem dL_law_609 : decode cL_law 609 = .ok (.lor, 1) := by decide +kernel
theorem dL_law_610 : decode cL_law 610 = .ok (.aload_n 0, 1) := by decide +kernel
theorem dL_law_611 : decode cL_law 611 = .ok (.iload_n 3, 1) := by decide +kernel
theorem dL_law_612 : decode cL_law 612 = .ok (.iconst 4, 1) := by decide +kernel
theorem dL_law_613 : decode cL_law 613 = .ok (.iadd, 1) := by decide +kernel
theorem dL_law_614 : decode cL_law 614 = .ok (.iaload, 1) := by decide +kernel
theorem dL_law_615 : decode cL_law 615 = .ok (.i2l, 1) := by decide +kernel
theorem dL_law_616 : decode cL_law 616 = .ok (.bipush 32, 2) := by decide +kernel
theorem dL_law_618 : decode cL_law 618 = .ok (.lshl, 1) := by decide +kernel
theorem dL_law_619 : decode cL_law 619 = .ok (.aload_n 0, 1) := by decide +kernel
theorem dL_law_620 : decode cL_law 620 = .ok (.iload_n 3, 1) := by decide +kernel
theorem dL_law_621 : decode cL_law 621 = .ok (.iconst 5, 1) := by decide +kernel
theorem dL_law_622 : decode cL_law 622 = .ok (.iadd, 1) := by decide +kernel
theorem dL_law_623 : decode cL_law 623 = .ok (.iaload, 1) := by decide +kernel
theorem dL_law_624 : decode cL_law 624 = .ok (.i2l, 1) := by decide +kernel
theorem dL_law_625 : decode cL_law 625 = .ok (.ldc2_w 23, 3) := by decide +kernel
theorem dL_law_628 : decode cL_law 628 = .ok (.land, 1) := by decide +kernel
theorem dL_law_629 : decode cL_law 629 = .ok (.lor, 1) := by decide +kernel
theorem dL_law_630 : decode cL_law 630 = .ok (.invokevirtual 54, 3) := by decide +kernel
theorem dL_law_633 : decode cL_law 633 = .ok (.if_icmp .eq 966, 3) := by decide +kernel
theorem dL_law_636 : decode cL_law 636 = .ok (.iconst 0, 1) := by decide +kernel
theorem dL_law_637 : decode cL_law 637 = .ok (.ireturn, 1) := by decide +kernel
theorem dL_law_638 : decode cL_law 638 = .ok (.aload_n 1, 1) := by decide +kernel
theorem dL_law_639 : decode cL_law 639 = .ok (.aload_n 0, 1) := by decide +kernel
theorem dL_law_640 : decode cL_law 640 = .ok (.iload_n 3, 1) := by decide +kernel
theorem dL_law_641 : decode cL_law 641 = .ok (.iconst 1, 1) := by decide +kernel
theorem dL_law_642 : decode cL_law 642 = .ok (.iadd, 1) := by decide +kernel
theorem dL_law_643 : decode cL_law 643 = .ok (.iaload, 1) := by decide +kernel
theorem dL_law_644 : decode cL_law 644 = .ok (.aload_n 0, 1) := by decide +kernel
theorem dL_law_645 : decode cL_law 645 = .ok (.iload_n 3, 1) := by decide +kernel
theorem dL_law_646 : decode cL_law 646 = .ok (.iconst 2, 1) := by decide +kernel
theorem dL_law_647 : decode cL_law 647 = .ok (.iadd, 1) := by decide +kernel
theorem dL_law_648 : decode cL_law 648 = .ok (.iaload, 1) := by decide +kernel
theorem dL_law_649 : decode cL_law 649 = .ok (.i2l, 1) := by decide +kernel
theorem dL_law_650 : decode cL_law 650 = .ok (.bipush 32, 2) := by decide +kernel
theorem dL_law_652 : decode cL_law 652 = .ok (.lshl, 1) := by decide +kernel
theorem dL_law_653 : decode cL_law 653 = .ok (.aload_n 0, 1) := by decide +kernel
theorem dL_law_654 : decode cL_law 654 = .ok (.iload_n 3, 1) := by decide +kernel
theorem dL_law_655 : decode cL_law 655 = .ok (.iconst 3, 1) := by decide +kernel
theorem dL_law_656 : decode cL_law 656 = .ok (.iadd, 1) := by decide +kernel
theorem dL_law_657 : decode cL_law 657 = .ok (.iaload, 1) := by decide +kernel
theorem dL_law_658 : decode cL_law 658 = .ok (.i2l, 1) := by decide +kernel
theorem dL_law_659 : decode cL_law 659 = .ok (.ldc2_w 23, 3) := by decide +kernel
theorem dL_law_662 : decode cL_law 662 = .ok (.land, 1) := by decide +kernel
theorem dL_law_663 : decode cL_law 663 = .ok (.lor, 1) := by decide +kernel
theorem dL_law_664 : decode cL_law 664 = .ok (.invokevirtual 55, 3) := by decide +kernel
theorem dL_law_667 : decode cL_law 667 = .ok (.aload_n 2, 1) := by decide +kernel
theorem dL_law_668 : decode cL_law 668 = .ok (.aload_n 0, 1) := by decide +kernel
theorem dL_law_669 : decode cL_law 669 = .ok (.iload_n 3, 1) := by decide +kernel
theorem dL_law_670 : decode cL_law 670 = .ok (.iconst 1, 1) := by decide +kernel
theorem dL_law_671 : decode cL_law 671 = .ok (.iadd, 1) := by decide +kernel
theorem dL_law_672 : decode cL_law 672 = .ok (.iaload, 1) := by decide +kernel
theorem dL_law_673 : decode cL_law 673 = .ok (.aload_n 0, 1) := by decide +kernel
theorem dL_law_674 : decode cL_law 674 = .ok (.iload_n 3, 1) := by decide +kernel
theorem dL_law_675 : decode cL_law 675 = .ok (.iconst 2, 1) := by decide +kernel
theorem dL_law_676 : decode cL_law 676 = .ok (.iadd, 1) := by decide +kernel
theorem dL_law_677 : decode cL_law 677 = .ok (.iaload, 1) := by decide +kernel
theorem dL_law_678 : decode cL_law 678 = .ok (.i2l, 1) := by decide +kernel
theorem dL_law_679 : decode cL_law 679 = .ok (.bipush 32, 2) := by decide +kernel
theorem dL_law_681 : decode cL_law 681 = .ok (.lshl, 1) := by decide +kernel
theorem dL_law_682 : decode cL_law 682 = .ok (.aload_n 0, 1) := by decide +kernel
theorem dL_law_683 : decode cL_law 683 = .ok (.iload_n 3, 1) := by decide +kernel
theorem dL_law_684 : decode cL_law 684 = .ok (.iconst 3, 1) := by decide +kernel
theorem dL_law_685 : decode cL_law 685 = .ok (.iadd, 1) := by decide +kernel
theorem dL_law_686 : decode cL_law 686 = .ok (.iaload, 1) := by decide +kernel
theorem dL_law_687 : decode cL_law 687 = .ok (.i2l, 1) := by decide +kernel
theorem dL_law_688 : decode cL_law 688 = .ok (.ldc2_w 23, 3) := by decide +kernel
theorem dL_law_691 : decode cL_law 691 = .ok (.land, 1) := by decide +kernel
theorem dL_law_692 : decode cL_law 692 = .ok (.lor, 1) := by decide +kernel
theorem dL_law_693 : decode cL_law 693 = .ok (.invokevirtual 59, 3) := by decide +kernel
theorem dL_law_696 : decode cL_law 696 = .ok (.if_icmp .eq 903, 3) := by decide +kernel
theorem dL_law_699 : decode cL_law 699 = .ok (.iconst 0, 1) := by decide +kernel
theorem dL_law_700 : decode cL_law 700 = .ok (.ireturn, 1) := by decide +kernel
theorem dL_law_701 : decode cL_law 701 = .ok (.aload_n 1, 1) := by decide +kernel
theorem dL_law_702 : decode cL_law 702 = .ok (.aload_n 0, 1) := by decide +kernel
theorem dL_law_703 : decode cL_law 703 = .ok (.iload_n 3, 1) := by decide +kernel
theorem dL_law_704 : decode cL_law 704 = .ok (.iconst 1, 1) := by decide +kernel
theorem dL_law_705 : decode cL_law 705 = .ok (.iadd, 1) := by decide +kernel
theorem dL_law_706 : decode cL_law 706 = .ok (.iaload, 1) := by decide +kernel
theorem dL_law_707 : decode cL_law 707 = .ok (.aload_n 0, 1) := by decide +kernel
theorem dL_law_708 : decode cL_law 708 = .ok (.iload_n 3, 1) := by decide +kernel
theorem dL_law_709 : decode cL_law 709 = .ok (.iconst 2, 1) := by decide +kernel
theorem dL_law_710 : decode cL_law 710 = .ok (.iadd, 1) := by decide +kernel
theorem dL_law_711 : decode cL_law 711 = .ok (.iaload, 1) := by decide +kernel
theorem dL_law_712 : decode cL_law 712 = .ok (.i2l, 1) := by decide +kernel
theorem dL_law_713 : decode cL_law 713 = .ok (.bipush 32, 2) := by decide +kernel
theorem dL_law_715 : decode cL_law 715 = .ok (.lshl, 1) := by decide +kernel
theorem dL_law_716 : decode cL_law 716 = .ok (.aload_n 0, 1) := by decide +kernel
theorem dL_law_717 : decode cL_law 717 = .ok (.iload_n 3, 1) := by decide +kernel
theorem dL_law_718 : decode cL_law 718 = .ok (.iconst 3, 1) := by decide +kernel
theorem dL_law_719 : decode cL_law 719 = .ok (.iadd, 1) := by decide +kernel
theorem dL_law_720 : decode cL_law 720 = .ok (.iaload, 1) := by decide +kernel
theorem dL_law_721 : decode cL_law 721 = .ok (.i2l, 1) := by decide +kernel
theorem dL_law_722 : decode cL_law 722 = .ok (.ldc2_w 23, 3) := by decide +kernel
theorem dL_law_725 : decode cL_law 725 = .ok (.land, 1) := by decide +kernel
theorem dL_law_726 : decode cL_law 726 = .ok (.lor, 1) := by decide +kernel
theorem dL_law_727 : decode cL_law 727 = .ok (.invokevirtual 60, 3) := by decide +kernel
theorem dL_law_730 : decode cL_law 730 = .ok (.aload_n 2, 1) := by decide +kernel
theorem dL_law_731 : decode cL_law 731 = .ok (.aload_n 0, 1) := by decide +kernel
theorem dL_law_732 : decode cL_law 732 = .ok (.iload_n 3, 1) := by decide +kernel
theorem dL_law_733 : decode cL_law 733 = .ok (.iconst 1, 1) := by decide +kernel
theorem dL_law_734 : decode cL_law 734 = .ok (.iadd, 1) := by decide +kernel
theorem dL_law_735 : decode cL_law 735 = .ok (.iaload, 1) := by decide +kernel
theorem dL_law_736 : decode cL_law 736 = .ok (.aload_n 0, 1) := by decide +kernel
theorem dL_law_737 : decode cL_law 737 = .ok (.iload_n 3, 1) := by decide +kernel
theorem dL_law_738 : decode cL_law 738 = .ok (.iconst 2, 1) := by decide +kernel
theorem dL_law_739 : decode cL_law 739 = .ok (.iadd, 1) := by decide +kernel
theorem dL_law_740 : decode cL_law 740 = .ok (.iaload, 1) := by decide +kernel
theorem dL_law_741 : decode cL_law 741 = .ok (.i2l, 1) := by decide +kernel
theorem dL_law_742 : decode cL_law 742 = .ok (.bipush 32, 2) := by decide +kernel
theorem dL_law_744 : decode cL_law 744 = .ok (.lshl, 1) := by decide +kernel
theorem dL_law_745 : decode cL_law 745 = .ok (.aload_n 0, 1) := by decide +kernel
theorem dL_law_746 : decode cL_law 746 = .ok (.iload_n 3, 1) := by decide +kernel
theorem dL_law_747 : decode cL_law 747 = .ok (.iconst 3, 1) := by decide +kernel
theorem dL_law_748 : decode cL_law 748 = .ok (.iadd, 1) := by decide +kernel
theorem dL_law_749 : decode cL_law 749 = .ok (.iaload, 1) := by decide +kernel
theorem dL_law_750 : decode cL_law 750 = .ok (.i2l, 1) := by decide +kernel
theorem dL_law_751 : decode cL_law 751 = .ok (.ldc2_w 23, 3) := by decide +kernel
theorem dL_law_754 : decode cL_law 754 = .ok (.land, 1) := by decide +kernel
theorem dL_law_755 : decode cL_law 755 = .ok (.lor, 1) := by decide +kernel
theorem dL_law_756 : decode cL_law 756 = .ok (.invokevirtual 63, 3) := by decide +kernel
theorem dL_law_759 : decode cL_law 759 = .ok (.if_icmp .eq 840, 3) := by decide +kernel
theorem dL_law_762 : decode cL_law 762 = .ok (.iconst 0, 1) := by decide +kernel
theorem dL_law_763 : decode cL_law 763 = .ok (.ireturn, 1) := by decide +kernel
theorem dL_law_764 : decode cL_law 764 = .ok (.aload_n 1, 1) := by decide +kernel
theorem dL_law_765 : decode cL_law 765 = .ok (.aload_n 0, 1) := by decide +kernel
theorem dL_law_766 : decode cL_law 766 = .ok (.iload_n 3, 1) := by decide +kernel
theorem dL_law_767 : decode cL_law 767 = .ok (.iconst 1, 1) := by decide +kernel
theorem dL_law_768 : decode cL_law 768 = .ok (.iadd, 1) := by decide +kernel
theorem dL_law_769 : decode cL_law 769 = .ok (.iaload, 1) := by decide +kernel
theorem dL_law_770 : decode cL_law 770 = .ok (.i2l, 1) := by decide +kernel
theorem dL_law_771 : decode cL_law 771 = .ok (.bipush 32, 2) := by decide +kernel
theorem dL_law_773 : decode cL_law 773 = .ok (.lshl, 1) := by decide +kernel
theorem dL_law_774 : decode cL_law 774 = .ok (.aload_n 0, 1) := by decide +kernel
theorem dL_law_775 : decode cL_law 775 = .ok (.iload_n 3, 1) := by decide +kernel
theorem dL_law_776 : decode cL_law 776 = .ok (.iconst 2, 1) := by decide +kernel
theorem dL_law_777 : decode cL_law 777 = .ok (.iadd, 1) := by decide +kernel
theorem dL_law_778 : decode cL_law 778 = .ok (.iaload, 1) := by decide +kernel
theorem dL_law_779 : decode cL_law 779 = .ok (.i2l, 1) := by decide +kernel
theorem dL_law_780 : decode cL_law 780 = .ok (.ldc2_w 23, 3) := by decide +kernel
theorem dL_law_783 : decode cL_law 783 = .ok (.land, 1) := by decide +kernel
theorem dL_law_784 : decode cL_law 784 = .ok (.lor, 1) := by decide +kernel
theorem dL_law_785 : decode cL_law 785 = .ok (.invokevirtual 64, 3) := by decide +kernel
theorem dL_law_788 : decode cL_law 788 = .ok (.aload_n 2, 1) := by decide +kernel
theorem dL_law_789 : decode cL_law 789 = .ok (.aload_n 0, 1) := by decide +kernel
theorem dL_law_790 : decode cL_law 790 = .ok (.iload_n 3, 1) := by decide +kernel
theorem dL_law_791 : decode cL_law 791 = .ok (.iconst 1, 1) := by decide +kernel
theorem dL_law_792 : decode cL_law 792 = .ok (.iadd, 1) := by decide +kernel
theorem dL_law_793 : decode cL_law 793 = .ok (.iaload, 1) := by decide +kernel
theorem dL_law_794 : decode cL_law 794 = .ok (.i2l, 1) := by decide +kernel
theorem dL_law_795 : decode cL_law 795 = .ok (.bipush 32, 2) := by decide +kernel
theorem dL_law_797 : decode cL_law 797 = .ok (.lshl, 1) := by decide +kernel
theorem dL_law_798 : decode cL_law 798 = .ok (.aload_n 0, 1) := by decide +kernel
theorem dL_law_799 : decode cL_law 799 = .ok (.iload_n 3, 1) := by decide +kernel
theorem dL_law_800 : decode cL_law 800 = .ok (.iconst 2, 1) := by decide +kernel
theorem dL_law_801 : decode cL_law 801 = .ok (.iadd, 1) := by decide +kernel
theorem dL_law_802 : decode cL_law 802 = .ok (.iaload, 1) := by decide +kernel
theorem dL_law_803 : decode cL_law 803 = .ok (.i2l, 1) := by decide +kernel
theorem dL_law_804 : decode cL_law 804 = .ok (.ldc2_w 23, 3) := by decide +kernel
theorem dL_law_807 : decode cL_law 807 = .ok (.land, 1) := by decide +kernel
theorem dL_law_808 : decode cL_law 808 = .ok (.lor, 1) := by decide +kernel
theorem dL_law_809 : decode cL_law 809 = .ok (.invokevirtual 68, 3) := by decide +kernel
theorem dL_law_812 : decode cL_law 812 = .ok (.if_icmp .eq 787, 3) := by decide +kernel
theorem dL_law_815 : decode cL_law 815 = .ok (.iconst 0, 1) := by decide +kernel
theorem dL_law_816 : decode cL_law 816 = .ok (.ireturn, 1) := by decide +kernel
theorem dL_law_817 : decode cL_law 817 = .ok (.aload_n 1, 1) := by decide +kernel
theorem dL_law_818 : decode cL_law 818 = .ok (.aload_n 0, 1) := by decide +kernel
theorem dL_law_819 : decode cL_law 819 = .ok (.iload_n 3, 1) := by decide +kernel
theorem dL_law_820 : decode cL_law 820 = .ok (.iconst 1, 1) := by decide +kernel
theorem dL_law_821 : decode cL_law 821 = .ok (.iadd, 1) := by decide +kernel
theorem dL_law_822 : decode cL_law 822 = .ok (.iaload, 1) := by decide +kernel
theorem dL_law_823 : decode cL_law 823 = .ok (.aload_n 0, 1) := by decide +kernel
theorem dL_law_824 : decode cL_law 824 = .ok (.iload_n 3, 1) := by decide +kernel
theorem dL_law_825 : decode cL_law 825 = .ok (.iconst 2, 1) := by decide +kernel
theorem dL_law_826 : decode cL_law 826 = .ok (.iadd, 1) := by decide +kernel
theorem dL_law_827 : decode cL_law 827 = .ok (.iaload, 1) := by decide +kernel
theorem dL_law_828 : decode cL_law 828 = .ok (.aload_n 0, 1) := by decide +kernel
theorem dL_law_829 : decode cL_law 829 = .ok (.iload_n 3, 1) := by decide +kernel
theorem dL_law_830 : decode cL_law 830 = .ok (.iconst 3, 1) := by decide +kernel
theorem dL_law_831 : decode cL_law 831 = .ok (.iadd, 1) := by decide +kernel
theorem dL_law_832 : decode cL_law 832 = .ok (.iaload, 1) := by decide +kernel
theorem dL_law_833 : decode cL_law 833 = .ok (.invokevirtual 69, 3) := by decide +kernel
theorem dL_law_836 : decode cL_law 836 = .ok (.aload_n 2, 1) := by decide +kernel
theorem dL_law_837 : decode cL_law 837 = .ok (.aload_n 0, 1) := by decide +kernel
theorem dL_law_838 : decode cL_law 838 = .ok (.iload_n 3, 1) := by decide +kernel
theorem dL_law_839 : decode cL_law 839 = .ok (.iconst 1, 1) := by decide +kernel
theorem dL_law_840 : decode cL_law 840 = .ok (.iadd, 1) := by decide +kernel
theorem dL_law_841 : decode cL_law 841 = .ok (.iaload, 1) := by decide +kernel
theorem dL_law_842 : decode cL_law 842 = .ok (.aload_n 0, 1) := by decide +kernel
theorem dL_law_843 : decode cL_law 843 = .ok (.iload_n 3, 1) := by decide +kernel
theorem dL_law_844 : decode cL_law 844 = .ok (.iconst 2, 1) := by decide +kernel
theorem dL_law_845 : decode cL_law 845 = .ok (.iadd, 1) := by decide +kernel
theorem dL_law_846 : decode cL_law 846 = .ok (.iaload, 1) := by decide +kernel
theorem dL_law_847 : decode cL_law 847 = .ok (.aload_n 0, 1) := by decide +kernel
theorem dL_law_848 : decode cL_law 848 = .ok (.iload_n 3, 1) := by decide +kernel
theorem dL_law_849 : decode cL_law 849 = .ok (.iconst 3, 1) := by decide +kernel
theorem dL_law_850 : decode cL_law 850 = .ok (.iadd, 1) := by decide +kernel
theorem dL_law_851 : decode cL_law 851 = .ok (.iaload, 1) := by decide +kernel
theorem dL_law_852 : decode cL_law 852 = .ok (.invokevirtual 72, 3) := by decide +kernel
theorem dL_law_855 : decode cL_law 855 = .ok (.if_icmp .eq 744, 3) := by decide +kernel
theorem dL_law_858 : decode cL_law 858 = .ok (.iconst 0, 1) := by decide +kernel
theorem dL_law_859 : decode cL_law 859 = .ok (.ireturn, 1) := by decide +kernel
theorem dL_law_860 : decode cL_law 860 = .ok (.aload_n 1, 1) := by decide +kernel
theorem dL_law_861 : decode cL_law 861 = .ok (.aload_n 0, 1) := by decide +kernel
theorem dL_law_862 : decode cL_law 862 = .ok (.iload_n 3, 1) := by decide +kernel
theorem dL_law_863 : decode cL_law 863 = .ok (.iconst 1, 1) := by decide +kernel
theorem dL_law_864 : decode cL_law 864 = .ok (.iadd, 1) := by decide +kernel
theorem dL_law_865 : decode cL_law 865 = .ok (.iaload, 1) := by decide +kernel
theorem dL_law_866 : decode cL_law 866 = .ok (.invokevirtual 73, 3) := by decide +kernel
theorem dL_law_869 : decode cL_law 869 = .ok (.aload_n 2, 1) := by decide +kernel
theorem dL_law_870 : decode cL_law 870 = .ok (.aload_n 0, 1) := by decide +kernel
theorem dL_law_871 : decode cL_law 871 = .ok (.iload_n 3, 1) := by decide +kernel
theorem dL_law_872 : decode cL_law 872 = .ok (.iconst 1, 1) := by decide +kernel
theorem dL_law_873 : decode cL_law 873 = .ok (.iadd, 1) := by decide +kernel
theorem dL_law_874 : decode cL_law 874 = .ok (.iaload, 1) := by decide +kernel
theorem dL_law_875 : decode cL_law 875 = .ok (.invokevirtual 76, 3) := by decide +kernel
theorem dL_law_878 : decode cL_law 878 = .ok (.if_icmp .eq 721, 3) := by decide +kernel
theorem dL_law_881 : decode cL_law 881 = .ok (.iconst 0, 1) := by decide +kernel
theorem dL_law_882 : decode cL_law 882 = .ok (.ireturn, 1) := by decide +kernel
theorem dL_law_883 : decode cL_law 883 = .ok (.aload_n 1, 1) := by decide +kernel
theorem dL_law_884 : decode cL_law 884 = .ok (.invokevirtual 77, 3) := by decide +kernel
theorem dL_law_887 : decode cL_law 887 = .ok (.aload_n 2, 1) := by decide +kernel
theorem dL_law_888 : decode cL_law 888 = .ok (.invokevirtual 81, 3) := by decide +kernel
theorem dL_law_891 : decode cL_law 891 = .ok (.if_icmp .eq 708, 3) := by decide +kernel
theorem dL_law_894 : decode cL_law 894 = .ok (.iconst 0, 1) := by decide +kernel
theorem dL_law_895 : decode cL_law 895 = .ok (.ireturn, 1) := by decide +kernel
theorem dL_law_896 : decode cL_law 896 = .ok (.aload_n 1, 1) := by decide +kernel
theorem dL_law_897 : decode cL_law 897 = .ok (.aload_n 0, 1) := by decide +kernel
theorem dL_law_898 : decode cL_law 898 = .ok (.iload_n 3, 1) := by decide +kernel
theorem dL_law_899 : decode cL_law 899 = .ok (.iconst 1, 1) := by decide +kernel
theorem dL_law_900 : decode cL_law 900 = .ok (.iadd, 1) := by decide +kernel
theorem dL_law_901 : decode cL_law 901 = .ok (.iaload, 1) := by decide +kernel
theorem dL_law_902 : decode cL_law 902 = .ok (.aload_n 0, 1) := by decide +kernel
theorem dL_law_903 : decode cL_law 903 = .ok (.iload_n 3, 1) := by decide +kernel
theorem dL_law_904 : decode cL_law 904 = .ok (.iconst 2, 1) := by decide +kernel
theorem dL_law_905 : decode cL_law 905 = .ok (.iadd, 1) := by decide +kernel
theorem dL_law_906 : decode cL_law 906 = .ok (.iaload, 1) := by decide +kernel
theorem dL_law_907 : decode cL_law 907 = .ok (.invokevirtual 82, 3) := by decide +kernel
theorem dL_law_910 : decode cL_law 910 = .ok (.aload_n 2, 1) := by decide +kernel
theorem dL_law_911 : decode cL_law 911 = .ok (.aload_n 0, 1) := by decide +kernel
theorem dL_law_912 : decode cL_law 912 = .ok (.iload_n 3, 1) := by decide +kernel
theorem dL_law_913 : decode cL_law 913 = .ok (.iconst 1, 1) := by decide +kernel
theorem dL_law_914 : decode cL_law 914 = .ok (.iadd, 1) := by decide +kernel
theorem dL_law_915 : decode cL_law 915 = .ok (.iaload, 1) := by decide +kernel
theorem dL_law_916 : decode cL_law 916 = .ok (.aload_n 0, 1) := by decide +kernel
theorem dL_law_917 : decode cL_law 917 = .ok (.iload_n 3, 1) := by decide +kernel
theorem dL_law_918 : decode cL_law 918 = .ok (.iconst 2, 1) := by decide +kernel
theorem dL_law_919 : decode cL_law 919 = .ok (.iadd, 1) := by decide +kernel
theorem dL_law_920 : decode cL_law 920 = .ok (.iaload, 1) := by decide +kernel
theorem dL_law_921 : decode cL_law 921 = .ok (.invokevirtual 85, 3) := by decide +kernel
theorem dL_law_924 : decode cL_law 924 = .ok (.lcmp, 1) := by decide +kernel
theorem dL_law_925 : decode cL_law 925 = .ok (.ifCond .eq 674, 3) := by decide +kernel
theorem dL_law_928 : decode cL_law 928 = .ok (.iconst 0, 1) := by decide +kernel
theorem dL_law_929 : decode cL_law 929 = .ok (.ireturn, 1) := by decide +kernel
theorem dL_law_930 : decode cL_law 930 = .ok (.aload_n 1, 1) := by decide +kernel
theorem dL_law_931 : decode cL_law 931 = .ok (.aload_n 0, 1) := by decide +kernel
theorem dL_law_932 : decode cL_law 932 = .ok (.iload_n 3, 1) := by decide +kernel
theorem dL_law_933 : decode cL_law 933 = .ok (.iconst 1, 1) := by decide +kernel
theorem dL_law_934 : decode cL_law 934 = .ok (.iadd, 1) := by decide +kernel
theorem dL_law_935 : decode cL_law 935 = .ok (.iaload, 1) := by decide +kernel
theorem dL_law_936 : decode cL_law 936 = .ok (.invokevirtual 86, 3) := by decide +kernel
theorem dL_law_939 : decode cL_law 939 = .ok (.aload_n 2, 1) := by decide +kernel
theorem dL_law_940 : decode cL_law 940 = .ok (.aload_n 0, 1) := by decide +kernel
theorem dL_law_941 : decode cL_law 941 = .ok (.iload_n 3, 1) := by decide +kernel
theorem dL_law_942 : decode cL_law 942 = .ok (.iconst 1, 1) := by decide +kernel
theorem dL_law_943 : decode cL_law 943 = .ok (.iadd, 1) := by decide +kernel
theorem dL_law_944 : decode cL_law 944 = .ok (.iaload, 1) := by decide +kernel
theorem dL_law_945 : decode cL_law 945 = .ok (.invokevirtual 90, 3) := by decide +kernel
theorem dL_law_948 : decode cL_law 948 = .ok (.lcmp, 1) := by decide +kernel
theorem dL_law_949 : decode cL_law 949 = .ok (.ifCond .eq 650, 3) := by decide +kernel
theorem dL_law_952 : decode cL_law 952 = .ok (.iconst 0, 1) := by decide +kernel
theorem dL_law_953 : decode cL_law 953 = .ok (.ireturn, 1) := by decide +kernel
theorem dL_law_954 : decode cL_law 954 = .ok (.aload_n 1, 1) := by decide +kernel
theorem dL_law_955 : decode cL_law 955 = .ok (.aload_n 0, 1) := by decide +kernel
theorem dL_law_956 : decode cL_law 956 = .ok (.iload_n 3, 1) := by decide +kernel
theorem dL_law_957 : decode cL_law 957 = .ok (.iconst 1, 1) := by decide +kernel
theorem dL_law_958 : decode cL_law 958 = .ok (.iadd, 1) := by decide +kernel
theorem dL_law_959 : decode cL_law 959 = .ok (.iaload, 1) := by decide +kernel
theorem dL_law_960 : decode cL_law 960 = .ok (.aload_n 0, 1) := by decide +kernel
theorem dL_law_961 : decode cL_law 961 = .ok (.iload_n 3, 1) := by decide +kernel
theorem dL_law_962 : decode cL_law 962 = .ok (.iconst 2, 1) := by decide +kernel
theorem dL_law_963 : decode cL_law 963 = .ok (.iadd, 1) := by decide +kernel
theorem dL_law_964 : decode cL_law 964 = .ok (.iaload, 1) := by decide +kernel
theorem dL_law_965 : decode cL_law 965 = .ok (.invokevirtual 91, 3) := by decide +kernel
theorem dL_law_968 : decode cL_law 968 = .ok (.aload_n 2, 1) := by decide +kernel
theorem dL_law_969 : decode cL_law 969 = .ok (.aload_n 0, 1) := by decide +kernel
theorem dL_law_970 : decode cL_law 970 = .ok (.iload_n 3, 1) := by decide +kernel
theorem dL_law_971 : decode cL_law 971 = .ok (.iconst 1, 1) := by decide +kernel
theorem dL_law_972 : decode cL_law 972 = .ok (.iadd, 1) := by decide +kernel
theorem dL_law_973 : decode cL_law 973 = .ok (.iaload, 1) := by decide +kernel
theorem dL_law_974 : decode cL_law 974 = .ok (.aload_n 0, 1) := by decide +kernel
theorem dL_law_975 : decode cL_law 975 = .ok (.iload_n 3, 1) := by decide +kernel
theorem dL_law_976 : decode cL_law 976 = .ok (.iconst 2, 1) := by decide +kernel
theorem dL_law_977 : decode cL_law 977 = .ok (.iadd, 1) := by decide +kernel
theorem dL_law_978 : decode cL_law 978 = .ok (.iaload, 1) := by decide +kernel
theorem dL_law_979 : decode cL_law 979 = .ok (.invokevirtual 94, 3) := by decide +kernel
theorem dL_law_982 : decode cL_law 982 = .ok (.lcmp, 1) := by decide +kernel
theorem dL_law_983 : decode cL_law 983 = .ok (.ifCond .eq 616, 3) := by decide +kernel
theorem dL_law_986 : decode cL_law 986 = .ok (.iconst 0, 1) := by decide +kernel
theorem dL_law_987 : decode cL_law 987 = .ok (.ireturn, 1) := by decide +kernel
theorem dL_law_988 : decode cL_law 988 = .ok (.aload_n 1, 1) := by decide +kernel
theorem dL_law_989 : decode cL_law 989 = .ok (.aload_n 0, 1) := by decide +kernel
theorem dL_law_990 : decode cL_law 990 = .ok (.iload_n 3, 1) := by decide +kernel
theorem dL_law_991 : decode cL_law 991 = .ok (.iconst 1, 1) := by decide +kernel
theorem dL_law_992 : decode cL_law 992 = .ok (.iadd, 1) := by decide +kernel
theorem dL_law_993 : decode cL_law 993 = .ok (.iaload, 1) := by decide +kernel
theorem dL_law_994 : decode cL_law 994 = .ok (.aload_n 0, 1) := by decide +kernel
theorem dL_law_995 : decode cL_law 995 = .ok (.iload_n 3, 1) := by decide +kernel
theorem dL_law_996 : decode cL_law 996 = .ok (.iconst 2, 1) := by decide +kernel
theorem dL_law_997 : decode cL_law 997 = .ok (.iadd, 1) := by decide +kernel
theorem dL_law_998 : decode cL_law 998 = .ok (.iaload, 1) := by decide +kernel
theorem dL_law_999 : decode cL_law 999 = .ok (.aload_n 0, 1) := by decide +kernel
theorem dL_law_1000 : decode cL_law 1000 = .ok (.iload_n 3, 1) := by decide +kernel
theorem dL_law_1001 : decode cL_law 1001 = .ok (.iconst 3, 1) := by decide +kernel
theorem dL_law_1002 : decode cL_law 1002 = .ok (.iadd, 1) := by decide +kernel
theorem dL_law_1003 : decode cL_law 1003 = .ok (.iaload, 1) := by decide +kernel
theorem dL_law_1004 : decode cL_law 1004 = .ok (.i2l, 1) := by decide +kernel
theorem dL_law_1005 : decode cL_law 1005 = .ok (.bipush 32, 2) := by decide +kernel
theorem dL_law_1007 : decode cL_law 1007 = .ok (.lshl, 1) := by decide +kernel
theorem dL_law_1008 : decode cL_law 1008 = .ok (.aload_n 0, 1) := by decide +kernel
theorem dL_law_1009 : decode cL_law 1009 = .ok (.iload_n 3, 1) := by decide +kernel
theorem dL_law_1010 : decode cL_law 1010 = .ok (.iconst 4, 1) := by decide +kernel
theorem dL_law_1011 : decode cL_law 1011 = .ok (.iadd, 1) := by decide +kernel
theorem dL_law_1012 : decode cL_law 1012 = .ok (.iaload, 1) := by decide +kernel
theorem dL_law_1013 : decode cL_law 1013 = .ok (.i2l, 1) := by decide +kernel
theorem dL_law_1014 : decode cL_law 1014 = .ok (.ldc2_w 23, 3) := by decide +kernel
theorem dL_law_1017 : decode cL_law 1017 = .ok (.land, 1) := by decide +kernel
theorem dL_law_1018 : decode cL_law 1018 = .ok (.lor, 1) := by decide +kernel
theorem dL_law_1019 : decode cL_law 1019 = .ok (.invokevirtual 95, 3) := by decide +kernel
theorem dL_law_1022 : decode cL_law 1022 = .ok (.aload_n 2, 1) := by decide +kernel
theorem dL_law_1023 : decode cL_law 1023 = .ok (.aload_n 0, 1) := by decide +kernel
theorem dL_law_1024 : decode cL_law 1024 = .ok (.iload_n 3, 1) := by decide +kernel
theorem dL_law_1025 : decode cL_law 1025 = .ok (.iconst 1, 1) := by decide +kernel
theorem dL_law_1026 : decode cL_law 1026 = .ok (.iadd, 1) := by decide +kernel
theorem dL_law_1027 : decode cL_law 1027 = .ok (.iaload, 1) := by decide +kernel
theorem dL_law_1028 : decode cL_law 1028 = .ok (.aload_n 0, 1) := by decide +kernel
theorem dL_law_1029 : decode cL_law 1029 = .ok (.iload_n 3, 1) := by decide +kernel
theorem dL_law_1030 : decode cL_law 1030 = .ok (.iconst 2, 1) := by decide +kernel
theorem dL_law_1031 : decode cL_law 1031 = .ok (.iadd, 1) := by decide +kernel
theorem dL_law_1032 : decode cL_law 1032 = .ok (.iaload, 1) := by decide +kernel
theorem dL_law_1033 : decode cL_law 1033 = .ok (.aload_n 0, 1) := by decide +kernel
theorem dL_law_1034 : decode cL_law 1034 = .ok (.iload_n 3, 1) := by decide +kernel
theorem dL_law_1035 : decode cL_law 1035 = .ok (.iconst 3, 1) := by decide +kernel
theorem dL_law_1036 : decode cL_law 1036 = .ok (.iadd, 1) := by decide +kernel
theorem dL_law_1037 : decode cL_law 1037 = .ok (.iaload, 1) := by decide +kernel
theorem dL_law_1038 : decode cL_law 1038 = .ok (.i2l, 1) := by decide +kernel
theorem dL_law_1039 : decode cL_law 1039 = .ok (.bipush 32, 2) := by decide +kernel
theorem dL_law_1041 : decode cL_law 1041 = .ok (.lshl, 1) := by decide +kernel
theorem dL_law_1042 : decode cL_law 1042 = .ok (.aload_n 0, 1) := by decide +kernel
theorem dL_law_1043 : decode cL_law 1043 = .ok (.iload_n 3, 1) := by decide +kernel
theorem dL_law_1044 : decode cL_law 1044 = .ok (.iconst 4, 1) := by decide +kernel
theorem dL_law_1045 : decode cL_law 1045 = .ok (.iadd, 1) := by decide +kernel
theorem dL_law_1046 : decode cL_law 1046 = .ok (.iaload, 1) := by decide +kernel
theorem dL_law_1047 : decode cL_law 1047 = .ok (.i2l, 1) := by decide +kernel
theorem dL_law_1048 : decode cL_law 1048 = .ok (.ldc2_w 23, 3) := by decide +kernel
theorem dL_law_1051 : decode cL_law 1051 = .ok (.land, 1) := by decide +kernel
theorem dL_law_1052 : decode cL_law 1052 = .ok (.lor, 1) := by decide +kernel
theorem dL_law_1053 : decode cL_law 1053 = .ok (.invokevirtual 99, 3) := by decide +kernel
theorem dL_law_1056 : decode cL_law 1056 = .ok (.if_icmp .eq 543, 3) := by decide +kernel
theorem dL_law_1059 : decode cL_law 1059 = .ok (.iconst 0, 1) := by decide +kernel
theorem dL_law_1060 : decode cL_law 1060 = .ok (.ireturn, 1) := by decide +kernel
theorem dL_law_1061 : decode cL_law 1061 = .ok (.aload_n 1, 1) := by decide +kernel
theorem dL_law_1062 : decode cL_law 1062 = .ok (.invokevirtual 100, 3) := by decide +kernel
theorem dL_law_1065 : decode cL_law 1065 = .ok (.aload_n 2, 1) := by decide +kernel
theorem dL_law_1066 : decode cL_law 1066 = .ok (.invokevirtual 103, 3) := by decide +kernel
theorem dL_law_1069 : decode cL_law 1069 = .ok (.if_icmp .eq 530, 3) := by decide +kernel
theorem dL_law_1072 : decode cL_law 1072 = .ok (.iconst 0, 1) := by decide +kernel
theorem dL_law_1073 : decode cL_law 1073 = .ok (.ireturn, 1) := by decide +kernel
theorem dL_law_1074 : decode cL_law 1074 = .ok (.aload_n 1, 1) := by decide +kernel
theorem dL_law_1075 : decode cL_law 1075 = .ok (.aload_n 0, 1) := by decide +kernel
theorem dL_law_1076 : decode cL_law 1076 = .ok (.iload_n 3, 1) := by decide +kernel
theorem dL_law_1077 : decode cL_law 1077 = .ok (.iconst 1, 1) := by decide +kernel
theorem dL_law_1078 : decode cL_law 1078 = .ok (.iadd, 1) := by decide +kernel
theorem dL_law_1079 : decode cL_law 1079 = .ok (.iaload, 1) := by decide +kernel
theorem dL_law_1080 : decode cL_law 1080 = .ok (.invokevirtual 104, 3) := by decide +kernel
theorem dL_law_1083 : decode cL_law 1083 = .ok (.aload_n 2, 1) := by decide +kernel
theorem dL_law_1084 : decode cL_law 1084 = .ok (.aload_n 0, 1) := by decide +kernel
theorem dL_law_1085 : decode cL_law 1085 = .ok (.iload_n 3, 1) := by decide +kernel
theorem dL_law_1086 : decode cL_law 1086 = .ok (.iconst 1, 1) := by decide +kernel
theorem dL_law_1087 : decode cL_law 1087 = .ok (.iadd, 1) := by decide +kernel
theorem dL_law_1088 : decode cL_law 1088 = .ok (.iaload, 1) := by decide +kernel
theorem dL_law_1089 : decode cL_law 1089 = .ok (.invokevirtual 107, 3) := by decide +kernel
theorem dL_law_1092 : decode cL_law 1092 = .ok (.lcmp, 1) := by decide +kernel
theorem dL_law_1093 : decode cL_law 1093 = .ok (.ifCond .eq 506, 3) := by decide +kernel
theorem dL_law_1096 : decode cL_law 1096 = .ok (.iconst 0, 1) := by decide +kernel
theorem dL_law_1097 : decode cL_law 1097 = .ok (.ireturn, 1) := by decide +kernel
theorem dL_law_1098 : decode cL_law 1098 = .ok (.aload_n 1, 1) := by decide +kernel
theorem dL_law_1099 : decode cL_law 1099 = .ok (.aload_n 0, 1) := by decide +kernel
theorem dL_law_1100 : decode cL_law 1100 = .ok (.iload_n 3, 1) := by decide +kernel
theorem dL_law_1101 : decode cL_law 1101 = .ok (.iconst 1, 1) := by decide +kernel
theorem dL_law_1102 : decode cL_law 1102 = .ok (.iadd, 1) := by decide +kernel
theorem dL_law_1103 : decode cL_law 1103 = .ok (.iaload, 1) := by decide +kernel
theorem dL_law_1104 : decode cL_law 1104 = .ok (.aload_n 0, 1) := by decide +kernel
theorem dL_law_1105 : decode cL_law 1105 = .ok (.iload_n 3, 1) := by decide +kernel
theorem dL_law_1106 : decode cL_law 1106 = .ok (.iconst 2, 1) := by decide +kernel
theorem dL_law_1107 : decode cL_law 1107 = .ok (.iadd, 1) := by decide +kernel
theorem dL_law_1108 : decode cL_law 1108 = .ok (.iaload, 1) := by decide +kernel
theorem dL_law_1109 : decode cL_law 1109 = .ok (.invokevirtual 108, 3) := by decide +kernel
theorem dL_law_1112 : decode cL_law 1112 = .ok (.aload_n 2, 1) := by decide +kernel
theorem dL_law_1113 : decode cL_law 1113 = .ok (.aload_n 0, 1) := by decide +kernel
theorem dL_law_1114 : decode cL_law 1114 = .ok (.iload_n 3, 1) := by decide +kernel
theorem dL_law_1115 : decode cL_law 1115 = .ok (.iconst 1, 1) := by decide +kernel
theorem dL_law_1116 : decode cL_law 1116 = .ok (.iadd, 1) := by decide +kernel
theorem dL_law_1117 : decode cL_law 1117 = .ok (.iaload, 1) := by decide +kernel
theorem dL_law_1118 : decode cL_law 1118 = .ok (.aload_n 0, 1) := by decide +kernel
theorem dL_law_1119 : decode cL_law 1119 = .ok (.iload_n 3, 1) := by decide +kernel
theorem dL_law_1120 : decode cL_law 1120 = .ok (.iconst 2, 1) := by decide +kernel
theorem dL_law_1121 : decode cL_law 1121 = .ok (.iadd, 1) := by decide +kernel
theorem dL_law_1122 : decode cL_law 1122 = .ok (.iaload, 1) := by decide +kernel
theorem dL_law_1123 : decode cL_law 1123 = .ok (.invokevirtual 112, 3) := by decide +kernel
theorem dL_law_1126 : decode cL_law 1126 = .ok (.if_icmp .eq 473, 3) := by decide +kernel
theorem dL_law_1129 : decode cL_law 1129 = .ok (.iconst 0, 1) := by decide +kernel
theorem dL_law_1130 : decode cL_law 1130 = .ok (.ireturn, 1) := by decide +kernel
theorem dL_law_1131 : decode cL_law 1131 = .ok (.aload_n 1, 1) := by decide +kernel
theorem dL_law_1132 : decode cL_law 1132 = .ok (.aload_n 0, 1) := by decide +kernel
theorem dL_law_1133 : decode cL_law 1133 = .ok (.iload_n 3, 1) := by decide +kernel
theorem dL_law_1134 : decode cL_law 1134 = .ok (.iconst 1, 1) := by decide +kernel
theorem dL_law_1135 : decode cL_law 1135 = .ok (.iadd, 1) := by decide +kernel
theorem dL_law_1136 : decode cL_law 1136 = .ok (.iaload, 1) := by decide +kernel
theorem dL_law_1137 : decode cL_law 1137 = .ok (.aload_n 0, 1) := by decide +kernel
theorem dL_law_1138 : decode cL_law 1138 = .ok (.iload_n 3, 1) := by decide +kernel
theorem dL_law_1139 : decode cL_law 1139 = .ok (.iconst 2, 1) := by decide +kernel
theorem dL_law_1140 : decode cL_law 1140 = .ok (.iadd, 1) := by decide +kernel
theorem dL_law_1141 : decode cL_law 1141 = .ok (.iaload, 1) := by decide +kernel
theorem dL_law_1142 : decode cL_law 1142 = .ok (.invokevirtual 113, 3) := by decide +kernel
theorem dL_law_1145 : decode cL_law 1145 = .ok (.aload_n 2, 1) := by decide +kernel
theorem dL_law_1146 : decode cL_law 1146 = .ok (.aload_n 0, 1) := by decide +kernel
theorem dL_law_1147 : decode cL_law 1147 = .ok (.iload_n 3, 1) := by decide +kernel
theorem dL_law_1148 : decode cL_law 1148 = .ok (.iconst 1, 1) := by decide +kernel
theorem dL_law_1149 : decode cL_law 1149 = .ok (.iadd, 1) := by decide +kernel
theorem dL_law_1150 : decode cL_law 1150 = .ok (.iaload, 1) := by decide +kernel
theorem dL_law_1151 : decode cL_law 1151 = .ok (.aload_n 0, 1) := by decide +kernel
theorem dL_law_1152 : decode cL_law 1152 = .ok (.iload_n 3, 1) := by decide +kernel
theorem dL_law_1153 : decode cL_law 1153 = .ok (.iconst 2, 1) := by decide +kernel
theorem dL_law_1154 : decode cL_law 1154 = .ok (.iadd, 1) := by decide +kernel
theorem dL_law_1155 : decode cL_law 1155 = .ok (.iaload, 1) := by decide +kernel
theorem dL_law_1156 : decode cL_law 1156 = .ok (.invokevirtual 116, 3) := by decide +kernel
theorem dL_law_1159 : decode cL_law 1159 = .ok (.lcmp, 1) := by decide +kernel
theorem dL_law_1160 : decode cL_law 1160 = .ok (.ifCond .eq 439, 3) := by decide +kernel
theorem dL_law_1163 : decode cL_law 1163 = .ok (.iconst 0, 1) := by decide +kernel
theorem dL_law_1164 : decode cL_law 1164 = .ok (.ireturn, 1) := by decide +kernel
theorem dL_law_1165 : decode cL_law 1165 = .ok (.aload_n 1, 1) := by decide +kernel
theorem dL_law_1166 : decode cL_law 1166 = .ok (.aload_n 0, 1) := by decide +kernel
theorem dL_law_1167 : decode cL_law 1167 = .ok (.iload_n 3, 1) := by decide +kernel
theorem dL_law_1168 : decode cL_law 1168 = .ok (.iconst 1, 1) := by decide +kernel
theorem dL_law_1169 : decode cL_law 1169 = .ok (.iadd, 1) := by decide +kernel
theorem dL_law_1170 : decode cL_law 1170 = .ok (.iaload, 1) := by decide +kernel
theorem dL_law_1171 : decode cL_law 1171 = .ok (.invokevirtual 117, 3) := by decide +kernel
theorem dL_law_1174 : decode cL_law 1174 = .ok (.aload_n 2, 1) := by decide +kernel
theorem dL_law_1175 : decode cL_law 1175 = .ok (.aload_n 0, 1) := by decide +kernel
theorem dL_law_1176 : decode cL_law 1176 = .ok (.iload_n 3, 1) := by decide +kernel
theorem dL_law_1177 : decode cL_law 1177 = .ok (.iconst 1, 1) := by decide +kernel
theorem dL_law_1178 : decode cL_law 1178 = .ok (.iadd, 1) := by decide +kernel
theorem dL_law_1179 : decode cL_law 1179 = .ok (.iaload, 1) := by decide +kernel
theorem dL_law_1180 : decode cL_law 1180 = .ok (.invokevirtual 120, 3) := by decide +kernel
theorem dL_law_1183 : decode cL_law 1183 = .ok (.if_icmp .eq 416, 3) := by decide +kernel
theorem dL_law_1186 : decode cL_law 1186 = .ok (.iconst 0, 1) := by decide +kernel
theorem dL_law_1187 : decode cL_law 1187 = .ok (.ireturn, 1) := by decide +kernel
theorem dL_law_1188 : decode cL_law 1188 = .ok (.aload_n 1, 1) := by decide +kernel
theorem dL_law_1189 : decode cL_law 1189 = .ok (.aload_n 0, 1) := by decide +kernel
theorem dL_law_1190 : decode cL_law 1190 = .ok (.iload_n 3, 1) := by decide +kernel
theorem dL_law_1191 : decode cL_law 1191 = .ok (.iconst 1, 1) := by decide +kernel
theorem dL_law_1192 : decode cL_law 1192 = .ok (.iadd, 1) := by decide +kernel
theorem dL_law_1193 : decode cL_law 1193 = .ok (.iaload, 1) := by decide +kernel
theorem dL_law_1194 : decode cL_law 1194 = .ok (.i2l, 1) := by decide +kernel
theorem dL_law_1195 : decode cL_law 1195 = .ok (.bipush 32, 2) := by decide +kernel
theorem dL_law_1197 : decode cL_law 1197 = .ok (.lshl, 1) := by decide +kernel
theorem dL_law_1198 : decode cL_law 1198 = .ok (.aload_n 0, 1) := by decide +kernel
theorem dL_law_1199 : decode cL_law 1199 = .ok (.iload_n 3, 1) := by decide +kernel
theorem dL_law_1200 : decode cL_law 1200 = .ok (.iconst 2, 1) := by decide +kernel
theorem dL_law_1201 : decode cL_law 1201 = .ok (.iadd, 1) := by decide +kernel
theorem dL_law_1202 : decode cL_law 1202 = .ok (.iaload, 1) := by decide +kernel
theorem dL_law_1203 : decode cL_law 1203 = .ok (.i2l, 1) := by decide +kernel
theorem dL_law_1204 : decode cL_law 1204 = .ok (.ldc2_w 23, 3) := by decide +kernel
theorem dL_law_1207 : decode cL_law 1207 = .ok (.land, 1) := by decide +kernel
theorem dL_law_1208 : decode cL_law 1208 = .ok (.lor, 1) := by decide +kernel
theorem dL_law_1209 : decode cL_law 1209 = .ok (.aload_n 0, 1) := by decide +kernel
theorem dL_law_1210 : decode cL_law 1210 = .ok (.iload_n 3, 1) := by decide +kernel
theorem dL_law_1211 : decode cL_law 1211 = .ok (.iconst 3, 1) := by decide +kernel
theorem dL_law_1212 : decode cL_law 1212 = .ok (.iadd, 1) := by decide +kernel
theorem dL_law_1213 : decode cL_law 1213 = .ok (.iaload, 1) := by decide +kernel
theorem dL_law_1214 : decode cL_law 1214 = .ok (.invokevirtual 121, 3) := by decide +kernel
theorem dL_law_1217 : decode cL_law 1217 = .ok (.aload_n 2, 1) := by decide +kernel
theorem dL_law_1218 : decode cL_law 1218 = .ok (.aload_n 0, 1) := by decide +kernel
theorem dL_law_1219 : decode cL_law 1219 = .ok (.iload_n 3, 1) := by decide +kernel
theorem dL_law_1220 : decode cL_law 1220 = .ok (.iconst 1, 1) := by decide +kernel
theorem dL_law_1221 : decode cL_law 1221 = .ok (.iadd, 1) := by decide +kernel
theorem dL_law_1222 : decode cL_law 1222 = .ok (.iaload, 1) := by decide +kernel
theorem dL_law_1223 : decode cL_law 1223 = .ok (.i2l, 1) := by decide +kernel
theorem dL_law_1224 : decode cL_law 1224 = .ok (.bipush 32, 2) := by decide +kernel
theorem dL_law_1226 : decode cL_law 1226 = .ok (.lshl, 1) := by decide +kernel
theorem dL_law_1227 : decode cL_law 1227 = .ok (.aload_n 0, 1) := by decide +kernel
theorem dL_law_1228 : decode cL_law 1228 = .ok (.iload_n 3, 1) := by decide +kernel
theorem dL_law_1229 : decode cL_law 1229 = .ok (.iconst 2, 1) := by decide +kernel
theorem dL_law_1230 : decode cL_law 1230 = .ok (.iadd, 1) := by decide +kernel
theorem dL_law_1231 : decode cL_law 1231 = .ok (.iaload, 1) := by decide +kernel
theorem dL_law_1232 : decode cL_law 1232 = .ok (.i2l, 1) := by decide +kernel
theorem dL_law_1233 : decode cL_law 1233 = .ok (.ldc2_w 23, 3) := by decide +kernel
theorem dL_law_1236 : decode cL_law 1236 = .ok (.land, 1) := by decide +kernel
theorem dL_law_1237 : decode cL_law 1237 = .ok (.lor, 1) := by decide +kernel
theorem dL_law_1238 : decode cL_law 1238 = .ok (.aload_n 0, 1) := by decide +kernel
theorem dL_law_1239 : decode cL_law 1239 = .ok (.iload_n 3, 1) := by decide +kernel
theorem dL_law_1240 : decode cL_law 1240 = .ok (.iconst 3, 1) := by decide +kernel
theorem dL_law_1241 : decode cL_law 1241 = .ok (.iadd, 1) := by decide +kernel
theorem dL_law_1242 : decode cL_law 1242 = .ok (.iaload, 1) := by decide +kernel
theorem dL_law_1243 : decode cL_law 1243 = .ok (.invokevirtual 125, 3) := by decide +kernel
theorem dL_law_1246 : decode cL_law 1246 = .ok (.if_icmp .eq 353, 3) := by decide +kernel
theorem dL_law_1249 : decode cL_law 1249 = .ok (.iconst 0, 1) := by decide +kernel
theorem dL_law_1250 : decode cL_law 1250 = .ok (.ireturn, 1) := by decide +kernel
theorem dL_law_1251 : decode cL_law 1251 = .ok (.aload_n 1, 1) := by decide +kernel
theorem dL_law_1252 : decode cL_law 1252 = .ok (.aload_n 0, 1) := by decide +kernel
theorem dL_law_1253 : decode cL_law 1253 = .ok (.iload_n 3, 1) := by decide +kernel
theorem dL_law_1254 : decode cL_law 1254 = .ok (.iconst 1, 1) := by decide +kernel
theorem dL_law_1255 : decode cL_law 1255 = .ok (.iadd, 1) := by decide +kernel
theorem dL_law_1256 : decode cL_law 1256 = .ok (.iaload, 1) := by decide +kernel
theorem dL_law_1257 : decode cL_law 1257 = .ok (.invokevirtual 126, 3) := by decide +kernel
theorem dL_law_1260 : decode cL_law 1260 = .ok (.aload_n 2, 1) := by decide +kernel
theorem dL_law_1261 : decode cL_law 1261 = .ok (.aload_n 0, 1) := by decide +kernel
theorem dL_law_1262 : decode cL_law 1262 = .ok (.iload_n 3, 1) := by decide +kernel
theorem dL_law_1263 : decode cL_law 1263 = .ok (.iconst 1, 1) := by decide +kernel
theorem dL_law_1264 : decode cL_law 1264 = .ok (.iadd, 1) := by decide +kernel
theorem dL_law_1265 : decode cL_law 1265 = .ok (.iaload, 1) := by decide +kernel
theorem dL_law_1266 : decode cL_law 1266 = .ok (.invokevirtual 129, 3) := by decide +kernel
theorem dL_law_1269 : decode cL_law 1269 = .ok (.lcmp, 1) := by decide +kernel
theorem dL_law_1270 : decode cL_law 1270 = .ok (.ifCond .eq 329, 3) := by decide +kernel
theorem dL_law_1273 : decode cL_law 1273 = .ok (.iconst 0, 1) := by decide +kernel
theorem dL_law_1274 : decode cL_law 1274 = .ok (.ireturn, 1) := by decide +kernel
theorem dL_law_1275 : decode cL_law 1275 = .ok (.aload_n 1, 1) := by decide +kernel
theorem dL_law_1276 : decode cL_law 1276 = .ok (.aload_n 0, 1) := by decide +kernel
theorem dL_law_1277 : decode cL_law 1277 = .ok (.iload_n 3, 1) := by decide +kernel
theorem dL_law_1278 : decode cL_law 1278 = .ok (.iconst 1, 1) := by decide +kernel
theorem dL_law_1279 : decode cL_law 1279 = .ok (.iadd, 1) := by decide +kernel
theorem dL_law_1280 : decode cL_law 1280 = .ok (.iaload, 1) := by decide +kernel
theorem dL_law_1281 : decode cL_law 1281 = .ok (.i2l, 1) := by decide +kernel
theorem dL_law_1282 : decode cL_law 1282 = .ok (.bipush 32, 2) := by decide +kernel
theorem dL_law_1284 : decode cL_law 1284 = .ok (.lshl, 1) := by decide +kernel
theorem dL_law_1285 : decode cL_law 1285 = .ok (.aload_n 0, 1) := by decide +kernel
theorem dL_law_1286 : decode cL_law 1286 = .ok (.iload_n 3, 1) := by decide +kernel
theorem dL_law_1287 : decode cL_law 1287 = .ok (.iconst 2, 1) := by decide +kernel
theorem dL_law_1288 : decode cL_law 1288 = .ok (.iadd, 1) := by decide +kernel
theorem dL_law_1289 : decode cL_law 1289 = .ok (.iaload, 1) := by decide +kernel
theorem dL_law_1290 : decode cL_law 1290 = .ok (.i2l, 1) := by decide +kernel
theorem dL_law_1291 : decode cL_law 1291 = .ok (.ldc2_w 23, 3) := by decide +kernel
theorem dL_law_1294 : decode cL_law 1294 = .ok (.land, 1) := by decide +kernel
theorem dL_law_1295 : decode cL_law 1295 = .ok (.lor, 1) := by decide +kernel
theorem dL_law_1296 : decode cL_law 1296 = .ok (.aload_n 0, 1) := by decide +kernel
theorem dL_law_1297 : decode cL_law 1297 = .ok (.iload_n 3, 1) := by decide +kernel
theorem dL_law_1298 : decode cL_law 1298 = .ok (.iconst 3, 1) := by decide +kernel
theorem dL_law_1299 : decode cL_law 1299 = .ok (.iadd, 1) := by decide +kernel
theorem dL_law_1300 : decode cL_law 1300 = .ok (.iaload, 1) := by decide +kernel
theorem dL_law_1301 : decode cL_law 1301 = .ok (.i2l, 1) := by decide +kernel
theorem dL_law_1302 : decode cL_law 1302 = .ok (.bipush 32, 2) := by decide +kernel
theorem dL_law_1304 : decode cL_law 1304 = .ok (.lshl, 1) := by decide +kernel
theorem dL_law_1305 : decode cL_law 1305 = .ok (.aload_n 0, 1) := by decide +kernel
theorem dL_law_1306 : decode cL_law 1306 = .ok (.iload_n 3, 1) := by decide +kernel
theorem dL_law_1307 : decode cL_law 1307 = .ok (.iconst 4, 1) := by decide +kernel
theorem dL_law_1308 : decode cL_law 1308 = .ok (.iadd, 1) := by decide +kernel
theorem dL_law_1309 : decode cL_law 1309 = .ok (.iaload, 1) := by decide +kernel
theorem dL_law_1310 : decode cL_law 1310 = .ok (.i2l, 1) := by decide +kernel
theorem dL_law_1311 : decode cL_law 1311 = .ok (.ldc2_w 23, 3) := by decide +kernel
theorem dL_law_1314 : decode cL_law 1314 = .ok (.land, 1) := by decide +kernel
theorem dL_law_1315 : decode cL_law 1315 = .ok (.lor, 1) := by decide +kernel
theorem dL_law_1316 : decode cL_law 1316 = .ok (.aload_n 0, 1) := by decide +kernel
theorem dL_law_1317 : decode cL_law 1317 = .ok (.iload_n 3, 1) := by decide +kernel
theorem dL_law_1318 : decode cL_law 1318 = .ok (.iconst 5, 1) := by decide +kernel
theorem dL_law_1319 : decode cL_law 1319 = .ok (.iadd, 1) := by decide +kernel
theorem dL_law_1320 : decode cL_law 1320 = .ok (.iaload, 1) := by decide +kernel
theorem dL_law_1321 : decode cL_law 1321 = .ok (.i2l, 1) := by decide +kernel
theorem dL_law_1322 : decode cL_law 1322 = .ok (.bipush 32, 2) := by decide +kernel
theorem dL_law_1324 : decode cL_law 1324 = .ok (.lshl, 1) := by decide +kernel
theorem dL_law_1325 : decode cL_law 1325 = .ok (.aload_n 0, 1) := by decide +kernel
theorem dL_law_1326 : decode cL_law 1326 = .ok (.iload_n 3, 1) := by decide +kernel
theorem dL_law_1327 : decode cL_law 1327 = .ok (.bipush 6, 2) := by decide +kernel
theorem dL_law_1329 : decode cL_law 1329 = .ok (.iadd, 1) := by decide +kernel
theorem dL_law_1330 : decode cL_law 1330 = .ok (.iaload, 1) := by decide +kernel
theorem dL_law_1331 : decode cL_law 1331 = .ok (.i2l, 1) := by decide +kernel
theorem dL_law_1332 : decode cL_law 1332 = .ok (.ldc2_w 23, 3) := by decide +kernel
theorem dL_law_1335 : decode cL_law 1335 = .ok (.land, 1) := by decide +kernel
theorem dL_law_1336 : decode cL_law 1336 = .ok (.lor, 1) := by decide +kernel
theorem dL_law_1337 : decode cL_law 1337 = .ok (.invokevirtual 130, 3) := by decide +kernel
theorem dL_law_1340 : decode cL_law 1340 = .ok (.aload_n 2, 1) := by decide +kernel
theorem dL_law_1341 : decode cL_law 1341 = .ok (.aload_n 0, 1) := by decide +kernel
theorem dL_law_1342 : decode cL_law 1342 = .ok (.iload_n 3, 1) := by decide +kernel
theorem dL_law_1343 : decode cL_law 1343 = .ok (.iconst 1, 1) := by decide +kernel
theorem dL_law_1344 : decode cL_law 1344 = .ok (.iadd, 1) := by decide +kernel
theorem dL_law_1345 : decode cL_law 1345 = .ok (.iaload, 1) := by decide +kernel
theorem dL_law_1346 : decode cL_law 1346 = .ok (.i2l, 1) := by decide +kernel
theorem dL_law_1347 : decode cL_law 1347 = .ok (.bipush 32, 2) := by decide +kernel
theorem dL_law_1349 : decode cL_law 1349 = .ok (.lshl, 1) := by decide +kernel
theorem dL_law_1350 : decode cL_law 1350 = .ok (.aload_n 0, 1) := by decide +kernel
theorem dL_law_1351 : decode cL_law 1351 = .ok (.iload_n 3, 1) := by decide +kernel
theorem dL_law_1352 : decode cL_law 1352 = .ok (.iconst 2, 1) := by decide +kernel
theorem dL_law_1353 : decode cL_law 1353 = .ok (.iadd, 1) := by decide +kernel
theorem dL_law_1354 : decode cL_law 1354 = .ok (.iaload, 1) := by decide +kernel
theorem dL_law_1355 : decode cL_law 1355 = .ok (.i2l, 1) := by decide +kernel
theorem dL_law_1356 : decode cL_law 1356 = .ok (.ldc2_w 23, 3) := by decide +kernel
theorem dL_law_1359 : decode cL_law 1359 = .ok (.land, 1) := by decide +kernel
theorem dL_law_1360 : decode cL_law 1360 = .ok (.lor, 1) := by decide +kernel
theorem dL_law_1361 : decode cL_law 1361 = .ok (.aload_n 0, 1) := by decide +kernel
theorem dL_law_1362 : decode cL_law 1362 = .ok (.iload_n 3, 1) := by decide +kernel
theorem dL_law_1363 : decode cL_law 1363 = .ok (.iconst 3, 1) := by decide +kernel
theorem dL_law_1364 : decode cL_law 1364 = .ok (.iadd, 1) := by decide +kernel
theorem dL_law_1365 : decode cL_law 1365 = .ok (.iaload, 1) := by decide +kernel
theorem dL_law_1366 : decode cL_law 1366 = .ok (.i2l, 1) := by decide +kernel
theorem dL_law_1367 : decode cL_law 1367 = .ok (.bipush 32, 2) := by decide +kernel
theorem dL_law_1369 : decode cL_law 1369 = .ok (.lshl, 1) := by decide +kernel
theorem dL_law_1370 : decode cL_law 1370 = .ok (.aload_n 0, 1) := by decide +kernel
theorem dL_law_1371 : decode cL_law 1371 = .ok (.iload_n 3, 1) := by decide +kernel
theorem dL_law_1372 : decode cL_law 1372 = .ok (.iconst 4, 1) := by decide +kernel
theorem dL_law_1373 : decode cL_law 1373 = .ok (.iadd, 1) := by decide +kernel
theorem dL_law_1374 : decode cL_law 1374 = .ok (.iaload, 1) := by decide +kernel
theorem dL_law_1375 : decode cL_law 1375 = .ok (.i2l, 1) := by decide +kernel
theorem dL_law_1376 : decode cL_law 1376 = .ok (.ldc2_w 23, 3) := by decide +kernel
theorem dL_law_1379 : decode cL_law 1379 = .ok (.land, 1) := by decide +kernel
theorem dL_law_1380 : decode cL_law 1380 = .ok (.lor, 1) := by decide +kernel
theorem dL_law_1381 : decode cL_law 1381 = .ok (.aload_n 0, 1) := by decide +kernel
theorem dL_law_1382 : decode cL_law 1382 = .ok (.iload_n 3, 1) := by decide +kernel
theorem dL_law_1383 : decode cL_law 1383 = .ok (.iconst 5, 1) := by decide +kernel
theorem dL_law_1384 : decode cL_law 1384 = .ok (.iadd, 1) := by decide +kernel
theorem dL_law_1385 : decode cL_law 1385 = .ok (.iaload, 1) := by decide +kernel
theorem dL_law_1386 : decode cL_law 1386 = .ok (.i2l, 1) := by decide +kernel
theorem dL_law_1387 : decode cL_law 1387 = .ok (.bipush 32, 2) := by decide +kernel
theorem dL_law_1389 : decode cL_law 1389 = .ok (.lshl, 1) := by decide +kernel
theorem dL_law_1390 : decode cL_law 1390 = .ok (.aload_n 0, 1) := by decide +kernel
theorem dL_law_1391 : decode cL_law 1391 = .ok (.iload_n 3, 1) := by decide +kernel
theorem dL_law_1392 : decode cL_law 1392 = .ok (.bipush 6, 2) := by decide +kernel
theorem dL_law_1394 : decode cL_law 1394 = .ok (.iadd, 1) := by decide +kernel
theorem dL_law_1395 : decode cL_law 1395 = .ok (.iaload, 1) := by decide +kernel
theorem dL_law_1396 : decode cL_law 1396 = .ok (.i2l, 1) := by decide +kernel
theorem dL_law_1397 : decode cL_law 1397 = .ok (.ldc2_w 23, 3) := by decide +kernel
theorem dL_law_1400 : decode cL_law 1400 = .ok (.land, 1) := by decide +kernel
theorem dL_law_1401 : decode cL_law 1401 = .ok (.lor, 1) := by decide +kernel
theorem dL_law_1402 : decode cL_law 1402 = .ok (.invokevirtual 134, 3) := by decide +kernel
theorem dL_law_1405 : decode cL_law 1405 = .ok (.if_icmp .eq 194, 3) := by decide +kernel
theorem dL_law_1408 : decode cL_law 1408 = .ok (.iconst 0, 1) := by decide +kernel
theorem dL_law_1409 : decode cL_law 1409 = .ok (.ireturn, 1) := by decide +kernel
theorem dL_law_1410 : decode cL_law 1410 = .ok (.aload_n 1, 1) := by decide +kernel
theorem dL_law_1411 : decode cL_law 1411 = .ok (.aload_n 0, 1) := by decide +kernel
theorem dL_law_1412 : decode cL_law 1412 = .ok (.iload_n 3, 1) := by decide +kernel
theorem dL_law_1413 : decode cL_law 1413 = .ok (.iconst 1, 1) := by decide +kernel
theorem dL_law_1414 : decode cL_law 1414 = .ok (.iadd, 1) := by decide +kernel
theorem dL_law_1415 : decode cL_law 1415 = .ok (.iaload, 1) := by decide +kernel
theorem dL_law_1416 : decode cL_law 1416 = .ok (.invokevirtual 135, 3) := by decide +kernel
theorem dL_law_1419 : decode cL_law 1419 = .ok (.aload_n 2, 1) := by decide +kernel
theorem dL_law_1420 : decode cL_law 1420 = .ok (.aload_n 0, 1) := by decide +kernel
theorem dL_law_1421 : decode cL_law 1421 = .ok (.iload_n 3, 1) := by decide +kernel
theorem dL_law_1422 : decode cL_law 1422 = .ok (.iconst 1, 1) := by decide +kernel
theorem dL_law_1423 : decode cL_law 1423 = .ok (.iadd, 1) := by decide +kernel
theorem dL_law_1424 : decode cL_law 1424 = .ok (.iaload, 1) := by decide +kernel
theorem dL_law_1425 : decode cL_law 1425 = .ok (.invokevirtual 138, 3) := by decide +kernel
theorem dL_law_1428 : decode cL_law 1428 = .ok (.lcmp, 1) := by decide +kernel
theorem dL_law_1429 : decode cL_law 1429 = .ok (.ifCond .eq 170, 3) := by decide +kernel
theorem dL_law_1432 : decode cL_law 1432 = .ok (.iconst 0, 1) := by decide +kernel
theorem dL_law_1433 : decode cL_law 1433 = .ok (.ireturn, 1) := by decide +kernel
theorem dL_law_1434 : decode cL_law 1434 = .ok (.aload_n 1, 1) := by decide +kernel
theorem dL_law_1435 : decode cL_law 1435 = .ok (.aload_n 0, 1) := by decide +kernel
theorem dL_law_1436 : decode cL_law 1436 = .ok (.iload_n 3, 1) := by decide +kernel
theorem dL_law_1437 : decode cL_law 1437 = .ok (.iconst 1, 1) := by decide +kernel
theorem dL_law_1438 : decode cL_law 1438 = .ok (.iadd, 1) := by decide +kernel
theorem dL_law_1439 : decode cL_law 1439 = .ok (.iaload, 1) := by decide +kernel
theorem dL_law_1440 : decode cL_law 1440 = .ok (.aload_n 0, 1) := by decide +kernel
theorem dL_law_1441 : decode cL_law 1441 = .ok (.iload_n 3, 1) := by decide +kernel
theorem dL_law_1442 : decode cL_law 1442 = .ok (.iconst 2, 1) := by decide +kernel
theorem dL_law_1443 : decode cL_law 1443 = .ok (.iadd, 1) := by decide +kernel
theorem dL_law_1444 : decode cL_law 1444 = .ok (.iaload, 1) := by decide +kernel
theorem dL_law_1445 : decode cL_law 1445 = .ok (.i2l, 1) := by decide +kernel
theorem dL_law_1446 : decode cL_law 1446 = .ok (.bipush 32, 2) := by decide +kernel
theorem dL_law_1448 : decode cL_law 1448 = .ok (.lshl, 1) := by decide +kernel
theorem dL_law_1449 : decode cL_law 1449 = .ok (.aload_n 0, 1) := by decide +kernel
theorem dL_law_1450 : decode cL_law 1450 = .ok (.iload_n 3, 1) := by decide +kernel
theorem dL_law_1451 : decode cL_law 1451 = .ok (.iconst 3, 1) := by decide +kernel
theorem dL_law_1452 : decode cL_law 1452 = .ok (.iadd, 1) := by decide +kernel
theorem dL_law_1453 : decode cL_law 1453 = .ok (.iaload, 1) := by decide +kernel
theorem dL_law_1454 : decode cL_law 1454 = .ok (.i2l, 1) := by decide +kernel
theorem dL_law_1455 : decode cL_law 1455 = .ok (.ldc2_w 23, 3) := by decide +kernel
theorem dL_law_1458 : decode cL_law 1458 = .ok (.land, 1) := by decide +kernel
theorem dL_law_1459 : decode cL_law 1459 = .ok (.lor, 1) := by decide +kernel
theorem dL_law_1460 : decode cL_law 1460 = .ok (.aload_n 0, 1) := by decide +kernel
theorem dL_law_1461 : decode cL_law 1461 = .ok (.iload_n 3, 1) := by decide +kernel
theorem dL_law_1462 : decode cL_law 1462 = .ok (.iconst 4, 1) := by decide +kernel
theorem dL_law_1463 : decode cL_law 1463 = .ok (.iadd, 1) := by decide +kernel
theorem dL_law_1464 : decode cL_law 1464 = .ok (.iaload, 1) := by decide +kernel
theorem dL_law_1465 : decode cL_law 1465 = .ok (.i2l, 1) := by decide +kernel
theorem dL_law_1466 : decode cL_law 1466 = .ok (.bipush 32, 2) := by decide +kernel
theorem dL_law_1468 : decode cL_law 1468 = .ok (.lshl, 1) := by decide +kernel
theorem dL_law_1469 : decode cL_law 1469 = .ok (.aload_n 0, 1) := by decide +kernel
theorem dL_law_1470 : decode cL_law 1470 = .ok (.iload_n 3, 1) := by decide +kernel
theorem dL_law_1471 : decode cL_law 1471 = .ok (.iconst 5, 1) := by decide +kernel
theorem dL_law_1472 : decode cL_law 1472 = .ok (.iadd, 1) := by decide +kernel
theorem dL_law_1473 : decode cL_law 1473 = .ok (.iaload, 1) := by decide +kernel
theorem dL_law_1474 : decode cL_law 1474 = .ok (.i2l, 1) := by decide +kernel
theorem dL_law_1475 : decode cL_law 1475 = .ok (.ldc2_w 23, 3) := by decide +kernel
theorem dL_law_1478 : decode cL_law 1478 = .ok (.land, 1) := by decide +kernel
theorem dL_law_1479 : decode cL_law 1479 = .ok (.lor, 1) := by decide +kernel
theorem dL_law_1480 : decode cL_law 1480 = .ok (.invokevirtual 139, 3) := by decide +kernel
theorem dL_law_1483 : decode cL_law 1483 = .ok (.aload_n 2, 1) := by decide +kernel
theorem dL_law_1484 : decode cL_law 1484 = .ok (.aload_n 0, 1) := by decide +kernel
theorem dL_law_1485 : decode cL_law 1485 = .ok (.iload_n 3, 1) := by decide +kernel
theorem dL_law_1486 : decode cL_law 1486 = .ok (.iconst 1, 1) := by decide +kernel
theorem dL_law_1487 : decode cL_law 1487 = .ok (.iadd, 1) := by decide +kernel
theorem dL_law_1488 : decode cL_law 1488 = .ok (.iaload, 1) := by decide +kernel
theorem dL_law_1489 : decode cL_law 1489 = .ok (.aload_n 0, 1) := by decide +kernel
theorem dL_law_1490 : decode cL_law 1490 = .ok (.iload_n 3, 1) := by decide +kernel
theorem dL_law_1491 : decode cL_law 1491 = .ok (.iconst 2, 1) := by decide +kernel
theorem dL_law_1492 : decode cL_law 1492 = .ok (.iadd, 1) := by decide +kernel
theorem dL_law_1493 : decode cL_law 1493 = .ok (.iaload, 1) := by decide +kernel
theorem dL_law_1494 : decode cL_law 1494 = .ok (.i2l, 1) := by decide +kernel
theorem dL_law_1495 : decode cL_law 1495 = .ok (.bipush 32, 2) := by decide +kernel
theorem dL_law_1497 : decode cL_law 1497 = .ok (.lshl, 1) := by decide +kernel
theorem dL_law_1498 : decode cL_law 1498 = .ok (.aload_n 0, 1) := by decide +kernel
theorem dL_law_1499 : decode cL_law 1499 = .ok (.iload_n 3, 1) := by decide +kernel
theorem dL_law_1500 : decode cL_law 1500 = .ok (.iconst 3, 1) := by decide +kernel
theorem dL_law_1501 : decode cL_law 1501 = .ok (.iadd, 1) := by decide +kernel
theorem dL_law_1502 : decode cL_law 1502 = .ok (.iaload, 1) := by decide +kernel
theorem dL_law_1503 : decode cL_law 1503 = .ok (.i2l, 1) := by decide +kernel
theorem dL_law_1504 : decode cL_law 1504 = .ok (.ldc2_w 23, 3) := by decide +kernel
theorem dL_law_1507 : decode cL_law 1507 = .ok (.land, 1) := by decide +kernel
theorem dL_law_1508 : decode cL_law 1508 = .ok (.lor, 1) := by decide +kernel
theorem dL_law_1509 : decode cL_law 1509 = .ok (.aload_n 0, 1) := by decide +kernel
theorem dL_law_1510 : decode cL_law 1510 = .ok (.iload_n 3, 1) := by decide +kernel
theorem dL_law_1511 : decode cL_law 1511 = .ok (.iconst 4, 1) := by decide +kernel
theorem dL_law_1512 : decode cL_law 1512 = .ok (.iadd, 1) := by decide +kernel
theorem dL_law_1513 : decode cL_law 1513 = .ok (.iaload, 1) := by decide +kernel
theorem dL_law_1514 : decode cL_law 1514 = .ok (.i2l, 1) := by decide +kernel
theorem dL_law_1515 : decode cL_law 1515 = .ok (.bipush 32, 2) := by decide +kernel
theorem dL_law_1517 : decode cL_law 1517 = .ok (.lshl, 1) := by decide +kernel
theorem dL_law_1518 : decode cL_law 1518 = .ok (.aload_n 0, 1) := by decide +kernel
theorem dL_law_1519 : decode cL_law 1519 = .ok (.iload_n 3, 1) := by decide +kernel
theorem dL_law_1520 : decode cL_law 1520 = .ok (.iconst 5, 1) := by decide +kernel
theorem dL_law_1521 : decode cL_law 1521 = .ok (.iadd, 1) := by decide +kernel
theorem dL_law_1522 : decode cL_law 1522 = .ok (.iaload, 1) := by decide +kernel
theorem dL_law_1523 : decode cL_law 1523 = .ok (.i2l, 1) := by decide +kernel
theorem dL_law_1524 : decode cL_law 1524 = .ok (.ldc2_w 23, 3) := by decide +kernel
theorem dL_law_1527 : decode cL_law 1527 = .ok (.land, 1) := by decide +kernel
theorem dL_law_1528 : decode cL_law 1528 = .ok (.lor, 1) := by decide +kernel
theorem dL_law_1529 : decode cL_law 1529 = .ok (.invokevirtual 143, 3) := by decide +kernel
theorem dL_law_1532 : decode cL_law 1532 = .ok (.lcmp, 1) := by decide +kernel
theorem dL_law_1533 : decode cL_law 1533 = .ok (.ifCond .eq 66, 3) := by decide +kernel
theorem dL_law_1536 : decode cL_law 1536 = .ok (.iconst 0, 1) := by decide +kernel
theorem dL_law_1537 : decode cL_law 1537 = .ok (.ireturn, 1) := by decide +kernel
theorem dL_law_1538 : decode cL_law 1538 = .ok (.aload_n 1, 1) := by decide +kernel
theorem dL_law_1539 : decode cL_law 1539 = .ok (.aload_n 0, 1) := by decide +kernel
theorem dL_law_1540 : decode cL_law 1540 = .ok (.iload_n 3, 1) := by decide +kernel
theorem dL_law_1541 : decode cL_law 1541 = .ok (.iconst 1, 1) := by decide +kernel
theorem dL_law_1542 : decode cL_law 1542 = .ok (.iadd, 1) := by decide +kernel
theorem dL_law_1543 : decode cL_law 1543 = .ok (.iaload, 1) := by decide +kernel
theorem dL_law_1544 : decode cL_law 1544 = .ok (.invokevirtual 144, 3) := by decide +kernel
theorem dL_law_1547 : decode cL_law 1547 = .ok (.aload_n 2, 1) := by decide +kernel
theorem dL_law_1548 : decode cL_law 1548 = .ok (.aload_n 0, 1) := by decide +kernel
theorem dL_law_1549 : decode cL_law 1549 = .ok (.iload_n 3, 1) := by decide +kernel
theorem dL_law_1550 : decode cL_law 1550 = .ok (.iconst 1, 1) := by decide +kernel
theorem dL_law_1551 : decode cL_law 1551 = .ok (.iadd, 1) := by decide +kernel
theorem dL_law_1552 : decode cL_law 1552 = .ok (.iaload, 1) := by decide +kernel
theorem dL_law_1553 : decode cL_law 1553 = .ok (.invokevirtual 147, 3) := by decide +kernel
theorem dL_law_1556 : decode cL_law 1556 = .ok (.lcmp, 1) := by decide +kernel
theorem dL_law_1557 : decode cL_law 1557 = .ok (.ifCond .eq 42, 3) := by decide +kernel
theorem dL_law_1560 : decode cL_law 1560 = .ok (.iconst 0, 1) := by decide +kernel
theorem dL_law_1561 : decode cL_law 1561 = .ok (.ireturn, 1) := by decide +kernel
theorem dL_law_1562 : decode cL_law 1562 = .ok (.aload_n 1, 1) := by decide +kernel
theorem dL_law_1563 : decode cL_law 1563 = .ok (.aload_n 0, 1) := by decide +kernel
theorem dL_law_1564 : decode cL_law 1564 = .ok (.iload_n 3, 1) := by decide +kernel
theorem dL_law_1565 : decode cL_law 1565 = .ok (.iconst 1, 1) := by decide +kernel
theorem dL_law_1566 : decode cL_law 1566 = .ok (.iadd, 1) := by decide +kernel
theorem dL_law_1567 : decode cL_law 1567 = .ok (.iaload, 1) := by decide +kernel
theorem dL_law_1568 : decode cL_law 1568 = .ok (.invokevirtual 148, 3) := by decide +kernel
theorem dL_law_1571 : decode cL_law 1571 = .ok (.aload_n 2, 1) := by decide +kernel
theorem dL_law_1572 : decode cL_law 1572 = .ok (.aload_n 0, 1) := by decide +kernel
theorem dL_law_1573 : decode cL_law 1573 = .ok (.iload_n 3, 1) := by decide +kernel
theorem dL_law_1574 : decode cL_law 1574 = .ok (.iconst 1, 1) := by decide +kernel
theorem dL_law_1575 : decode cL_law 1575 = .ok (.iadd, 1) := by decide +kernel
theorem dL_law_1576 : decode cL_law 1576 = .ok (.iaload, 1) := by decide +kernel
theorem dL_law_1577 : decode cL_law 1577 = .ok (.invokevirtual 151, 3) := by decide +kernel
theorem dL_law_1580 : decode cL_law 1580 = .ok (.if_icmp .eq 19, 3) := by decide +kernel
theorem dL_law_1583 : decode cL_law 1583 = .ok (.iconst 0, 1) := by decide +kernel
theorem dL_law_1584 : decode cL_law 1584 = .ok (.ireturn, 1) := by decide +kernel
theorem dL_law_1585 : decode cL_law 1585 = .ok (.aload_n 1, 1) := by decide +kernel
theorem dL_law_1586 : decode cL_law 1586 = .ok (.invokevirtual 152, 3) := by decide +kernel
theorem dL_law_1589 : decode cL_law 1589 = .ok (.aload_n 2, 1) := by decide +kernel
theorem dL_law_1590 : decode cL_law 1590 = .ok (.invokevirtual 156, 3) := by decide +kernel
theorem dL_law_1593 : decode cL_law 1593 = .ok (.lcmp, 1) := by decide +kernel
theorem dL_law_1594 : decode cL_law 1594 = .ok (.ifCond .eq 5, 3) := by decide +kernel
theorem dL_law_1597 : decode cL_law 1597 = .ok (.iconst 0, 1) := by decide +kernel
theorem dL_law_1598 : decode cL_law 1598 = .ok (.ireturn, 1) := by decide +kernel
theorem dL_law_1599 : decode cL_law 1599 = .ok (.iinc 3 7, 3) := by decide +kernel
theorem dL_law_1602 : decode cL_law 1602 = .ok (.goto (-1584), 3) := by decide +kernel
theorem dL_law_1605 : decode cL_law 1605 = .ok (.iconst 1, 1) := by decide +kernel
theorem dL_law_1606 : decode cL_law 1606 = .ok (.ireturn, 1) := by decide +kernel
end
section
/-! The machine under a small picture of the heap: cells that were made since the law began, by numbers from 1 on. -/
abbrev AE : Type := (Nat × vp_A) ⊕ (Nat × (Nat → Value))
abbrev AH : Type := Nat × (Nat → AE)
abbrev AD : Type := (Nat → ClassId) × (Nat → Nat → Nat) × (Nat → ClassId)
def M (α : Type) : Type := AH → Option (α × AH)
def sa (b base : Nat) : Nat → Nat
  | 0 => b
  | k + 1 => base + k
def sv (b base : Nat) (v : Value) : Value := match v with
  | .ref k => .ref (sa b base k)
  | v => v
def sA (b base : Nat) (a : vp_A) : vp_A := (a.1, match a.2 with
  | .inr (.inr (.inr (.inr f))) => .inr (.inr (.inr (.inr (fun j => (f j).map (sa b base)))))
  | x => x)
def nF (ci : Nat) : Nat := match vwCl[ci]? with
  | some r => r.2.2
  | none => 0
def se (d : AD) (b base : Nat) (e : AE) : va_E := match e with
  | .inl (t, a) => .inl (d.2.2 t, sA b base a)
  | .inr (ci, f) => .inr (ci, (List.range (nF ci)).map (fun k => sv b base (f k)))
def tw (d : AD) (b base : Nat) (h : AH) : va_W := (List.range h.1).map (fun k => (base + k, se d b base (h.2 (k + 1))))
def lk (h : AH) (o : Nat) : Option AE := if 0 < o ∧ o ≤ h.1 then some (h.2 o) else none
theorem lk_some {h : AH} {o : Nat} {e : AE} (q : lk h o = some e) : ∃ k, o = k + 1 ∧ k < h.1 ∧ h.2 (k + 1) = e := by
  unfold lk at q
  split at q
  · next c =>
    refine ⟨o - 1, by omega, by omega, ?_⟩
    rw [show o - 1 + 1 = o by omega]
    exact Option.some.inj q
  · cases q
theorem tw_get {d : AD} {b base : Nat} {h : AH} {k : Nat} (hk : k < h.1) : (tw d b base h)[k]? = some (base + k, se d b base (h.2 (k + 1))) := by
  simp [tw, hk]
theorem tw_inv {d : AD} {b base : Nat} {h : AH} {k : Nat} {q : Nat × va_E} (hk : (tw d b base h)[k]? = some q) : k < h.1 ∧ q = (base + k, se d b base (h.2 (k + 1))) := by
  by_cases hl : k < h.1
  · rw [tw_get hl] at hk
    exact ⟨hl, (Option.some.inj hk).symm⟩
  · simp [tw, hl] at hk
theorem tw_D {d : AD} {b base : Nat} {h : AH} : va_D (fun q => base ≤ q) (tw d b base h) := by
  refine ⟨fun i j p q hi hj e => ?_, fun k q hk => ?_⟩
  · obtain ⟨-, rfl⟩ := tw_inv hi
    obtain ⟨-, rfl⟩ := tw_inv hj
    have e : base + i = base + j := e
    omega
  · obtain ⟨-, rfl⟩ := tw_inv hk
    show base ≤ base + k
    omega
theorem tw_set {d : AD} {b base : Nat} {h : AH} {k : Nat} (hk : k < h.1) (e : AE) : (tw d b base h).set k (base + k, se d b base e) = tw d b base (h.1, va_up h.2 (k + 1) e) := by
  apply List.ext_getElem?
  intro i
  by_cases hik : i = k
  · subst hik
    rw [List.getElem?_set_self (by simp [tw, hk]), tw_get (h := (h.1, va_up h.2 (i + 1) e)) hk]
    simp [va_up]
  · rw [List.getElem?_set_ne (fun z => hik z.symm)]
    by_cases hl : i < h.1
    · rw [tw_get hl, tw_get (h := (h.1, va_up h.2 (k + 1) e)) hl]
      have : ¬ (i + 1 = k + 1) := by omega
      simp [va_up, hik]
    · simp [tw, hl]
theorem tw_push {d : AD} {b base : Nat} {h : AH} (e : AE) : tw d b base h ++ [(base + h.1, se d b base e)] = tw d b base (h.1 + 1, va_up h.2 (h.1 + 1) e) := by
  apply List.ext_getElem?
  intro i
  have hlen : (tw d b base h).length = h.1 := by simp [tw]
  by_cases hl : i < h.1
  · rw [List.getElem?_append_left (by rw [hlen]; exact hl), tw_get hl, tw_get (h := (h.1 + 1, va_up h.2 (h.1 + 1) e)) (show i < h.1 + 1 by omega)]
    have : ¬ (i = h.1) := by omega
    simp [va_up, this]
  · rw [List.getElem?_append_right (by rw [hlen]; omega), hlen]
    by_cases he : i = h.1
    · subst he
      rw [tw_get (h := (h.1 + 1, va_up h.2 (h.1 + 1) e)) (show h.1 < h.1 + 1 by omega)]
      simp [va_up]
    · have h1 : ¬ i < h.1 + 1 := by omega
      have h2 : i - h.1 ≠ 0 := by omega
      rw [show (tw d b base (h.1 + 1, va_up h.2 (h.1 + 1) e))[i]? = none by simp [tw, h1]]
      simp
      omega
theorem sv_cat (b base : Nat) (v : Value) : (sv b base v).category = v.category := by
  cases v <;> rfl
def tys (d : AD) : List (ClassId × FieldType) := [(d.2.2 0, .int), (d.2.2 1, .long), (d.2.2 2, .boolean), (d.2.2 3, .object "OneBitLoop$Reel"), (d.2.2 4, .object "OneBitLoop$Twin")]
def HR (z : Bool) (d : AD) (b base : Nat) (h : AH) (H : Heap) : Prop := (z = true → H.size = base + h.1) ∧ va_P (d.1, d.2.1) vwCl (tw d b base h) H
def nestW : List (String × Nat × MethodName × String) := [("OneBitLoop", 15, yX3_init, "OneBitLoop"), ("OneBitLoop", 25, yX1_init, "OneBitLoop"), ("OneBitLoop", 32, yX4_init, "OneBitLoop"), ("OneBitLoop$Reel", 32, yX8_isNoNumber, "OneBitLoop"), ("OneBitLoop$Reel", 36, yX8_cutToSample, "OneBitLoop")]
def KX (d : AD) (U : State) : Prop := va_K (d.1, d.2.1) vwCl (tys d) U ∧ va_AO "OneBitLoop$Reel" U ∧ va_AO "OneBitLoop$Twin" U ∧ ∀ q ∈ nestW, va_Nw (.methodLinkNest q.1 q.2.1 q.2.2.1 q.2.2.2) U
theorem KX.warm {d : AD} {s U : State} (hW : s.WarmedH U.vm) (h : KX d s) : KX d U := ⟨va_K.moved hW.alike h.1, h.2.1.moved hW.alike, h.2.2.1.moved hW.alike, fun q hq => va_Nw.warmM hW (h.2.2.2 q hq)⟩
theorem KX.same {d : AD} {s U : State} (hW : s.vm = U.vm) (h : KX d s) : KX d U := by
  have ha : s.vm.Alike U.vm := by rw [hW]; exact Vm.Alike.refl _
  exact ⟨va_K.moved ha h.1, h.2.1.moved ha, h.2.2.1.moved ha, fun q hq => va_Nw.same rfl hW (h.2.2.2 q hq)⟩
def lw_g : List Cond := lw_tbl.filter goodWord
theorem lw_g_mem {w : Cond} (h : w ∈ lw_tbl) (hg : goodWord w = true) : w ∈ lw_g := List.mem_filter.mpr ⟨h, hg⟩
theorem lw_g_good {w : Cond} (h : w ∈ lw_g) : (w.onTables && w.keeps) = true ∨ ∃ ty, w = .arrayClass ty := good_of_word (List.mem_filter.mp h).2
abbrev CX (α : Type) : Type := Program × Launch × Env × Room × State × MethodId × Array Value × List Frame × Method × Code × AD × Nat × Nat × Bool × (State → Prop) × α × AH
def WM {α : Type} (X : CX α) (pc : Nat) (lo : List (Nat × Value)) (st : List Value) (nc ns : Nat) (k : M α) : Prop := match X with
  | (p, l, e, R, s, m, args, below, meth, c, d, b, base, z, Q, r0, h0) =>
    ∀ (h : AH), k h = some (r0, h0) → ∀ (H : Heap) (locs : List Loc) (ls : Array Slot), HR z d b base h H → va_S (fun q => base ≤ q) s.heap H locs → lv_has ls c.maxLocals (lo.map fun q => (q.1, sv b base q.2)) →
      W p l e R s m args below meth c H locs nc ns Q (F0 m pc ls (st.map (sv b base)))
def Cx {α : Type} (X : CX α) (own : String) (cc : ByteArray) (nL : Nat) (rm : Room) : Prop := match X with
  | (p, l, e, R, s, m, args, below, meth, c, d, b, base, z, Q, r0, h0) =>
    p.tables.exec = Jvm.exec ∧ c.code = cc ∧ c.maxLocals = nL ∧ R = rm ∧ s.vm.findClass own = some m.cls ∧ (∀ w ∈ lw_g, w.before args s = true) ∧ KX d s ∧ base ≤ s.heap.size
def Qf (z : Bool) (d : AD) (b base : Nat) (v : Option Value) (h0 : AH) : Array Value → State → Outcome → State → Prop := fun _ st o t => o = .returned v ∧ HR z d b base h0 t.heap ∧ va_F (fun q => base ≤ q) st t
def Rt {α : Type} (X : CX α) (inj : α → Option Value) (ret : Option FieldType) (mc ms : Nat) : Prop := match X with
  | (p, l, e, R, s, m, args, below, meth, c, d, b, base, z, Q, r0, h0) =>
    Q = MQ below (Qf z d b base (inj r0) h0) args s mc ms (fun q => base ≤ q) ∧ meth.sig.returnType = ret ∧ meth.locks = false
def Nm {α : Type} (X : CX α) (n : String) : Prop := match X with
  | (p, l, e, R, s, m, args, below, meth, c, d, b, base, z, Q, r0, h0) => meth.name = n
def Zx {α : Type} (X : CX α) (z' : Bool) : Prop := match X with
  | (p, l, e, R, s, m, args, below, meth, c, d, b, base, z, Q, r0, h0) => z = z'
/-- a method of the machine runs as a program over the picture -/
def Im {α : Type} (z : Bool) (y : MethodName) (cc : ByteArray) (nL : Nat) (ret : Option FieldType) (rm : Room) (inj : α → Option Value) (av : List Value) (f : M α) : Prop :=
  ∀ (l : Launch) (d : AD) (b base : Nat) (h h' : AH) (r : α), f h = some (r, h') → Met l y (Cond.code y cc nL ret :: lw_g) rm (va_Pc (av.map (sv b base)) (fun U => HR z d b base h U.heap ∧ KX d U ∧ base ≤ U.heap.size)) (Qf z d b base (inj r) h') rm.cells rm.slots (fun q => base ≤ q)
theorem lg_sl_map (b base : Nat) : ∀ av : List Value, (lg_sl (av.map (sv b base))).length = (lg_sl av).length
  | [] => rfl
  | v :: av => by
    have ih := lg_sl_map b base av
    have hc := sv_cat b base v
    by_cases h : v.category = 2
    · simp [lg_sl, hc, h] at ih ⊢; exact ih
    · simp [lg_sl, hc, h] at ih ⊢; exact ih
theorem lv_args_map (b base : Nat) : ∀ (av : List Value) (i : Nat), lv_args i (av.map (sv b base)) = (lv_args i av).map (fun q => (q.1, sv b base q.2))
  | [], _ => rfl
  | v :: av, i => by
    simp only [List.map_cons, lv_args, sv_cat, lv_args_map b base av]
theorem Im.of {α : Type} {z : Bool} {y : MethodName} {cc : ByteArray} {nL : Nat} {ret : Option FieldType} {rm : Room} {inj : α → Option Value} {av : List Value} {f : M α} (own : String) (hy : plainName y.cls = true) (ho : y.cls = own) (hav : (lg_sl av).length ≤ nL)
    (hwm : ∀ X : CX α, Cx X own cc nL rm → Rt X inj ret rm.cells rm.slots → Nm X y.name → Zx X z → WM X 0 (lv_args 0 av) [] 0 0 f) : Im z y cc nL ret rm inj av f := by
  intro l d b base h h' r hf
  refine Met.ofW (cc := cc) (maxL := nL) (ret := ret) hy rfl ?_
  intro p e s m args below meth c s₁ B hml hv
  obtain ⟨rfl, hH, hK, hbs⟩ := hv
  have hts := atoms_spec (ws := Cond.code y cc nL ret :: lw_g) B.pre
  have hown : s.vm.findClass own = some m.cls := by rw [← ho]; exact findClass_of_methodNamed B.named
  have hl := lv_entry (av.map (sv b base)) (n := nL) (by rw [lg_sl_map]; exact hav)
  rw [lg_entry_eq]
  rw [lv_args_map] at hl
  rw [← hml] at hl
  have key := hwm (p, l, e, (headSpec (Cond.code y cc nL ret :: lw_g) rm).room, s, m, (av.map (sv b base)).toArray, below, meth, c, d, b, base, z, MQ below (Qf z d b base (inj r) h') (av.map (sv b base)).toArray s rm.cells rm.slots (fun q => base ≤ q), r, h')
    ⟨B.exec, B.bytes, hml, rfl, hown, fun w hw => hts w (List.mem_cons_of_mem _ hw), hK, hbs⟩ ⟨rfl, B.returns, B.notSynchronized⟩ (name_of_methodNamed B.named B.method).1 rfl
  rw [← hml]
  exact key h hf s.heap [] _ hH va_S.rf hl
end
section
/-! Programs over the picture, and a row for each instruction. -/
def bd {α β : Type} (f : M α) (k : α → M β) : M β := fun h => match f h with
  | none => none
  | some x => k x.1 x.2
def rt {α : Type} (a : α) : M α := fun h => some (a, h)
def rz (v : Int32) : M Int32 := fun h => if v = 0 ∨ v = 1 then some (v, h) else none
def fl {α : Type} : M α := fun _ => none
def lt_ {α β : Type} (a : α) (k : α → M β) : M β := k a
def ckd {α : Type} (ci o : Nat) (f : M α) : M α := fun h => match lk h o with
  | some (.inr (c, _)) => if c = ci then f h else none
  | _ => none
def gI (ci o k : Nat) : M Int32 := fun h => match lk h o with
  | some (.inr (c, f)) => if c = ci then (match f k with
    | .int v => some (v, h)
    | _ => none) else none
  | _ => none
def gL (ci o k : Nat) : M Int64 := fun h => match lk h o with
  | some (.inr (c, f)) => if c = ci then (match f k with
    | .long v => some (v, h)
    | _ => none) else none
  | _ => none
def gR (ci o k : Nat) : M Nat := fun h => match lk h o with
  | some (.inr (c, f)) => if c = ci then (match f k with
    | .ref v => some (v, h)
    | _ => none) else none
  | _ => none
def pV (ci o k : Nat) (v : Value) : M Unit := fun h => match lk h o with
  | some (.inr (c, f)) => if c = ci then some ((), (h.1, va_up h.2 o (.inr (ci, va_up f k v)))) else none
  | _ => none
def pI (ci o k : Nat) (v : Int32) : M Unit := pV ci o k (.int v)
def pL (ci o k : Nat) (v : Int64) : M Unit := pV ci o k (.long v)
def pR (ci o k : Nat) (v : Nat) : M Unit := pV ci o k (.ref v)
def pZ (ci o k : Nat) (v : Int32) : M Unit := fun h => if v = 0 ∨ v = 1 then pV ci o k (.int v) h else none
def ldT (t : Nat) (o : Nat) (i : Int32) : M Int32 := fun h => match lk h o with
  | some (.inl (t', n, .inl f)) => if t' = t ∧ ¬ (i < 0 ∨ n ≤ i.toNatClampNeg) then some (f i.toNatClampNeg, h) else none
  | _ => none
def ldI (o : Nat) (i : Int32) : M Int32 := ldT 0 o i
def ldZ (o : Nat) (i : Int32) : M Int32 := ldT 2 o i
def ldL (o : Nat) (i : Int32) : M Int64 := fun h => match lk h o with
  | some (.inl (t', n, .inr (.inl f))) => if t' = 1 ∧ ¬ (i < 0 ∨ n ≤ i.toNatClampNeg) then some (f i.toNatClampNeg, h) else none
  | _ => none
def ldR (t : Nat) (o : Nat) (i : Int32) : M Nat := fun h => match lk h o with
  | some (.inl (t', n, .inr (.inr (.inr (.inr f))))) => if t' = t ∧ ¬ (i < 0 ∨ n ≤ i.toNatClampNeg) then (match f i.toNatClampNeg with
    | some q => some (q, h)
    | none => none) else none
  | _ => none
def stI (o : Nat) (i : Int32) (v : Int32) : M Unit := fun h => match lk h o with
  | some (.inl (t', n, .inl f)) => if t' = 0 ∧ ¬ (i < 0 ∨ n ≤ i.toNatClampNeg) then some ((), (h.1, va_up h.2 o (.inl (0, n, .inl (va_up f i.toNatClampNeg v))))) else none
  | _ => none
def stZ (o : Nat) (i : Int32) (v : Int32) : M Unit := fun h => match lk h o with
  | some (.inl (t', n, .inl f)) => if t' = 2 ∧ ¬ (i < 0 ∨ n ≤ i.toNatClampNeg) ∧ (v = 0 ∨ v = 1) then some ((), (h.1, va_up h.2 o (.inl (2, n, .inl (va_up f i.toNatClampNeg v))))) else none
  | _ => none
def stL (o : Nat) (i : Int32) (v : Int64) : M Unit := fun h => match lk h o with
  | some (.inl (t', n, .inr (.inl f))) => if t' = 1 ∧ ¬ (i < 0 ∨ n ≤ i.toNatClampNeg) then some ((), (h.1, va_up h.2 o (.inl (1, n, .inr (.inl (va_up f i.toNatClampNeg v)))))) else none
  | _ => none
/-- a cell of kind ci is put into an array of kind t (3: Reels, of kind 3; 4: Twins, of kind 6) -/
def stR (t ci : Nat) (o : Nat) (i : Int32) (v : Nat) : M Unit := fun h => match lk h o with
  | some (.inl (t', n, .inr (.inr (.inr (.inr f))))) => match lk h v with
    | some (.inr (c, _)) => if t' = t ∧ c = ci ∧ ¬ (i < 0 ∨ n ≤ i.toNatClampNeg) then some ((), (h.1, va_up h.2 o (.inl (t, n, .inr (.inr (.inr (.inr (va_up f i.toNatClampNeg (some v)))))))) ) else none
    | _ => none
  | _ => none
def alen (t o : Nat) : M Int32 := fun h => match lk h o with
  | some (.inl (t', n, _)) => if t' = t then some (Int32.ofNat n, h) else none
  | _ => none
def nw (e : AE) : M Nat := fun h => some (h.1 + 1, (h.1 + 1, va_up h.2 (h.1 + 1) e))
def acp (o : Nat) (i : Int32) (q : Nat) (j n : Int32) : M Unit := fun h => match lk h o with
  | some (.inl (t0, n0, .inr (.inl f))) => match lk h q with
    | some (.inl (t1, n1, .inr (.inl g))) => if t0 = 1 ∧ t1 = 1 ∧ ¬ i < 0 ∧ ¬ j < 0 ∧ ¬ n < 0 ∧ i.toNatClampNeg + n.toNatClampNeg ≤ n0 ∧ j.toNatClampNeg + n.toNatClampNeg ≤ n1 then
        some ((), (h.1, va_up h.2 q (.inl (1, n1, .inr (.inl (va_cpy f g i.toNatClampNeg j.toNatClampNeg n.toNatClampNeg)))))) else none
    | _ => none
  | _ => none
def ibf (b : Int32) : M UInt32 := fun h => if vn_sni2f b = false then some (b.toUInt32, h) else none
def lbd (b : Int64) : M UInt64 := fun h => if vn_snl2d b = false then some (b.toUInt64, h) else none
def ldv (x y : Int64) : M Int64 := fun h => if y = 0 then none else some (x / y, h)
def lrm (x y : Int64) : M Int64 := fun h => if y = 0 then none else some (x - x / y * y, h)
def sld (L : Nat) (xs : Nat → Int32) (i : Int32) : M Int32 := fun h => if i < 0 ∨ L ≤ i.toNatClampNeg then none else some (xs i.toNatClampNeg, h)
/-- a switch: the programs of low, low + 1 .., else the last -/
def swt {α : Type} (x : Int) (low : Int) (ks : List (M α)) (kd : M α) : M α := if x < low then kd else (ks[(x - low).toNat]?).getD kd
theorem bd_some {α β : Type} {f : M α} {k : α → M β} {h : AH} {z : β × AH} (q : bd f k h = some z) : ∃ a h', f h = some (a, h') ∧ k a h' = some z := by
  unfold bd at q
  cases hf : f h with
  | none => rw [hf] at q; cases q
  | some x => rw [hf] at q; exact ⟨x.1, x.2, rfl, q⟩
theorem bd_eq {α β : Type} {f : M α} {k : α → M β} {h h' : AH} {a : α} (q : f h = some (a, h')) : bd f k h = k a h' := by
  unfold bd; rw [q]
theorem ckd_some {α : Type} {ci o : Nat} {f : M α} {h : AH} {z : α × AH} (q : ckd ci o f h = some z) : (∃ F, lk h o = some (.inr (ci, F))) ∧ f h = some z := by
  unfold ckd at q
  split at q
  · next c F hl =>
    split at q
    · next hc => subst hc; exact ⟨⟨F, hl⟩, q⟩
    · cases q
  · cases q
theorem gI_some {ci o k : Nat} {h : AH} {z : Int32 × AH} (q : gI ci o k h = some z) : ∃ F, lk h o = some (.inr (ci, F)) ∧ F k = .int z.1 ∧ z.2 = h := by
  unfold gI at q
  split at q
  · next c F hl =>
    split at q
    · next hc =>
      subst hc
      split at q
      · next v hv => cases q; exact ⟨F, hl, hv, rfl⟩
      · cases q
    · cases q
  · cases q
theorem gL_some {ci o k : Nat} {h : AH} {z : Int64 × AH} (q : gL ci o k h = some z) : ∃ F, lk h o = some (.inr (ci, F)) ∧ F k = .long z.1 ∧ z.2 = h := by
  unfold gL at q
  split at q
  · next c F hl =>
    split at q
    · next hc =>
      subst hc
      split at q
      · next v hv => cases q; exact ⟨F, hl, hv, rfl⟩
      · cases q
    · cases q
  · cases q
theorem gR_some {ci o k : Nat} {h : AH} {z : Nat × AH} (q : gR ci o k h = some z) : ∃ F, lk h o = some (.inr (ci, F)) ∧ F k = .ref z.1 ∧ z.2 = h := by
  unfold gR at q
  split at q
  · next c F hl =>
    split at q
    · next hc =>
      subst hc
      split at q
      · next v hv => cases q; exact ⟨F, hl, hv, rfl⟩
      · cases q
    · cases q
  · cases q
theorem pV_some {ci o k : Nat} {v : Value} {h : AH} {z : Unit × AH} (q : pV ci o k v h = some z) : ∃ F, lk h o = some (.inr (ci, F)) ∧ z.2 = (h.1, va_up h.2 o (.inr (ci, va_up F k v))) := by
  unfold pV at q
  split at q
  · next c F hl =>
    split at q
    · next hc => subst hc; cases q; exact ⟨F, hl, rfl⟩
    · cases q
  · cases q
theorem ldT_some {t o : Nat} {i : Int32} {h : AH} {z : Int32 × AH} (q : ldT t o i h = some z) : ∃ n f, lk h o = some (.inl (t, n, .inl f)) ∧ vp_in i n ∧ z = (f i.toNatClampNeg, h) := by
  unfold ldT at q
  split at q
  · next t' n f hl =>
    split at q
    · next hc => obtain ⟨rfl, hc⟩ := hc; cases q; exact ⟨n, f, hl, hc, rfl⟩
    · cases q
  · cases q
theorem ldL_some {o : Nat} {i : Int32} {h : AH} {z : Int64 × AH} (q : ldL o i h = some z) : ∃ n f, lk h o = some (.inl (1, n, .inr (.inl f))) ∧ vp_in i n ∧ z = (f i.toNatClampNeg, h) := by
  unfold ldL at q
  split at q
  · next t' n f hl =>
    split at q
    · next hc => obtain ⟨rfl, hc⟩ := hc; cases q; exact ⟨n, f, hl, hc, rfl⟩
    · cases q
  · cases q
theorem ldR_some {t o : Nat} {i : Int32} {h : AH} {z : Nat × AH} (q : ldR t o i h = some z) : ∃ n f, lk h o = some (.inl (t, n, .inr (.inr (.inr (.inr f))))) ∧ vp_in i n ∧ f i.toNatClampNeg = some z.1 ∧ z.2 = h := by
  unfold ldR at q
  split at q
  · next t' n f hl =>
    split at q
    · next hc =>
      obtain ⟨rfl, hc⟩ := hc
      split at q
      · next v hv => cases q; exact ⟨n, f, hl, hc, hv, rfl⟩
      · cases q
    · cases q
  · cases q
theorem stI_some {o : Nat} {i v : Int32} {h : AH} {z : Unit × AH} (q : stI o i v h = some z) : ∃ n f, lk h o = some (.inl (0, n, .inl f)) ∧ vp_in i n ∧ z.2 = (h.1, va_up h.2 o (.inl (0, n, .inl (va_up f i.toNatClampNeg v)))) := by
  unfold stI at q
  split at q
  · next t' n f hl =>
    split at q
    · next hc => obtain ⟨rfl, hc⟩ := hc; cases q; exact ⟨n, f, hl, hc, rfl⟩
    · cases q
  · cases q
theorem stZ_some {o : Nat} {i v : Int32} {h : AH} {z : Unit × AH} (q : stZ o i v h = some z) : ∃ n f, lk h o = some (.inl (2, n, .inl f)) ∧ vp_in i n ∧ (v = 0 ∨ v = 1) ∧ z.2 = (h.1, va_up h.2 o (.inl (2, n, .inl (va_up f i.toNatClampNeg v)))) := by
  unfold stZ at q
  split at q
  · next t' n f hl =>
    split at q
    · next hc => obtain ⟨rfl, hc, hv⟩ := hc; cases q; exact ⟨n, f, hl, hc, hv, rfl⟩
    · cases q
  · cases q
theorem stL_some {o : Nat} {i : Int32} {v : Int64} {h : AH} {z : Unit × AH} (q : stL o i v h = some z) : ∃ n f, lk h o = some (.inl (1, n, .inr (.inl f))) ∧ vp_in i n ∧ z.2 = (h.1, va_up h.2 o (.inl (1, n, .inr (.inl (va_up f i.toNatClampNeg v))))) := by
  unfold stL at q
  split at q
  · next t' n f hl =>
    split at q
    · next hc => obtain ⟨rfl, hc⟩ := hc; cases q; exact ⟨n, f, hl, hc, rfl⟩
    · cases q
  · cases q
theorem stR_some {t ci o v : Nat} {i : Int32} {h : AH} {z : Unit × AH} (q : stR t ci o i v h = some z) : ∃ n f F, lk h o = some (.inl (t, n, .inr (.inr (.inr (.inr f))))) ∧ lk h v = some (.inr (ci, F)) ∧ vp_in i n ∧ z.2 = (h.1, va_up h.2 o (.inl (t, n, .inr (.inr (.inr (.inr (va_up f i.toNatClampNeg (some v)))))))) := by
  unfold stR at q
  split at q
  · next t' n f hl =>
    split at q
    · next c F hv =>
      split at q
      · next hc => obtain ⟨rfl, rfl, hc⟩ := hc; cases q; exact ⟨n, f, F, hl, hv, hc, rfl⟩
      · cases q
    · cases q
  · cases q
theorem alen_some {t o : Nat} {h : AH} {z : Int32 × AH} (q : alen t o h = some z) : ∃ a, lk h o = some (.inl (t, a)) ∧ z = (Int32.ofNat a.1, h) := by
  unfold alen at q
  split at q
  · next t' n x hl =>
    split at q
    · next hc => subst hc; cases q; exact ⟨(n, x), hl, rfl⟩
    · cases q
  · cases q
theorem acp_some {o q : Nat} {i j n : Int32} {h : AH} {z : Unit × AH} (w : acp o i q j n h = some z) : ∃ n0 f n1 g, lk h o = some (.inl (1, n0, .inr (.inl f))) ∧ lk h q = some (.inl (1, n1, .inr (.inl g))) ∧ ¬ i < 0 ∧ ¬ j < 0 ∧ ¬ n < 0 ∧ i.toNatClampNeg + n.toNatClampNeg ≤ n0 ∧ j.toNatClampNeg + n.toNatClampNeg ≤ n1 ∧
    z.2 = (h.1, va_up h.2 q (.inl (1, n1, .inr (.inl (va_cpy f g i.toNatClampNeg j.toNatClampNeg n.toNatClampNeg))))) := by
  unfold acp at w
  split at w
  · next t0 n0 f h0 =>
    split at w
    · next t1 n1 g h1 =>
      split at w
      · next hc => obtain ⟨rfl, rfl, hc⟩ := hc; cases w; exact ⟨n0, f, n1, g, h0, h1, hc.1, hc.2.1, hc.2.2.1, hc.2.2.2.1, hc.2.2.2.2, rfl⟩
      · cases w
    · cases w
  · cases w
end
section
/-! Rows: an instruction of the machine over the picture. -/
section RowsA
variable {α : Type} {X : CX α} {own : String} {cc : ByteArray} {nL : Nat} {rm : Room} {pc : Nat} {lo : List (Nat × Value)} {st : List Value} {nc ns : Nat} {k : M α}

theorem wm_iadd {x y : Int32} (hX : Cx X own cc nL rm) (hd : decode cc pc = .ok (.iadd, 1)) (kk : WM X (pc + 1) lo (.int (x + y) :: st) nc ns k) : WM X pc lo (.int y :: .int x :: st) nc ns k := by
  obtain ⟨p, l, e, R, s, m, args, below, meth, c, d, b, base, z, Q, r0, h0⟩ := X
  intro h hk H locs ls hH hS hl
  exact lv_iadd hX.1 hX.2.1 hd (kk h hk H locs ls hH hS hl)
theorem wm_isub {x y : Int32} (hX : Cx X own cc nL rm) (hd : decode cc pc = .ok (.isub, 1)) (kk : WM X (pc + 1) lo (.int (x - y) :: st) nc ns k) : WM X pc lo (.int y :: .int x :: st) nc ns k := by
  obtain ⟨p, l, e, R, s, m, args, below, meth, c, d, b, base, z, Q, r0, h0⟩ := X
  intro h hk H locs ls hH hS hl
  exact lv_isub hX.1 hX.2.1 hd (kk h hk H locs ls hH hS hl)
theorem wm_imul {x y : Int32} (hX : Cx X own cc nL rm) (hd : decode cc pc = .ok (.imul, 1)) (kk : WM X (pc + 1) lo (.int (x * y) :: st) nc ns k) : WM X pc lo (.int y :: .int x :: st) nc ns k := by
  obtain ⟨p, l, e, R, s, m, args, below, meth, c, d, b, base, z, Q, r0, h0⟩ := X
  intro h hk H locs ls hH hS hl
  exact lv_imul hX.1 hX.2.1 hd (kk h hk H locs ls hH hS hl)
theorem wm_iand {x y : Int32} (hX : Cx X own cc nL rm) (hd : decode cc pc = .ok (.iand, 1)) (kk : WM X (pc + 1) lo (.int (x &&& y) :: st) nc ns k) : WM X pc lo (.int y :: .int x :: st) nc ns k := by
  obtain ⟨p, l, e, R, s, m, args, below, meth, c, d, b, base, z, Q, r0, h0⟩ := X
  intro h hk H locs ls hH hS hl
  exact lv_iand hX.1 hX.2.1 hd (kk h hk H locs ls hH hS hl)
theorem wm_ior {x y : Int32} (hX : Cx X own cc nL rm) (hd : decode cc pc = .ok (.ior, 1)) (kk : WM X (pc + 1) lo (.int (x ||| y) :: st) nc ns k) : WM X pc lo (.int y :: .int x :: st) nc ns k := by
  obtain ⟨p, l, e, R, s, m, args, below, meth, c, d, b, base, z, Q, r0, h0⟩ := X
  intro h hk H locs ls hH hS hl
  exact lv_ior hX.1 hX.2.1 hd (kk h hk H locs ls hH hS hl)
theorem wm_ixor {x y : Int32} (hX : Cx X own cc nL rm) (hd : decode cc pc = .ok (.ixor, 1)) (kk : WM X (pc + 1) lo (.int (x ^^^ y) :: st) nc ns k) : WM X pc lo (.int y :: .int x :: st) nc ns k := by
  obtain ⟨p, l, e, R, s, m, args, below, meth, c, d, b, base, z, Q, r0, h0⟩ := X
  intro h hk H locs ls hH hS hl
  exact lv_ixor hX.1 hX.2.1 hd (kk h hk H locs ls hH hS hl)
theorem wm_ishl {x y : Int32} (hX : Cx X own cc nL rm) (hd : decode cc pc = .ok (.ishl, 1)) (kk : WM X (pc + 1) lo (.int (x <<< (y &&& 31)) :: st) nc ns k) : WM X pc lo (.int y :: .int x :: st) nc ns k := by
  obtain ⟨p, l, e, R, s, m, args, below, meth, c, d, b, base, z, Q, r0, h0⟩ := X
  intro h hk H locs ls hH hS hl
  exact lv_ishl hX.1 hX.2.1 hd (kk h hk H locs ls hH hS hl)
theorem wm_ishr {x y : Int32} (hX : Cx X own cc nL rm) (hd : decode cc pc = .ok (.ishr, 1)) (kk : WM X (pc + 1) lo (.int (x >>> (y &&& 31)) :: st) nc ns k) : WM X pc lo (.int y :: .int x :: st) nc ns k := by
  obtain ⟨p, l, e, R, s, m, args, below, meth, c, d, b, base, z, Q, r0, h0⟩ := X
  intro h hk H locs ls hH hS hl
  exact lv_ishr hX.1 hX.2.1 hd (kk h hk H locs ls hH hS hl)
theorem wm_ladd {x y : Int64} (hX : Cx X own cc nL rm) (hd : decode cc pc = .ok (.ladd, 1)) (kk : WM X (pc + 1) lo (.long (x + y) :: st) nc ns k) : WM X pc lo (.long y :: .long x :: st) nc ns k := by
  obtain ⟨p, l, e, R, s, m, args, below, meth, c, d, b, base, z, Q, r0, h0⟩ := X
  intro h hk H locs ls hH hS hl
  exact lv_ladd hX.1 hX.2.1 hd (kk h hk H locs ls hH hS hl)
theorem wm_lsub {x y : Int64} (hX : Cx X own cc nL rm) (hd : decode cc pc = .ok (.lsub, 1)) (kk : WM X (pc + 1) lo (.long (x - y) :: st) nc ns k) : WM X pc lo (.long y :: .long x :: st) nc ns k := by
  obtain ⟨p, l, e, R, s, m, args, below, meth, c, d, b, base, z, Q, r0, h0⟩ := X
  intro h hk H locs ls hH hS hl
  exact lv_lsub hX.1 hX.2.1 hd (kk h hk H locs ls hH hS hl)
theorem wm_lmul {x y : Int64} (hX : Cx X own cc nL rm) (hd : decode cc pc = .ok (.lmul, 1)) (kk : WM X (pc + 1) lo (.long (x * y) :: st) nc ns k) : WM X pc lo (.long y :: .long x :: st) nc ns k := by
  obtain ⟨p, l, e, R, s, m, args, below, meth, c, d, b, base, z, Q, r0, h0⟩ := X
  intro h hk H locs ls hH hS hl
  exact lv_lmul hX.1 hX.2.1 hd (kk h hk H locs ls hH hS hl)
theorem wm_land {x y : Int64} (hX : Cx X own cc nL rm) (hd : decode cc pc = .ok (.land, 1)) (kk : WM X (pc + 1) lo (.long (x &&& y) :: st) nc ns k) : WM X pc lo (.long y :: .long x :: st) nc ns k := by
  obtain ⟨p, l, e, R, s, m, args, below, meth, c, d, b, base, z, Q, r0, h0⟩ := X
  intro h hk H locs ls hH hS hl
  exact lv_land hX.1 hX.2.1 hd (kk h hk H locs ls hH hS hl)
theorem wm_lor {x y : Int64} (hX : Cx X own cc nL rm) (hd : decode cc pc = .ok (.lor, 1)) (kk : WM X (pc + 1) lo (.long (x ||| y) :: st) nc ns k) : WM X pc lo (.long y :: .long x :: st) nc ns k := by
  obtain ⟨p, l, e, R, s, m, args, below, meth, c, d, b, base, z, Q, r0, h0⟩ := X
  intro h hk H locs ls hH hS hl
  exact lv_lor hX.1 hX.2.1 hd (kk h hk H locs ls hH hS hl)
theorem wm_lxor {x y : Int64} (hX : Cx X own cc nL rm) (hd : decode cc pc = .ok (.lxor, 1)) (kk : WM X (pc + 1) lo (.long (x ^^^ y) :: st) nc ns k) : WM X pc lo (.long y :: .long x :: st) nc ns k := by
  obtain ⟨p, l, e, R, s, m, args, below, meth, c, d, b, base, z, Q, r0, h0⟩ := X
  intro h hk H locs ls hH hS hl
  exact lv_lxor hX.1 hX.2.1 hd (kk h hk H locs ls hH hS hl)
theorem wm_lneg {x : Int64} (hX : Cx X own cc nL rm) (hd : decode cc pc = .ok (.lneg, 1)) (kk : WM X (pc + 1) lo (.long (-x) :: st) nc ns k) : WM X pc lo (.long x :: st) nc ns k := by
  obtain ⟨p, l, e, R, s, m, args, below, meth, c, d, b, base, z, Q, r0, h0⟩ := X
  intro h hk H locs ls hH hS hl
  exact lv_lneg hX.1 hX.2.1 hd (kk h hk H locs ls hH hS hl)
theorem wm_ineg {x : Int32} (hX : Cx X own cc nL rm) (hd : decode cc pc = .ok (.ineg, 1)) (kk : WM X (pc + 1) lo (.int (-x) :: st) nc ns k) : WM X pc lo (.int x :: st) nc ns k := by
  obtain ⟨p, l, e, R, s, m, args, below, meth, c, d, b, base, z, Q, r0, h0⟩ := X
  intro h hk H locs ls hH hS hl
  exact lv_ineg hX.1 hX.2.1 hd (kk h hk H locs ls hH hS hl)
theorem wm_i2l {x : Int32} (hX : Cx X own cc nL rm) (hd : decode cc pc = .ok (.i2l, 1)) (kk : WM X (pc + 1) lo (.long (x.toInt64) :: st) nc ns k) : WM X pc lo (.int x :: st) nc ns k := by
  obtain ⟨p, l, e, R, s, m, args, below, meth, c, d, b, base, z, Q, r0, h0⟩ := X
  intro h hk H locs ls hH hS hl
  exact lv_i2l hX.1 hX.2.1 hd rfl (kk h hk H locs ls hH hS hl)
theorem wm_l2i {x : Int64} (hX : Cx X own cc nL rm) (hd : decode cc pc = .ok (.l2i, 1)) (kk : WM X (pc + 1) lo (.int (x.toInt32) :: st) nc ns k) : WM X pc lo (.long x :: st) nc ns k := by
  obtain ⟨p, l, e, R, s, m, args, below, meth, c, d, b, base, z, Q, r0, h0⟩ := X
  intro h hk H locs ls hH hS hl
  exact lv_l2i hX.1 hX.2.1 hd rfl (kk h hk H locs ls hH hS hl)
theorem wm_i2b {x : Int32} (hX : Cx X own cc nL rm) (hd : decode cc pc = .ok (.i2b, 1)) (kk : WM X (pc + 1) lo (.int (x.toInt8.toInt32) :: st) nc ns k) : WM X pc lo (.int x :: st) nc ns k := by
  obtain ⟨p, l, e, R, s, m, args, below, meth, c, d, b, base, z, Q, r0, h0⟩ := X
  intro h hk H locs ls hH hS hl
  exact lv_i2b hX.1 hX.2.1 hd rfl (kk h hk H locs ls hH hS hl)
theorem wm_i2s {x : Int32} (hX : Cx X own cc nL rm) (hd : decode cc pc = .ok (.i2s, 1)) (kk : WM X (pc + 1) lo (.int (x.toInt16.toInt32) :: st) nc ns k) : WM X pc lo (.int x :: st) nc ns k := by
  obtain ⟨p, l, e, R, s, m, args, below, meth, c, d, b, base, z, Q, r0, h0⟩ := X
  intro h hk H locs ls hH hS hl
  exact lv_i2s hX.1 hX.2.1 hd rfl (kk h hk H locs ls hH hS hl)
theorem wm_iushr {x y : Int32} (hX : Cx X own cc nL rm) (hd : decode cc pc = .ok (.iushr, 1)) (kk : WM X (pc + 1) lo (.int (x.toUInt32 >>> (y.toUInt32 &&& Int32.toUInt32 31)).toInt32 :: st) nc ns k) : WM X pc lo (.int y :: .int x :: st) nc ns k := by
  obtain ⟨p, l, e, R, s, m, args, below, meth, c, d, b, base, z, Q, r0, h0⟩ := X
  intro h hk H locs ls hH hS hl
  exact lv_iushr hX.1 hX.2.1 hd rfl (kk h hk H locs ls hH hS hl)
theorem wm_lushr {x : Int64} {y : Int32} (hX : Cx X own cc nL rm) (hd : decode cc pc = .ok (.lushr, 1)) (kk : WM X (pc + 1) lo (.long (x.toUInt64 >>> (y.toInt64.toUInt64 &&& Int64.toUInt64 63)).toInt64 :: st) nc ns k) : WM X pc lo (.int y :: .long x :: st) nc ns k := by
  obtain ⟨p, l, e, R, s, m, args, below, meth, c, d, b, base, z, Q, r0, h0⟩ := X
  intro h hk H locs ls hH hS hl
  exact lv_lushr hX.1 hX.2.1 hd rfl (kk h hk H locs ls hH hS hl)
theorem wm_lshl {x : Int64} {y : Int32} (hX : Cx X own cc nL rm) (hd : decode cc pc = .ok (.lshl, 1)) (kk : WM X (pc + 1) lo (.long (x <<< (y.toInt64 &&& 63)) :: st) nc ns k) : WM X pc lo (.int y :: .long x :: st) nc ns k := by
  obtain ⟨p, l, e, R, s, m, args, below, meth, c, d, b, base, z, Q, r0, h0⟩ := X
  intro h hk H locs ls hH hS hl
  exact lv_lshl hX.1 hX.2.1 hd rfl (kk h hk H locs ls hH hS hl)
theorem wm_f2l {x : UInt32} (hX : Cx X own cc nL rm) (hd : decode cc pc = .ok (.f2l, 1)) (kk : WM X (pc + 1) lo (.long (FP.f2l x) :: st) nc ns k) : WM X pc lo (.float x :: st) nc ns k := by
  obtain ⟨p, l, e, R, s, m, args, below, meth, c, d, b, base, z, Q, r0, h0⟩ := X
  intro h hk H locs ls hH hS hl
  exact lv_f2l hX.1 hX.2.1 hd (kk h hk H locs ls hH hS hl)
theorem wm_d2l {x : UInt64} (hX : Cx X own cc nL rm) (hd : decode cc pc = .ok (.d2l, 1)) (kk : WM X (pc + 1) lo (.long (FP.d2l x) :: st) nc ns k) : WM X pc lo (.double x :: st) nc ns k := by
  obtain ⟨p, l, e, R, s, m, args, below, meth, c, d, b, base, z, Q, r0, h0⟩ := X
  intro h hk H locs ls hH hS hl
  exact lv_d2l hX.1 hX.2.1 hd (kk h hk H locs ls hH hS hl)
theorem wm_iconst {n : Int} (v : Int32) (hX : Cx X own cc nL rm) (hd : decode cc pc = .ok (.iconst n, 1)) (hv : Int32.ofInt n = v) (kk : WM X (pc + 1) lo (.int v :: st) nc ns k) : WM X pc lo st nc ns k := by
  obtain ⟨p, l, e, R, s, m, args, below, meth, c, d, b, base, z, Q, r0, h0⟩ := X
  intro h hk H locs ls hH hS hl
  exact lv_iconst hX.1 hX.2.1 hd hv (kk h hk H locs ls hH hS hl)
theorem wm_bipush {n : Int} (v : Int32) (hX : Cx X own cc nL rm) (hd : decode cc pc = .ok (.bipush n, 2)) (hv : (Int8.ofInt n).toInt32 = v) (kk : WM X (pc + 2) lo (.int v :: st) nc ns k) : WM X pc lo st nc ns k := by
  obtain ⟨p, l, e, R, s, m, args, below, meth, c, d, b, base, z, Q, r0, h0⟩ := X
  intro h hk H locs ls hH hS hl
  exact lv_bipush hX.1 hX.2.1 hd hv (kk h hk H locs ls hH hS hl)
theorem wm_sipush {n : Int} (v : Int32) (hX : Cx X own cc nL rm) (hd : decode cc pc = .ok (.sipush n, 3)) (hv : (Int16.ofInt n).toInt32 = v) (kk : WM X (pc + 3) lo (.int v :: st) nc ns k) : WM X pc lo st nc ns k := by
  obtain ⟨p, l, e, R, s, m, args, below, meth, c, d, b, base, z, Q, r0, h0⟩ := X
  intro h hk H locs ls hH hS hl
  exact lv_sipush hX.1 hX.2.1 hd hv (kk h hk H locs ls hH hS hl)
theorem wm_lconst {n : Fin 2} (v : Int64) (hX : Cx X own cc nL rm) (hd : decode cc pc = .ok (.lconst n, 1)) (hv : Int64.ofNat (n : Nat) = v) (kk : WM X (pc + 1) lo (.long v :: st) nc ns k) : WM X pc lo st nc ns k := by
  obtain ⟨p, l, e, R, s, m, args, below, meth, c, d, b, base, z, Q, r0, h0⟩ := X
  intro h hk H locs ls hH hS hl
  exact lv_lconst hX.1 hX.2.1 hd hv (kk h hk H locs ls hH hS hl)
theorem wm_ldc2 {i : Nat} {v : Int64} (hX : Cx X own cc nL rm) (hd : decode cc pc = .ok (.ldc2_w i, 3)) (hw : Cond.constantLong own i v ∈ lw_g) (kk : WM X (pc + 3) lo (.long v :: st) nc ns k) : WM X pc lo st nc ns k := by
  obtain ⟨p, l, e, R, s, m, args, below, meth, c, d, b, base, z, Q, r0, h0⟩ := X
  intro h hk H locs ls hH hS hl
  exact lv_ldc2 hX.1 hX.2.1 hX.2.2.2.2.1 (hX.2.2.2.2.2.1 _ hw) hd (kk h hk H locs ls hH hS hl)
theorem wm_ldc {i : Nat} {v : Int32} (hX : Cx X own cc nL rm) (hd : decode cc pc = .ok (.ldc i, 2)) (hw : Cond.constant own i v ∈ lw_g) (kk : WM X (pc + 2) lo (.int v :: st) nc ns k) : WM X pc lo st nc ns k := by
  obtain ⟨p, l, e, R, s, m, args, below, meth, c, d, b, base, z, Q, r0, h0⟩ := X
  intro h hk H locs ls hH hS hl
  exact lv_ldc hX.1 hX.2.1 hX.2.2.2.2.1 (hX.2.2.2.2.2.1 _ hw) hd (kk h hk H locs ls hH hS hl)
theorem wm_ldcw {i : Nat} {v : Int32} (hX : Cx X own cc nL rm) (hd : decode cc pc = .ok (.ldc_w i, 3)) (hw : Cond.constant own i v ∈ lw_g) (kk : WM X (pc + 3) lo (.int v :: st) nc ns k) : WM X pc lo st nc ns k := by
  obtain ⟨p, l, e, R, s, m, args, below, meth, c, d, b, base, z, Q, r0, h0⟩ := X
  intro h hk H locs ls hH hS hl
  exact lv_ldcw hX.1 hX.2.1 hX.2.2.2.2.1 (hX.2.2.2.2.2.1 _ hw) hd (kk h hk H locs ls hH hS hl)
theorem wm_iload_n {q : Fin 4} {i : Nat} {x : Int32} (j : Nat) (hX : Cx X own cc nL rm) (hd : decode cc pc = .ok (.iload_n q, 1)) (hi : (q : Nat) = i) (hj : lo[j]? = some (i, .int x)) (kk : WM X (pc + 1) lo (.int x :: st) nc ns k) : WM X pc lo st nc ns k := by
  obtain ⟨p, l, e, R, s, m, args, below, meth, c, d, b, base, z, Q, r0, h0⟩ := X
  intro h hk H locs ls hH hS hl
  exact lv_iload_n hX.1 hX.2.1 hd hi (lv_at hl j (by rw [List.getElem?_map, hj]; rfl)) (kk h hk H locs ls hH hS hl)
theorem wm_iload {i : Nat} {x : Int32} (j : Nat) (hX : Cx X own cc nL rm) (hd : decode cc pc = .ok (.iload i, 2)) (hj : lo[j]? = some (i, .int x)) (kk : WM X (pc + 2) lo (.int x :: st) nc ns k) : WM X pc lo st nc ns k := by
  obtain ⟨p, l, e, R, s, m, args, below, meth, c, d, b, base, z, Q, r0, h0⟩ := X
  intro h hk H locs ls hH hS hl
  exact lv_iload hX.1 hX.2.1 hd (lv_at hl j (by rw [List.getElem?_map, hj]; rfl)) (kk h hk H locs ls hH hS hl)
theorem wm_lload_n {q : Fin 4} {i : Nat} {x : Int64} (j : Nat) (hX : Cx X own cc nL rm) (hd : decode cc pc = .ok (.lload_n q, 1)) (hi : (q : Nat) = i) (hj : lo[j]? = some (i, .long x)) (kk : WM X (pc + 1) lo (.long x :: st) nc ns k) : WM X pc lo st nc ns k := by
  obtain ⟨p, l, e, R, s, m, args, below, meth, c, d, b, base, z, Q, r0, h0⟩ := X
  intro h hk H locs ls hH hS hl
  exact lv_lload_n hX.1 hX.2.1 hd hi (lv_at hl j (by rw [List.getElem?_map, hj]; rfl)) (kk h hk H locs ls hH hS hl)
theorem wm_lload {i : Nat} {x : Int64} (j : Nat) (hX : Cx X own cc nL rm) (hd : decode cc pc = .ok (.lload i, 2)) (hj : lo[j]? = some (i, .long x)) (kk : WM X (pc + 2) lo (.long x :: st) nc ns k) : WM X pc lo st nc ns k := by
  obtain ⟨p, l, e, R, s, m, args, below, meth, c, d, b, base, z, Q, r0, h0⟩ := X
  intro h hk H locs ls hH hS hl
  exact lv_lload hX.1 hX.2.1 hd (lv_at hl j (by rw [List.getElem?_map, hj]; rfl)) (kk h hk H locs ls hH hS hl)
theorem wm_aload_n {q : Fin 4} {i : Nat} {x : Nat} (j : Nat) (hX : Cx X own cc nL rm) (hd : decode cc pc = .ok (.aload_n q, 1)) (hi : (q : Nat) = i) (hj : lo[j]? = some (i, .ref x)) (kk : WM X (pc + 1) lo (.ref x :: st) nc ns k) : WM X pc lo st nc ns k := by
  obtain ⟨p, l, e, R, s, m, args, below, meth, c, d, b, base, z, Q, r0, h0⟩ := X
  intro h hk H locs ls hH hS hl
  exact lv_aload_n hX.1 hX.2.1 hd hi (lv_at hl j (by rw [List.getElem?_map, hj]; rfl)) (kk h hk H locs ls hH hS hl)
theorem wm_aload {i : Nat} {x : Nat} (j : Nat) (hX : Cx X own cc nL rm) (hd : decode cc pc = .ok (.aload i, 2)) (hj : lo[j]? = some (i, .ref x)) (kk : WM X (pc + 2) lo (.ref x :: st) nc ns k) : WM X pc lo st nc ns k := by
  obtain ⟨p, l, e, R, s, m, args, below, meth, c, d, b, base, z, Q, r0, h0⟩ := X
  intro h hk H locs ls hH hS hl
  exact lv_aload hX.1 hX.2.1 hd (lv_at hl j (by rw [List.getElem?_map, hj]; rfl)) (kk h hk H locs ls hH hS hl)
theorem lo_f1 (b base i : Nat) (lo : List (Nat × Value)) : (lo.map fun q => (q.1, sv b base q.2)).filter (fun q => !(q.1 == i) && !(q.1 + 1 == i && q.2.category == 2)) = (lo.filter (fun q => !(q.1 == i) && !(q.1 + 1 == i && q.2.category == 2))).map fun q => (q.1, sv b base q.2) := by
  rw [List.filter_map]
  congr 1
  apply List.filter_congr
  intro q _
  simp [Function.comp, sv_cat]
theorem lo_f2 (b base i : Nat) (lo : List (Nat × Value)) : (lo.map fun q => (q.1, sv b base q.2)).filter (fun q => !(q.1 == i) && (!(q.1 == i + 1) && !(q.1 + 1 == i && q.2.category == 2))) = (lo.filter (fun q => !(q.1 == i) && (!(q.1 == i + 1) && !(q.1 + 1 == i && q.2.category == 2)))).map fun q => (q.1, sv b base q.2) := by
  rw [List.filter_map]
  congr 1
  apply List.filter_congr
  intro q _
  simp [Function.comp, sv_cat]
theorem wm_istore_n {q : Fin 4} {i : Nat} {x : Int32} (lo' : List (Nat × Value)) (hX : Cx X own cc nL rm) (hd : decode cc pc = .ok (.istore_n q, 1)) (hi : (q : Nat) = i) (hn : i < nL) (hl' : ((i, Value.int x)) :: lo.filter (fun q => !(q.1 == i) && !(q.1 + 1 == i && q.2.category == 2)) = lo') (kk : WM X (pc + 1) lo' st nc ns k) : WM X pc lo (Value.int x :: st) nc ns k := by
  obtain ⟨p, l, e, R, s, m, args, below, meth, c, d, b, base, z, Q, r0, h0⟩ := X
  intro h hk H locs ls hH hS hl
  subst hl'
  refine lv_istore_n hX.1 hX.2.1 hd hi hl (by have := hX.2.2.1; omega) rfl (fun ls hl => kk h hk H locs ls hH hS ?_)
  rw [lo_f1] at hl
  exact hl
theorem wm_istore {i : Nat} {x : Int32} (lo' : List (Nat × Value)) (hX : Cx X own cc nL rm) (hd : decode cc pc = .ok (.istore i, 2)) (hn : i < nL) (hl' : ((i, Value.int x)) :: lo.filter (fun q => !(q.1 == i) && !(q.1 + 1 == i && q.2.category == 2)) = lo') (kk : WM X (pc + 2) lo' st nc ns k) : WM X pc lo (Value.int x :: st) nc ns k := by
  obtain ⟨p, l, e, R, s, m, args, below, meth, c, d, b, base, z, Q, r0, h0⟩ := X
  intro h hk H locs ls hH hS hl
  subst hl'
  refine lv_istore hX.1 hX.2.1 hd hl (by have := hX.2.2.1; omega) rfl (fun ls hl => kk h hk H locs ls hH hS ?_)
  rw [lo_f1] at hl
  exact hl
theorem wm_lstore_n {q : Fin 4} {i : Nat} {x : Int64} (lo' : List (Nat × Value)) (hX : Cx X own cc nL rm) (hd : decode cc pc = .ok (.lstore_n q, 1)) (hi : (q : Nat) = i) (hn : i + 1 < nL) (hl' : ((i, Value.long x)) :: lo.filter (fun q => !(q.1 == i) && (!(q.1 == i + 1) && !(q.1 + 1 == i && q.2.category == 2))) = lo') (kk : WM X (pc + 1) lo' st nc ns k) : WM X pc lo (Value.long x :: st) nc ns k := by
  obtain ⟨p, l, e, R, s, m, args, below, meth, c, d, b, base, z, Q, r0, h0⟩ := X
  intro h hk H locs ls hH hS hl
  subst hl'
  refine lv_lstore_n hX.1 hX.2.1 hd hi hl (by have := hX.2.2.1; omega) rfl (fun ls hl => kk h hk H locs ls hH hS ?_)
  rw [lo_f2] at hl
  exact hl
theorem wm_lstore {i : Nat} {x : Int64} (lo' : List (Nat × Value)) (hX : Cx X own cc nL rm) (hd : decode cc pc = .ok (.lstore i, 2)) (hn : i + 1 < nL) (hl' : ((i, Value.long x)) :: lo.filter (fun q => !(q.1 == i) && (!(q.1 == i + 1) && !(q.1 + 1 == i && q.2.category == 2))) = lo') (kk : WM X (pc + 2) lo' st nc ns k) : WM X pc lo (Value.long x :: st) nc ns k := by
  obtain ⟨p, l, e, R, s, m, args, below, meth, c, d, b, base, z, Q, r0, h0⟩ := X
  intro h hk H locs ls hH hS hl
  subst hl'
  refine lv_lstore hX.1 hX.2.1 hd hl (by have := hX.2.2.1; omega) rfl (fun ls hl => kk h hk H locs ls hH hS ?_)
  rw [lo_f2] at hl
  exact hl
theorem wm_astore_n {q : Fin 4} {i : Nat} {x : Nat} (lo' : List (Nat × Value)) (hX : Cx X own cc nL rm) (hd : decode cc pc = .ok (.astore_n q, 1)) (hi : (q : Nat) = i) (hn : i < nL) (hl' : ((i, Value.ref x)) :: lo.filter (fun q => !(q.1 == i) && !(q.1 + 1 == i && q.2.category == 2)) = lo') (kk : WM X (pc + 1) lo' st nc ns k) : WM X pc lo (Value.ref x :: st) nc ns k := by
  obtain ⟨p, l, e, R, s, m, args, below, meth, c, d, b, base, z, Q, r0, h0⟩ := X
  intro h hk H locs ls hH hS hl
  subst hl'
  refine lv_astore_n hX.1 hX.2.1 hd hi hl (by have := hX.2.2.1; omega) rfl (fun ls hl => kk h hk H locs ls hH hS ?_)
  rw [lo_f1] at hl
  exact hl
theorem wm_astore {i : Nat} {x : Nat} (lo' : List (Nat × Value)) (hX : Cx X own cc nL rm) (hd : decode cc pc = .ok (.astore i, 2)) (hn : i < nL) (hl' : ((i, Value.ref x)) :: lo.filter (fun q => !(q.1 == i) && !(q.1 + 1 == i && q.2.category == 2)) = lo') (kk : WM X (pc + 2) lo' st nc ns k) : WM X pc lo (Value.ref x :: st) nc ns k := by
  obtain ⟨p, l, e, R, s, m, args, below, meth, c, d, b, base, z, Q, r0, h0⟩ := X
  intro h hk H locs ls hH hS hl
  subst hl'
  refine lv_astore hX.1 hX.2.1 hd hl (by have := hX.2.2.1; omega) rfl (fun ls hl => kk h hk H locs ls hH hS ?_)
  rw [lo_f1] at hl
  exact hl
theorem wm_iinc {i : Nat} {n : Int} {x : Int32} (v : Int32) (j : Nat) (lo' : List (Nat × Value)) (hX : Cx X own cc nL rm) (hd : decode cc pc = .ok (.iinc i n, 3)) (hj : lo[j]? = some (i, .int x)) (hv : x + Int32.ofInt n = v) (hn : i < nL) (hl' : (i, Value.int v) :: lo.filter (fun q => !(q.1 == i) && !(q.1 + 1 == i && q.2.category == 2)) = lo') (kk : WM X (pc + 3) lo' st nc ns k) : WM X pc lo st nc ns k := by
  obtain ⟨p, l, e, R, s, m, args, below, meth, c, d, b, base, z, Q, r0, h0⟩ := X
  intro h hk H locs ls hH hS hl
  subst hl'
  refine lv_iinc (k := j) hX.1 hX.2.1 hd hl (by rw [List.getElem?_map, hj]; rfl) hv (by have := hX.2.2.1; omega) rfl (fun ls hl => kk h hk H locs ls hH hS ?_)
  rw [lo_f1] at hl
  exact hl
theorem wm_let {β : Type} {a : β} {k : β → M α} {lo : List (Nat × Value)} {st : β → List Value} (kk : ∀ x : β, WM X pc lo (st x) nc ns (k x)) : WM X pc lo (st a) nc ns (lt_ a k) := kk a
theorem wm_dup {v : Value} (hX : Cx X own cc nL rm) (hd : decode cc pc = .ok (.dup, 1)) (hv : v.category = 1) (kk : WM X (pc + 1) lo (v :: v :: st) nc ns k) : WM X pc lo (v :: st) nc ns k := by
  obtain ⟨p, l, e, R, s, m, args, below, meth, c, d, b, base, z, Q, r0, h0⟩ := X
  intro h hk H locs ls hH hS hl
  exact lv_dup hX.1 hX.2.1 hd (by rw [sv_cat]; exact hv) (kk h hk H locs ls hH hS hl)
theorem wm_dup2 {v w : Value} (hX : Cx X own cc nL rm) (hd : decode cc pc = .ok (.dup2, 1)) (hv : v.category = 1) (hw : w.category = 1) (kk : WM X (pc + 1) lo (v :: w :: v :: w :: st) nc ns k) : WM X pc lo (v :: w :: st) nc ns k := by
  obtain ⟨p, l, e, R, s, m, args, below, meth, c, d, b, base, z, Q, r0, h0⟩ := X
  intro h hk H locs ls hH hS hl
  exact lv_dup2_11 hX.1 hX.2.1 hd (by rw [sv_cat]; exact hv) (by rw [sv_cat]; exact hw) (kk h hk H locs ls hH hS hl)
theorem wm_dup2l {v : Value} (hX : Cx X own cc nL rm) (hd : decode cc pc = .ok (.dup2, 1)) (hv : v.category = 2) (kk : WM X (pc + 1) lo (v :: v :: st) nc ns k) : WM X pc lo (v :: st) nc ns k := by
  obtain ⟨p, l, e, R, s, m, args, below, meth, c, d, b, base, z, Q, r0, h0⟩ := X
  intro h hk H locs ls hH hS hl
  exact lv_dup2_2 hX.1 hX.2.1 hd (by rw [sv_cat]; exact hv) (kk h hk H locs ls hH hS hl)
theorem wm_pop {v : Value} (hX : Cx X own cc nL rm) (hd : decode cc pc = .ok (.pop, 1)) (hv : v.category = 1) (kk : WM X (pc + 1) lo st nc ns k) : WM X pc lo (v :: st) nc ns k := by
  obtain ⟨p, l, e, R, s, m, args, below, meth, c, d, b, base, z, Q, r0, h0⟩ := X
  intro h hk H locs ls hH hS hl
  exact lv_pop hX.1 hX.2.1 hd (by rw [sv_cat]; exact hv) (kk h hk H locs ls hH hS hl)
theorem wm_pop2l {v : Value} (hX : Cx X own cc nL rm) (hd : decode cc pc = .ok (.pop2, 1)) (hv : v.category = 2) (kk : WM X (pc + 1) lo st nc ns k) : WM X pc lo (v :: st) nc ns k := by
  obtain ⟨p, l, e, R, s, m, args, below, meth, c, d, b, base, z, Q, r0, h0⟩ := X
  intro h hk H locs ls hH hS hl
  exact lv_pop2_2 hX.1 hX.2.1 hd (by rw [sv_cat]; exact hv) (kk h hk H locs ls hH hS hl)
theorem wm_goto {off : Int} {tgt : Nat} (hX : Cx X own cc nL rm) (hd : decode cc pc = .ok (.goto off, 3)) (ht : (pc : Int) + off = (tgt : Int)) (kk : WM X tgt lo st nc ns k) : WM X pc lo st nc ns k := by
  obtain ⟨p, l, e, R, s, m, args, below, meth, c, d, b, base, z, Q, r0, h0⟩ := X
  intro h hk H locs ls hH hS hl
  exact lv_goto hX.1 hX.2.1 hd ht (kk h hk H locs ls hH hS hl)
theorem ite_ap {α : Type} {c : Prop} [Decidable c] {a b : M α} (h : AH) : (if c then a else b) h = if c then a h else b h := by split <;> rfl
theorem wm_if_eq {x : Int32} {a b : M α} {off : Int} (tgt : Nat) (hX : Cx X own cc nL rm) (hd : decode cc pc = .ok (.ifCond .eq off, 3)) (ht : (pc : Int) + off = (tgt : Int)) (k1 : WM X tgt lo st nc ns a) (k2 : WM X (pc + 3) lo st nc ns b) : WM X pc lo (.int x :: st) nc ns (if x = 0 then a else b) := by
  obtain ⟨p, l, e, R, s, m, args, below, meth, c, d, b, base, z, Q, r0, h0⟩ := X
  intro h hk H locs ls hH hS hl
  rw [ite_ap] at hk
  exact lv_if_eq hX.1 hX.2.1 hd ht (fun q => k1 h (by rw [if_pos q] at hk; exact hk) H locs ls hH hS hl) (fun q => k2 h (by rw [if_neg q] at hk; exact hk) H locs ls hH hS hl)
theorem wm_icmp_eq {x y : Int32} {a b : M α} {off : Int} (tgt : Nat) (hX : Cx X own cc nL rm) (hd : decode cc pc = .ok (.if_icmp .eq off, 3)) (ht : (pc : Int) + off = (tgt : Int)) (k1 : WM X tgt lo st nc ns a) (k2 : WM X (pc + 3) lo st nc ns b) : WM X pc lo (.int y :: .int x :: st) nc ns (if x = y then a else b) := by
  obtain ⟨p, l, e, R, s, m, args, below, meth, c, d, b, base, z, Q, r0, h0⟩ := X
  intro h hk H locs ls hH hS hl
  rw [ite_ap] at hk
  exact lv_icmp_eq hX.1 hX.2.1 hd ht (fun q => k1 h (by rw [if_pos q] at hk; exact hk) H locs ls hH hS hl) (fun q => k2 h (by rw [if_neg q] at hk; exact hk) H locs ls hH hS hl)
theorem wm_lif_eq {x y : Int64} {a b : M α} {off : Int} (tgt : Nat) (hX : Cx X own cc nL rm) (hd : decode cc pc = .ok (.lcmp, 1)) (hd2 : decode cc (pc + 1) = .ok (.ifCond .eq off, 3)) (ht : ((pc + 1 : Nat) : Int) + off = (tgt : Int)) (k1 : WM X tgt lo st nc ns a) (k2 : WM X (pc + 4) lo st nc ns b) : WM X pc lo (.long y :: .long x :: st) nc ns (if x = y then a else b) := by
  obtain ⟨p, l, e, R, s, m, args, below, meth, c, d, b, base, z, Q, r0, h0⟩ := X
  intro h hk H locs ls hH hS hl
  rw [ite_ap] at hk
  refine W.lcmp hX.1 hX.2.1 hd ?_
  exact lv_if_eq hX.1 hX.2.1 hd2 ht (fun q => k1 h (by rw [if_pos ((lg_cmp_eq x y).mp q)] at hk; exact hk) H locs ls hH hS hl) (fun q => k2 h (by rw [if_neg (fun z => q ((lg_cmp_eq x y).mpr z))] at hk; exact hk) H locs ls hH hS hl)
theorem wm_if_ne {x : Int32} {a b : M α} {off : Int} (tgt : Nat) (hX : Cx X own cc nL rm) (hd : decode cc pc = .ok (.ifCond .ne off, 3)) (ht : (pc : Int) + off = (tgt : Int)) (k1 : WM X tgt lo st nc ns a) (k2 : WM X (pc + 3) lo st nc ns b) : WM X pc lo (.int x :: st) nc ns (if x = 0 then b else a) := by
  obtain ⟨p, l, e, R, s, m, args, below, meth, c, d, b, base, z, Q, r0, h0⟩ := X
  intro h hk H locs ls hH hS hl
  rw [ite_ap] at hk
  exact lv_if_ne hX.1 hX.2.1 hd ht (fun q => k1 h (by rw [if_neg q] at hk; exact hk) H locs ls hH hS hl) (fun q => k2 h (by rw [if_pos q] at hk; exact hk) H locs ls hH hS hl)
theorem wm_icmp_ne {x y : Int32} {a b : M α} {off : Int} (tgt : Nat) (hX : Cx X own cc nL rm) (hd : decode cc pc = .ok (.if_icmp .ne off, 3)) (ht : (pc : Int) + off = (tgt : Int)) (k1 : WM X tgt lo st nc ns a) (k2 : WM X (pc + 3) lo st nc ns b) : WM X pc lo (.int y :: .int x :: st) nc ns (if x = y then b else a) := by
  obtain ⟨p, l, e, R, s, m, args, below, meth, c, d, b, base, z, Q, r0, h0⟩ := X
  intro h hk H locs ls hH hS hl
  rw [ite_ap] at hk
  exact lv_icmp_ne hX.1 hX.2.1 hd ht (fun q => k1 h (by rw [if_neg q] at hk; exact hk) H locs ls hH hS hl) (fun q => k2 h (by rw [if_pos q] at hk; exact hk) H locs ls hH hS hl)
theorem wm_lif_ne {x y : Int64} {a b : M α} {off : Int} (tgt : Nat) (hX : Cx X own cc nL rm) (hd : decode cc pc = .ok (.lcmp, 1)) (hd2 : decode cc (pc + 1) = .ok (.ifCond .ne off, 3)) (ht : ((pc + 1 : Nat) : Int) + off = (tgt : Int)) (k1 : WM X tgt lo st nc ns a) (k2 : WM X (pc + 4) lo st nc ns b) : WM X pc lo (.long y :: .long x :: st) nc ns (if x = y then b else a) := by
  obtain ⟨p, l, e, R, s, m, args, below, meth, c, d, b, base, z, Q, r0, h0⟩ := X
  intro h hk H locs ls hH hS hl
  rw [ite_ap] at hk
  refine W.lcmp hX.1 hX.2.1 hd ?_
  exact lv_if_ne hX.1 hX.2.1 hd2 ht (fun q => k1 h (by rw [if_neg (fun z => q ((lg_cmp_eq x y).mpr z))] at hk; exact hk) H locs ls hH hS hl) (fun q => k2 h (by rw [if_pos ((lg_cmp_eq x y).mp q)] at hk; exact hk) H locs ls hH hS hl)
theorem wm_if_lt {x : Int32} {a b : M α} {off : Int} (tgt : Nat) (hX : Cx X own cc nL rm) (hd : decode cc pc = .ok (.ifCond .lt off, 3)) (ht : (pc : Int) + off = (tgt : Int)) (k1 : WM X tgt lo st nc ns a) (k2 : WM X (pc + 3) lo st nc ns b) : WM X pc lo (.int x :: st) nc ns (if x < 0 then a else b) := by
  obtain ⟨p, l, e, R, s, m, args, below, meth, c, d, b, base, z, Q, r0, h0⟩ := X
  intro h hk H locs ls hH hS hl
  rw [ite_ap] at hk
  exact lv_if_lt hX.1 hX.2.1 hd ht (fun q => k1 h (by rw [if_pos q] at hk; exact hk) H locs ls hH hS hl) (fun q => k2 h (by rw [if_neg q] at hk; exact hk) H locs ls hH hS hl)
theorem wm_icmp_lt {x y : Int32} {a b : M α} {off : Int} (tgt : Nat) (hX : Cx X own cc nL rm) (hd : decode cc pc = .ok (.if_icmp .lt off, 3)) (ht : (pc : Int) + off = (tgt : Int)) (k1 : WM X tgt lo st nc ns a) (k2 : WM X (pc + 3) lo st nc ns b) : WM X pc lo (.int y :: .int x :: st) nc ns (if x < y then a else b) := by
  obtain ⟨p, l, e, R, s, m, args, below, meth, c, d, b, base, z, Q, r0, h0⟩ := X
  intro h hk H locs ls hH hS hl
  rw [ite_ap] at hk
  exact lv_icmp_lt hX.1 hX.2.1 hd ht (fun q => k1 h (by rw [if_pos q] at hk; exact hk) H locs ls hH hS hl) (fun q => k2 h (by rw [if_neg q] at hk; exact hk) H locs ls hH hS hl)
theorem wm_lif_lt {x y : Int64} {a b : M α} {off : Int} (tgt : Nat) (hX : Cx X own cc nL rm) (hd : decode cc pc = .ok (.lcmp, 1)) (hd2 : decode cc (pc + 1) = .ok (.ifCond .lt off, 3)) (ht : ((pc + 1 : Nat) : Int) + off = (tgt : Int)) (k1 : WM X tgt lo st nc ns a) (k2 : WM X (pc + 4) lo st nc ns b) : WM X pc lo (.long y :: .long x :: st) nc ns (if x < y then a else b) := by
  obtain ⟨p, l, e, R, s, m, args, below, meth, c, d, b, base, z, Q, r0, h0⟩ := X
  intro h hk H locs ls hH hS hl
  rw [ite_ap] at hk
  refine W.lcmp hX.1 hX.2.1 hd ?_
  exact lv_if_lt hX.1 hX.2.1 hd2 ht (fun q => k1 h (by rw [if_pos ((lg_cmp_lt x y).mp q)] at hk; exact hk) H locs ls hH hS hl) (fun q => k2 h (by rw [if_neg (fun z => q ((lg_cmp_lt x y).mpr z))] at hk; exact hk) H locs ls hH hS hl)
theorem wm_if_ge {x : Int32} {a b : M α} {off : Int} (tgt : Nat) (hX : Cx X own cc nL rm) (hd : decode cc pc = .ok (.ifCond .ge off, 3)) (ht : (pc : Int) + off = (tgt : Int)) (k1 : WM X tgt lo st nc ns a) (k2 : WM X (pc + 3) lo st nc ns b) : WM X pc lo (.int x :: st) nc ns (if 0 ≤ x then a else b) := by
  obtain ⟨p, l, e, R, s, m, args, below, meth, c, d, b, base, z, Q, r0, h0⟩ := X
  intro h hk H locs ls hH hS hl
  rw [ite_ap] at hk
  exact lv_if_ge hX.1 hX.2.1 hd ht (fun q => k1 h (by rw [if_pos q] at hk; exact hk) H locs ls hH hS hl) (fun q => k2 h (by rw [if_neg q] at hk; exact hk) H locs ls hH hS hl)
theorem wm_icmp_ge {x y : Int32} {a b : M α} {off : Int} (tgt : Nat) (hX : Cx X own cc nL rm) (hd : decode cc pc = .ok (.if_icmp .ge off, 3)) (ht : (pc : Int) + off = (tgt : Int)) (k1 : WM X tgt lo st nc ns a) (k2 : WM X (pc + 3) lo st nc ns b) : WM X pc lo (.int y :: .int x :: st) nc ns (if y ≤ x then a else b) := by
  obtain ⟨p, l, e, R, s, m, args, below, meth, c, d, b, base, z, Q, r0, h0⟩ := X
  intro h hk H locs ls hH hS hl
  rw [ite_ap] at hk
  exact lv_icmp_ge hX.1 hX.2.1 hd ht (fun q => k1 h (by rw [if_pos q] at hk; exact hk) H locs ls hH hS hl) (fun q => k2 h (by rw [if_neg q] at hk; exact hk) H locs ls hH hS hl)
theorem wm_lif_ge {x y : Int64} {a b : M α} {off : Int} (tgt : Nat) (hX : Cx X own cc nL rm) (hd : decode cc pc = .ok (.lcmp, 1)) (hd2 : decode cc (pc + 1) = .ok (.ifCond .ge off, 3)) (ht : ((pc + 1 : Nat) : Int) + off = (tgt : Int)) (k1 : WM X tgt lo st nc ns a) (k2 : WM X (pc + 4) lo st nc ns b) : WM X pc lo (.long y :: .long x :: st) nc ns (if y ≤ x then a else b) := by
  obtain ⟨p, l, e, R, s, m, args, below, meth, c, d, b, base, z, Q, r0, h0⟩ := X
  intro h hk H locs ls hH hS hl
  rw [ite_ap] at hk
  refine W.lcmp hX.1 hX.2.1 hd ?_
  exact lv_if_ge hX.1 hX.2.1 hd2 ht (fun q => k1 h (by rw [if_pos ((lg_cmp_ge x y).mp q)] at hk; exact hk) H locs ls hH hS hl) (fun q => k2 h (by rw [if_neg (fun z => q ((lg_cmp_ge x y).mpr z))] at hk; exact hk) H locs ls hH hS hl)
theorem wm_if_gt {x : Int32} {a b : M α} {off : Int} (tgt : Nat) (hX : Cx X own cc nL rm) (hd : decode cc pc = .ok (.ifCond .gt off, 3)) (ht : (pc : Int) + off = (tgt : Int)) (k1 : WM X tgt lo st nc ns a) (k2 : WM X (pc + 3) lo st nc ns b) : WM X pc lo (.int x :: st) nc ns (if 0 < x then a else b) := by
  obtain ⟨p, l, e, R, s, m, args, below, meth, c, d, b, base, z, Q, r0, h0⟩ := X
  intro h hk H locs ls hH hS hl
  rw [ite_ap] at hk
  exact lv_if_gt hX.1 hX.2.1 hd ht (fun q => k1 h (by rw [if_pos q] at hk; exact hk) H locs ls hH hS hl) (fun q => k2 h (by rw [if_neg q] at hk; exact hk) H locs ls hH hS hl)
theorem wm_icmp_gt {x y : Int32} {a b : M α} {off : Int} (tgt : Nat) (hX : Cx X own cc nL rm) (hd : decode cc pc = .ok (.if_icmp .gt off, 3)) (ht : (pc : Int) + off = (tgt : Int)) (k1 : WM X tgt lo st nc ns a) (k2 : WM X (pc + 3) lo st nc ns b) : WM X pc lo (.int y :: .int x :: st) nc ns (if y < x then a else b) := by
  obtain ⟨p, l, e, R, s, m, args, below, meth, c, d, b, base, z, Q, r0, h0⟩ := X
  intro h hk H locs ls hH hS hl
  rw [ite_ap] at hk
  exact lv_icmp_gt hX.1 hX.2.1 hd ht (fun q => k1 h (by rw [if_pos q] at hk; exact hk) H locs ls hH hS hl) (fun q => k2 h (by rw [if_neg q] at hk; exact hk) H locs ls hH hS hl)
theorem wm_lif_gt {x y : Int64} {a b : M α} {off : Int} (tgt : Nat) (hX : Cx X own cc nL rm) (hd : decode cc pc = .ok (.lcmp, 1)) (hd2 : decode cc (pc + 1) = .ok (.ifCond .gt off, 3)) (ht : ((pc + 1 : Nat) : Int) + off = (tgt : Int)) (k1 : WM X tgt lo st nc ns a) (k2 : WM X (pc + 4) lo st nc ns b) : WM X pc lo (.long y :: .long x :: st) nc ns (if y < x then a else b) := by
  obtain ⟨p, l, e, R, s, m, args, below, meth, c, d, b, base, z, Q, r0, h0⟩ := X
  intro h hk H locs ls hH hS hl
  rw [ite_ap] at hk
  refine W.lcmp hX.1 hX.2.1 hd ?_
  exact lv_if_gt hX.1 hX.2.1 hd2 ht (fun q => k1 h (by rw [if_pos ((lg_cmp_gt x y).mp q)] at hk; exact hk) H locs ls hH hS hl) (fun q => k2 h (by rw [if_neg (fun z => q ((lg_cmp_gt x y).mpr z))] at hk; exact hk) H locs ls hH hS hl)
theorem wm_if_le {x : Int32} {a b : M α} {off : Int} (tgt : Nat) (hX : Cx X own cc nL rm) (hd : decode cc pc = .ok (.ifCond .le off, 3)) (ht : (pc : Int) + off = (tgt : Int)) (k1 : WM X tgt lo st nc ns a) (k2 : WM X (pc + 3) lo st nc ns b) : WM X pc lo (.int x :: st) nc ns (if x ≤ 0 then a else b) := by
  obtain ⟨p, l, e, R, s, m, args, below, meth, c, d, b, base, z, Q, r0, h0⟩ := X
  intro h hk H locs ls hH hS hl
  rw [ite_ap] at hk
  exact lv_if_le hX.1 hX.2.1 hd ht (fun q => k1 h (by rw [if_pos q] at hk; exact hk) H locs ls hH hS hl) (fun q => k2 h (by rw [if_neg q] at hk; exact hk) H locs ls hH hS hl)
theorem wm_icmp_le {x y : Int32} {a b : M α} {off : Int} (tgt : Nat) (hX : Cx X own cc nL rm) (hd : decode cc pc = .ok (.if_icmp .le off, 3)) (ht : (pc : Int) + off = (tgt : Int)) (k1 : WM X tgt lo st nc ns a) (k2 : WM X (pc + 3) lo st nc ns b) : WM X pc lo (.int y :: .int x :: st) nc ns (if x ≤ y then a else b) := by
  obtain ⟨p, l, e, R, s, m, args, below, meth, c, d, b, base, z, Q, r0, h0⟩ := X
  intro h hk H locs ls hH hS hl
  rw [ite_ap] at hk
  exact lv_icmp_le hX.1 hX.2.1 hd ht (fun q => k1 h (by rw [if_pos q] at hk; exact hk) H locs ls hH hS hl) (fun q => k2 h (by rw [if_neg q] at hk; exact hk) H locs ls hH hS hl)
theorem wm_lif_le {x y : Int64} {a b : M α} {off : Int} (tgt : Nat) (hX : Cx X own cc nL rm) (hd : decode cc pc = .ok (.lcmp, 1)) (hd2 : decode cc (pc + 1) = .ok (.ifCond .le off, 3)) (ht : ((pc + 1 : Nat) : Int) + off = (tgt : Int)) (k1 : WM X tgt lo st nc ns a) (k2 : WM X (pc + 4) lo st nc ns b) : WM X pc lo (.long y :: .long x :: st) nc ns (if x ≤ y then a else b) := by
  obtain ⟨p, l, e, R, s, m, args, below, meth, c, d, b, base, z, Q, r0, h0⟩ := X
  intro h hk H locs ls hH hS hl
  rw [ite_ap] at hk
  refine W.lcmp hX.1 hX.2.1 hd ?_
  exact lv_if_le hX.1 hX.2.1 hd2 ht (fun q => k1 h (by rw [if_pos ((lg_cmp_le x y).mp q)] at hk; exact hk) H locs ls hH hS hl) (fun q => k2 h (by rw [if_neg (fun z => q ((lg_cmp_le x y).mpr z))] at hk; exact hk) H locs ls hH hS hl)
theorem wm_sub (ks : List Nat) (lo' : List (Nat × Value)) (hl' : lv_pick lo ks = lo') (kk : WM X pc lo' st nc ns k) : WM X pc lo st nc ns k := by
  obtain ⟨p, l, e, R, s, m, args, below, meth, c, d, b, base, z, Q, r0, h0⟩ := X
  intro h hk H locs ls hH hS hl
  refine kk h hk H locs ls hH hS (lv_sub hl ks ?_)
  rw [← hl']
  simp only [lv_pick, List.getElem?_map]
  rw [List.map_filterMap]
theorem wm_fl : WM X pc lo st nc ns fl := by
  obtain ⟨p, l, e, R, s, m, args, below, meth, c, d, b, base, z, Q, r0, h0⟩ := X
  intro h hk H locs ls hH hS hl
  cases hk
theorem wm_congr {k' : M α} (e : k = k') (kk : WM X pc lo st nc ns k') : WM X pc lo st nc ns k := e ▸ kk
theorem wm_ckd {ci o : Nat} (kk : WM X pc lo st nc ns k) : WM X pc lo st nc ns (ckd ci o k) := by
  obtain ⟨p, l, e, R, s, m, args, below, meth, c, d, b, base, z, Q, r0, h0⟩ := X
  intro h hk H locs ls hH hS hl
  exact kk h (ckd_some hk).2 H locs ls hH hS hl
end RowsA
end
section
/-! Rows that read and write cells. -/
theorem HR.set {z : Bool} {d : AD} {b base : Nat} {h : AH} {H H1 : Heap} {k : Nat} (hH : HR z d b base h H) (hk : k < h.1) (e : AE) (hz : H1.size = H.size) (oq : ∀ q, q ≠ base + k → H1[q]? = H[q]?) (ha : va_at (d.1, d.2.1) vwCl (base + k, se d b base e) H1) :
    HR z d b base (h.1, va_up h.2 (k + 1) e) H1 := by
  refine ⟨fun q => by rw [hz]; exact hH.1 q, ?_⟩
  rw [← tw_set hk]
  exact hH.2.set tw_D (tw_get hk) ha oq
theorem HR.push {z : Bool} {d : AD} {b base : Nat} {h : AH} {H H1 : Heap} (hH : HR z d b base h H) (hsz : H.size = base + h.1) (e : AE) (hz : H1.size = H.size + 1) (oq : ∀ q, q < H.size → H1[q]? = H[q]?) (ha : va_at (d.1, d.2.1) vwCl (base + h.1, se d b base e) H1) :
    HR z d b base (h.1 + 1, va_up h.2 (h.1 + 1) e) H1 := by
  refine ⟨fun q => by rw [hz, hsz]; rfl, ?_⟩
  rw [← tw_push]
  refine (hH.2.kept fun k x hx => oq x.1 ((hH.2 k x hx).lt)).app (fun k x hx => ?_)
  have hz : k < 1 := (List.getElem?_eq_some_iff.mp hx).1
  rw [show k = 0 by omega] at hx
  cases hx
  exact ha
theorem vp_V_range {N j : Nat} (g : Nat → Value) (hj : j < N) : vp_V ((List.range N).map g) j = g j := by
  simp [vp_V, hj]
def FL (own : String) (idx ci i : Nat) : Prop := ∃ (C : String) (T : u_T) (N : Nat), vwCl[ci]? = some (C, T, N) ∧ i < N ∧ (∀ w ∈ u_ws C T N, w ∈ lw_g) ∧ Cond.fieldLink own idx (T i).1 (T i).2.1 (T i).2.2.1 ∈ lw_g
/-- a kind's tables: names apart, types as told -/
def CF (ci : Nat) (C : String) (T : u_T) (N : Nat) : Prop := vwCl[ci]? = some (C, T, N) ∧ (∀ w ∈ u_ws C T N, w ∈ lw_g) ∧ (∃ ty0 : Nat → FieldType, ∀ k, k < N → parseFieldDescriptor (T k).2.2.1 = some (ty0 k)) ∧ ∀ a, a < N → ∀ b, b < N → a ≠ b → (T a).2.1 ≠ (T b).2.1
def FP (own : String) (idx ci i : Nat) (ty : FieldType) : Prop := ∃ (C : String) (T : u_T) (N : Nat), CF ci C T N ∧ i < N ∧ Cond.fieldLink own idx (T i).1 (T i).2.1 (T i).2.2.1 ∈ lw_g ∧ (T i).2.2.2 = false ∧ parseFieldDescriptor (T i).2.2.1 = some ty
def FF (own : String) (idx ci i : Nat) (ty : FieldType) : Prop := ∃ (C : String) (T : u_T) (N : Nat), CF ci C T N ∧ i < N ∧ Cond.fieldLink own idx (T i).1 (T i).2.1 (T i).2.2.1 ∈ lw_g ∧ (T i).2.2.2 = true ∧ (T i).1 = own ∧ parseFieldDescriptor (T i).2.2.1 = some ty
theorem nF_eq {ci : Nat} {C : String} {T : u_T} {N : Nat} (h : vwCl[ci]? = some (C, T, N)) : nF ci = N := by
  unfold nF
  rw [h]
section RowsB
variable {α : Type} {X : CX α} {own : String} {cc : ByteArray} {nL : Nat} {rm : Room} {pc : Nat} {lo : List (Nat × Value)} {st : List Value} {nc ns : Nat}
theorem wm_gI {ci o i idx : Nat} {k : Int32 → M α} (hX : Cx X own cc nL rm) (hf : FL own idx ci i) (hd : decode cc pc = .ok (.getfield idx, 3)) (kk : ∀ v : Int32, WM X (pc + 3) lo (.int v :: st) nc ns (k v)) : WM X pc lo (.ref o :: st) nc ns (bd (gI ci o i) k) := by
  obtain ⟨p, l, e, R, s, m, args, below, meth, c, d, b, base, z, Q, r0, h0⟩ := X
  intro h hk H locs ls hH hS hl
  obtain ⟨v, h1, e1, e2⟩ := bd_some hk
  obtain ⟨F, f1, f2, f3⟩ := gI_some e1
  dsimp only at f2 f3
  subst f3
  obtain ⟨j, rfl, hj, hc⟩ := lk_some f1
  obtain ⟨C, T, N, c1, c2, c3, c4⟩ := hf
  refine va_get (D := (d.1, d.2.1)) (v := .int v) hX.1 hX.2.1 (Ts := lw_g) hX.2.2.2.2.2.1 c3 hX.2.2.2.2.1 hX.2.2.2.2.2.2.1.1 hH.2 j (fs := (List.range (nF ci)).map (fun k => sv b base (F k))) (by rw [tw_get hj, hc]; rfl) c1 i c2 (hX.2.2.2.2.2.1 _ c4) (fun _ q => q) ?_ hd (kk v h1 e2 H locs ls hH hS hl)
  rw [nF_eq c1]
  simp [c2, f2, sv]
theorem wm_gL {ci o i idx : Nat} {k : Int64 → M α} (hX : Cx X own cc nL rm) (hf : FL own idx ci i) (hd : decode cc pc = .ok (.getfield idx, 3)) (kk : ∀ v : Int64, WM X (pc + 3) lo (.long v :: st) nc ns (k v)) : WM X pc lo (.ref o :: st) nc ns (bd (gL ci o i) k) := by
  obtain ⟨p, l, e, R, s, m, args, below, meth, c, d, b, base, z, Q, r0, h0⟩ := X
  intro h hk H locs ls hH hS hl
  obtain ⟨v, h1, e1, e2⟩ := bd_some hk
  obtain ⟨F, f1, f2, f3⟩ := gL_some e1
  dsimp only at f2 f3
  subst f3
  obtain ⟨j, rfl, hj, hc⟩ := lk_some f1
  obtain ⟨C, T, N, c1, c2, c3, c4⟩ := hf
  refine va_get (D := (d.1, d.2.1)) (v := .long v) hX.1 hX.2.1 (Ts := lw_g) hX.2.2.2.2.2.1 c3 hX.2.2.2.2.1 hX.2.2.2.2.2.2.1.1 hH.2 j (fs := (List.range (nF ci)).map (fun k => sv b base (F k))) (by rw [tw_get hj, hc]; rfl) c1 i c2 (hX.2.2.2.2.2.1 _ c4) (fun _ q => q) ?_ hd (kk v h1 e2 H locs ls hH hS hl)
  rw [nF_eq c1]
  simp [c2, f2, sv]
theorem wm_gR {ci o i idx : Nat} {k : Nat → M α} (hX : Cx X own cc nL rm) (hf : FL own idx ci i) (hd : decode cc pc = .ok (.getfield idx, 3)) (kk : ∀ v : Nat, WM X (pc + 3) lo (.ref v :: st) nc ns (k v)) : WM X pc lo (.ref o :: st) nc ns (bd (gR ci o i) k) := by
  obtain ⟨p, l, e, R, s, m, args, below, meth, c, d, b, base, z, Q, r0, h0⟩ := X
  intro h hk H locs ls hH hS hl
  obtain ⟨v, h1, e1, e2⟩ := bd_some hk
  obtain ⟨F, f1, f2, f3⟩ := gR_some e1
  dsimp only at f2 f3
  subst f3
  obtain ⟨j, rfl, hj, hc⟩ := lk_some f1
  obtain ⟨C, T, N, c1, c2, c3, c4⟩ := hf
  refine va_get (D := (d.1, d.2.1)) (v := .ref (sa b base v)) hX.1 hX.2.1 (Ts := lw_g) hX.2.2.2.2.2.1 c3 hX.2.2.2.2.1 hX.2.2.2.2.2.2.1.1 hH.2 j (fs := (List.range (nF ci)).map (fun k => sv b base (F k))) (by rw [tw_get hj, hc]; rfl) c1 i c2 (hX.2.2.2.2.2.1 _ c4) (fun _ q => q) ?_ hd (kk v h1 e2 H locs ls hH hS hl)
  rw [nF_eq c1]
  simp [c2, f2, sv]
theorem wm_pV {ci o i idx : Nat} {ty : FieldType} {v : Value} {k : Unit → M α} (hX : Cx X own cc nL rm) (hf : FP own idx ci i ty) (hv : ∀ b base, narrow ty (sv b base v) = sv b base v ∧ fits ty (sv b base v) = true) (hd : decode cc pc = .ok (.putfield idx, 3)) (kk : WM X (pc + 3) lo st nc ns (k ())) : WM X pc lo (v :: .ref o :: st) nc ns (bd (pV ci o i v) k) := by
  obtain ⟨p, l, e, R, s, m, args, below, meth, c, d, b, base, z, Q, r0, h0⟩ := X
  intro h hk H locs ls hH hS hl
  obtain ⟨⟨⟩, h1, e1, e2⟩ := bd_some hk
  obtain ⟨F, f1, f3⟩ := pV_some e1
  dsimp only at f3
  subst f3
  obtain ⟨j, rfl, hj, hc⟩ := lk_some f1
  obtain ⟨C, T, N, ⟨c1, c3, ⟨ty0, c5⟩, c6⟩, c2, c4, c7, c8⟩ := hf
  have hts := hX.2.2.2.2.2.1
  have hK := hX.2.2.2.2.2.2.1.1
  have hN := nF_eq c1
  have hap := va_apart (own := own) hts c3 ty0 c5 c6 hK c1
  obtain ⟨r, g1, cell, q1, q2, q3, q4⟩ := hH.2 j _ (show (tw d b base h)[j]? = some (base + j, .inr (ci, (List.range (nF ci)).map (fun k => sv b base (F k)))) by rw [tw_get hj, hc]; rfl)
  have hr : r = (C, T, N) := Option.some.inj (g1.symm.trans c1)
  subst hr
  obtain ⟨hSl, hfc, kC, hkC, hkind⟩ := hK.1 ci _ c1
  obtain ⟨cf, kf, fi, f, hi, hsl⟩ := hSl i c2
  have hlay := hts _ (c3 _ (u_in_lay c2))
  unfold u_lay at hlay
  rw [if_neg (by rw [c7]; decide)] at hlay
  refine W.putK hX.1 hX.2.1 (f := f) ⟨hX.2.2.2.2.1, hts _ c4, ⟨_, _, _, hi⟩, (u_facts hfc hkC (u_lays hts c3 c2) hi).1⟩ (by rw [q2]; exact u_store hfc hkC hkind hlay hi c8 (hv b base).1 (hv b base).2) q1 q3 (by rw [hsl]; exact k2_hasslot (q4 i c2)) rfl rfl hd (fun H' w1 w2 w3 => ?_)
  rw [hsl] at w1 ⊢
  refine kk _ e2 H' _ ls (hH.set hj _ w2 w3 ⟨_, c1, ?_⟩) (hS.put w2 w3 (Nat.le_add_right _ _)) hl
  refine t_OB.to (V := updV (vp_V ((List.range (nF ci)).map (fun k => sv b base (F k)))) i (sv b base v)) ⟨_, w1, q2, q3, t_set q4 hap c2 _⟩ (fun j' hj' => ?_)
  have hj2 : j' < N := hj'
  rw [vp_V_range _ (by rw [hN]; exact hj2)]
  by_cases hji : j' = i
  · subst hji
    simp [updV, va_up]
  · simp only [updV, va_up, if_neg hji]
    rw [vp_V_range _ (by rw [hN]; exact hj2)]
theorem wm_fV {ci o i idx : Nat} {ty : FieldType} {v : Value} {k : Unit → M α} (hX : Cx X own cc nL rm) (hnm : Nm X "<init>") (hf : FF own idx ci i ty) (hv : ∀ b base, narrow ty (sv b base v) = sv b base v ∧ fits ty (sv b base v) = true) (hd : decode cc pc = .ok (.putfield idx, 3)) (kk : WM X (pc + 3) lo st nc ns (k ())) : WM X pc lo (v :: .ref o :: st) nc ns (bd (pV ci o i v) k) := by
  obtain ⟨p, l, e, R, s, m, args, below, meth, c, d, b, base, z, Q, r0, h0⟩ := X
  intro h hk H locs ls hH hS hl
  obtain ⟨⟨⟩, h1, e1, e2⟩ := bd_some hk
  obtain ⟨F, f1, f3⟩ := pV_some e1
  dsimp only at f3
  subst f3
  obtain ⟨j, rfl, hj, hc⟩ := lk_some f1
  obtain ⟨C, T, N, ⟨c1, c3, ⟨ty0, c5⟩, c6⟩, c2, c4, c7, c9, c8⟩ := hf
  have hts := hX.2.2.2.2.2.1
  have hK := hX.2.2.2.2.2.2.1.1
  have hN := nF_eq c1
  have hap := va_apart (own := own) hts c3 ty0 c5 c6 hK c1
  obtain ⟨r, g1, cell, q1, q2, q3, q4⟩ := hH.2 j _ (show (tw d b base h)[j]? = some (base + j, .inr (ci, (List.range (nF ci)).map (fun k => sv b base (F k)))) by rw [tw_get hj, hc]; rfl)
  have hr : r = (C, T, N) := Option.some.inj (g1.symm.trans c1)
  subst hr
  obtain ⟨hSl, hfc, kC, hkC, hkind⟩ := hK.1 ci _ c1
  obtain ⟨cf, kf, fi, f, hi, hsl⟩ := hSl i c2
  have hlay := hts _ (c3 _ (u_in_lay c2))
  unfold u_lay at hlay
  rw [if_pos c7] at hlay
  have hcf : m.cls = cf := by
    obtain ⟨_, _, c', _, _, _, -, -, hf', -, -, -, hown2, -⟩ := Cond.laysFinal_spec hlay
    have e1 : c' = cf := by have := hi.symm.trans hf'; simp at this; exact this.1.symm
    rw [c9] at hown2
    rw [← e1]; exact Option.some.inj (hX.2.2.2.2.1.symm.trans hown2)
  refine W.putFinK hX.1 hX.2.1 hX.2.2.2.2.1 (hts _ c4) hi (u_facts hfc hkC (u_lays hts c3 c2) hi).1 hcf hnm (by rw [q2]; exact u_fits hfc hkC hkind (Or.inr hlay) hi c8 (hv b base).1 (hv b base).2) q1 q3 (by rw [hsl]; exact k2_hasslot (q4 i c2)) rfl rfl hd (fun H' w1 w2 w3 => ?_)
  rw [hsl] at w1 ⊢
  refine kk _ e2 H' _ ls (hH.set hj _ w2 w3 ⟨_, c1, ?_⟩) (hS.put w2 w3 (Nat.le_add_right _ _)) hl
  refine t_OB.to (V := updV (vp_V ((List.range (nF ci)).map (fun k => sv b base (F k)))) i (sv b base v)) ⟨_, w1, q2, q3, t_set q4 hap c2 _⟩ (fun j' hj' => ?_)
  have hj2 : j' < N := hj'
  rw [vp_V_range _ (by rw [hN]; exact hj2)]
  by_cases hji : j' = i
  · subst hji
    simp [updV, va_up]
  · simp only [updV, va_up, if_neg hji]
    rw [vp_V_range _ (by rw [hN]; exact hj2)]
theorem wm_pI {ci o i idx : Nat} {v : Int32} {k : Unit → M α} (hX : Cx X own cc nL rm) (hf : FP own idx ci i .int) (hd : decode cc pc = .ok (.putfield idx, 3)) (kk : WM X (pc + 3) lo st nc ns (k ())) : WM X pc lo (.int v :: .ref o :: st) nc ns (bd (pI ci o i v) k) := wm_pV hX hf (fun _ _ => ⟨rfl, rfl⟩) hd kk
theorem wm_pL {ci o i idx : Nat} {v : Int64} {k : Unit → M α} (hX : Cx X own cc nL rm) (hf : FP own idx ci i .long) (hd : decode cc pc = .ok (.putfield idx, 3)) (kk : WM X (pc + 3) lo st nc ns (k ())) : WM X pc lo (.long v :: .ref o :: st) nc ns (bd (pL ci o i v) k) := wm_pV hX hf (fun _ _ => ⟨rfl, rfl⟩) hd kk
theorem wm_pR {ci o i idx v : Nat} {C : String} {k : Unit → M α} (hX : Cx X own cc nL rm) (hf : FP own idx ci i (.object C)) (hd : decode cc pc = .ok (.putfield idx, 3)) (kk : WM X (pc + 3) lo st nc ns (k ())) : WM X pc lo (.ref v :: .ref o :: st) nc ns (bd (pR ci o i v) k) := wm_pV hX hf (fun _ _ => ⟨rfl, rfl⟩) hd kk
theorem wm_fR {ci o i idx v : Nat} {C : String} {k : Unit → M α} (hX : Cx X own cc nL rm) (hnm : Nm X "<init>") (hf : FF own idx ci i (.object C)) (hd : decode cc pc = .ok (.putfield idx, 3)) (kk : WM X (pc + 3) lo st nc ns (k ())) : WM X pc lo (.ref v :: .ref o :: st) nc ns (bd (pR ci o i v) k) := wm_fV hX hnm hf (fun _ _ => ⟨rfl, rfl⟩) hd kk
theorem wm_fA {ci o i idx v : Nat} {C : FieldType} {k : Unit → M α} (hX : Cx X own cc nL rm) (hnm : Nm X "<init>") (hf : FF own idx ci i (.array C)) (hd : decode cc pc = .ok (.putfield idx, 3)) (kk : WM X (pc + 3) lo st nc ns (k ())) : WM X pc lo (.ref v :: .ref o :: st) nc ns (bd (pR ci o i v) k) := wm_fV hX hnm hf (fun _ _ => ⟨rfl, rfl⟩) hd kk
theorem wm_pZ {ci o i idx : Nat} {v : Int32} {k : Unit → M α} (hX : Cx X own cc nL rm) (hf : FP own idx ci i .boolean) (hd : decode cc pc = .ok (.putfield idx, 3)) (kk : WM X (pc + 3) lo st nc ns (k ())) : WM X pc lo (.int v :: .ref o :: st) nc ns (bd (pZ ci o i v) k) := by
  by_cases hv : v = 0 ∨ v = 1
  · have e : bd (pZ ci o i v) k = bd (pV ci o i (.int v)) k := by
      funext h; simp [bd, pZ, hv]
    rw [e]
    refine wm_pV hX hf (fun _ _ => ?_) hd kk
    rcases hv with rfl | rfl
    · exact ⟨(by decide : narrow .boolean (.int 0) = .int 0), (by decide : fits .boolean (.int 0) = true)⟩
    · exact ⟨(by decide : narrow .boolean (.int 1) = .int 1), (by decide : fits .boolean (.int 1) = true)⟩
  · have e : bd (pZ ci o i v) k = fl := by
      funext h; simp [bd, pZ, hv, fl]
    rw [e]
    exact wm_fl
theorem wm_ldI {o : Nat} {i : Int32} {k : Int32 → M α} (hX : Cx X own cc nL rm) (hd : decode cc pc = .ok (.iaload, 1)) (kk : ∀ v : Int32, WM X (pc + 1) lo (.int v :: st) nc ns (k v)) : WM X pc lo (.int i :: .ref o :: st) nc ns (bd (ldI o i) k) := by
  obtain ⟨p, l, e, R, s, m, args, below, meth, c, d, b, base, z, Q, r0, h0⟩ := X
  intro h hk H locs ls hH hS hl
  obtain ⟨v, h1, e1, e2⟩ := bd_some hk
  obtain ⟨n, f, f1, f2, f3⟩ := ldT_some e1
  cases f3
  obtain ⟨j, rfl, hj, hc⟩ := lk_some f1
  exact va_iald hX.1 hX.2.1 hX.2.2.2.2.2.2.1.1 hH.2 j 0 (by rw [tw_get hj, hc]; rfl) rfl f2 hd (kk _ h e2 H locs ls hH hS hl)
theorem wm_ldZ {o : Nat} {i : Int32} {k : Int32 → M α} (hX : Cx X own cc nL rm) (hd : decode cc pc = .ok (.baload, 1)) (kk : ∀ v : Int32, WM X (pc + 1) lo (.int v :: st) nc ns (k v)) : WM X pc lo (.int i :: .ref o :: st) nc ns (bd (ldZ o i) k) := by
  obtain ⟨p, l, e, R, s, m, args, below, meth, c, d, b, base, z, Q, r0, h0⟩ := X
  intro h hk H locs ls hH hS hl
  obtain ⟨v, h1, e1, e2⟩ := bd_some hk
  obtain ⟨n, f, f1, f2, f3⟩ := ldT_some e1
  cases f3
  obtain ⟨j, rfl, hj, hc⟩ := lk_some f1
  exact va_zald hX.1 hX.2.1 hX.2.2.2.2.2.2.1.1 hH.2 j 2 (by rw [tw_get hj, hc]; rfl) rfl f2 hd (kk _ h e2 H locs ls hH hS hl)
theorem wm_ldL {o : Nat} {i : Int32} {k : Int64 → M α} (hX : Cx X own cc nL rm) (hd : decode cc pc = .ok (.laload, 1)) (kk : ∀ v : Int64, WM X (pc + 1) lo (.long v :: st) nc ns (k v)) : WM X pc lo (.int i :: .ref o :: st) nc ns (bd (ldL o i) k) := by
  obtain ⟨p, l, e, R, s, m, args, below, meth, c, d, b, base, z, Q, r0, h0⟩ := X
  intro h hk H locs ls hH hS hl
  obtain ⟨v, h1, e1, e2⟩ := bd_some hk
  obtain ⟨n, f, f1, f2, f3⟩ := ldL_some e1
  cases f3
  obtain ⟨j, rfl, hj, hc⟩ := lk_some f1
  exact va_lald hX.1 hX.2.1 hX.2.2.2.2.2.2.1.1 hH.2 j 1 (by rw [tw_get hj, hc]; rfl) rfl f2 hd (kk _ h e2 H locs ls hH hS hl)
theorem wm_ldR {t o : Nat} {i : Int32} {k : Nat → M α} (ht : t = 3 ∨ t = 4) (hX : Cx X own cc nL rm) (hd : decode cc pc = .ok (.aaload, 1)) (kk : ∀ v : Nat, WM X (pc + 1) lo (.ref v :: st) nc ns (k v)) : WM X pc lo (.int i :: .ref o :: st) nc ns (bd (ldR t o i) k) := by
  obtain ⟨p, l, e, R, s, m, args, below, meth, c, d, b, base, z, Q, r0, h0⟩ := X
  intro h hk H locs ls hH hS hl
  obtain ⟨v, h1, e1, e2⟩ := bd_some hk
  obtain ⟨n, f, f1, f2, f3, f4⟩ := ldR_some e1
  dsimp only at f3 f4
  subst f4
  obtain ⟨j, rfl, hj, hc⟩ := lk_some f1
  have kk' := kk v h1 e2 H locs ls hH hS hl
  have e5 : va_rf ((fun j => (f j).map (sa b base)) i.toNatClampNeg) = Value.ref (sa b base v) := by simp [f3, va_rf]
  rcases ht with rfl | rfl
  · refine va_aldq (C := "OneBitLoop$Reel") hX.1 hX.2.1 hX.2.2.2.2.2.2.1.1 hH.2 j 3 (f := fun j => (f j).map (sa b base)) (by rw [tw_get hj, hc]; rfl) rfl f2 hd ?_
    rw [e5]; exact kk'
  · refine va_aldq (C := "OneBitLoop$Twin") hX.1 hX.2.1 hX.2.2.2.2.2.2.1.1 hH.2 j 4 (f := fun j => (f j).map (sa b base)) (by rw [tw_get hj, hc]; rfl) rfl f2 hd ?_
    rw [e5]; exact kk'
theorem wm_alen {t o : Nat} {k : Int32 → M α} {ty : FieldType} (hty : ∀ d, (tys d)[t]? = some (d.2.2 t, ty)) (hX : Cx X own cc nL rm) (hd : decode cc pc = .ok (.arraylength, 1)) (kk : ∀ v : Int32, WM X (pc + 1) lo (.int v :: st) nc ns (k v)) : WM X pc lo (.ref o :: st) nc ns (bd (alen t o) k) := by
  obtain ⟨p, l, e, R, s, m, args, below, meth, c, d, b, base, z, Q, r0, h0⟩ := X
  intro h hk H locs ls hH hS hl
  obtain ⟨v, h1, e1, e2⟩ := bd_some hk
  obtain ⟨a, f1, f3⟩ := alen_some e1
  cases f3
  obtain ⟨j, rfl, hj, hc⟩ := lk_some f1
  exact va_alen (x := sA b base a) hX.1 hX.2.1 hX.2.2.2.2.2.2.1.1 hH.2 j t (by rw [tw_get hj, hc]; rfl) (hty d) rfl hd (kk _ h e2 H locs ls hH hS hl)
theorem wm_stI {o : Nat} {i v : Int32} {k : Unit → M α} (hX : Cx X own cc nL rm) (hd : decode cc pc = .ok (.iastore, 1)) (kk : WM X (pc + 1) lo st nc ns (k ())) : WM X pc lo (.int v :: .int i :: .ref o :: st) nc ns (bd (stI o i v) k) := by
  obtain ⟨p, l, e, R, s, m, args, below, meth, c, d, b, base, z, Q, r0, h0⟩ := X
  intro h hk H locs ls hH hS hl
  obtain ⟨⟨⟩, h1, e1, e2⟩ := bd_some hk
  obtain ⟨n, f, f1, f2, f3⟩ := stI_some e1
  dsimp only at f3
  subst f3
  obtain ⟨j, rfl, hj, hc⟩ := lk_some f1
  have hcell : H[base + j]? = some (arrV (d.2.2 0) n (fun q => .int (f q))) := hH.2 j _ (show (tw d b base h)[j]? = some (base + j, .inl (d.2.2 0, n, .inl f)) by rw [tw_get hj, hc]; rfl)
  refine W.iast hX.1 hX.2.1 hcell ((hX.2.2.2.2.2.2.1.1.2 0 _ rfl).1 n _) (fun q => by cases q) (by rw [arrV_size]; exact f2) rfl rfl hd (fun H' w1 w2 w3 => ?_)
  refine kk _ e2 H' _ ls (hH.set hj _ w2 w3 ?_) (hS.put w2 w3 (Nat.le_add_right _ _)) hl
  show H'[base + j]? = some (arrV (d.2.2 0) n (fun q => .int (va_up f i.toNatClampNeg v q)))
  rw [w1, arrV_store]
  congr 2
  funext q
  by_cases hq : q = i.toNatClampNeg <;> simp [updV, va_up, hq]
theorem wm_stL {o : Nat} {i : Int32} {v : Int64} {k : Unit → M α} (hX : Cx X own cc nL rm) (hd : decode cc pc = .ok (.lastore, 1)) (kk : WM X (pc + 1) lo st nc ns (k ())) : WM X pc lo (.long v :: .int i :: .ref o :: st) nc ns (bd (stL o i v) k) := by
  obtain ⟨p, l, e, R, s, m, args, below, meth, c, d, b, base, z, Q, r0, h0⟩ := X
  intro h hk H locs ls hH hS hl
  obtain ⟨⟨⟩, h1, e1, e2⟩ := bd_some hk
  obtain ⟨n, f, f1, f2, f3⟩ := stL_some e1
  dsimp only at f3
  subst f3
  obtain ⟨j, rfl, hj, hc⟩ := lk_some f1
  have hcell : H[base + j]? = some (arrV (d.2.2 1) n (fun q => .long (f q))) := hH.2 j _ (show (tw d b base h)[j]? = some (base + j, .inl (d.2.2 1, n, .inr (.inl f))) by rw [tw_get hj, hc]; rfl)
  refine W.last hX.1 hX.2.1 hcell ((hX.2.2.2.2.2.2.1.1.2 1 _ rfl).1 n _) (fun q => by cases q) (by rw [arrV_size]; exact f2) rfl rfl hd (fun H' w1 w2 w3 => ?_)
  refine kk _ e2 H' _ ls (hH.set hj _ w2 w3 ?_) (hS.put w2 w3 (Nat.le_add_right _ _)) hl
  show H'[base + j]? = some (arrV (d.2.2 1) n (fun q => .long (va_up f i.toNatClampNeg v q)))
  rw [w1, arrV_store]
  congr 2
  funext q
  by_cases hq : q = i.toNatClampNeg <;> simp [updV, va_up, hq]
theorem wm_stZ {o : Nat} {i v : Int32} {k : Unit → M α} (hX : Cx X own cc nL rm) (hd : decode cc pc = .ok (.bastore, 1)) (kk : WM X (pc + 1) lo st nc ns (k ())) : WM X pc lo (.int v :: .int i :: .ref o :: st) nc ns (bd (stZ o i v) k) := by
  obtain ⟨p, l, e, R, s, m, args, below, meth, c, d, b, base, z, Q, r0, h0⟩ := X
  intro h hk H locs ls hH hS hl
  obtain ⟨⟨⟩, h1, e1, e2⟩ := bd_some hk
  obtain ⟨n, f, f1, f2, f5, f3⟩ := stZ_some e1
  dsimp only at f3
  subst f3
  obtain ⟨j, rfl, hj, hc⟩ := lk_some f1
  have hcell : H[base + j]? = some (arrV (d.2.2 2) n (fun q => .int (f q))) := hH.2 j _ (show (tw d b base h)[j]? = some (base + j, .inl (d.2.2 2, n, .inl f)) by rw [tw_get hj, hc]; rfl)
  refine W.zast hX.1 hX.2.1 hcell ((hX.2.2.2.2.2.2.1.1.2 2 _ rfl).1 n _) (fun q => by cases q) (by rw [arrV_size]; exact f2) rfl rfl hd (fun H' w1 w2 w3 => ?_)
  refine kk _ e2 H' _ ls (hH.set hj _ w2 w3 ?_) (hS.put w2 w3 (Nat.le_add_right _ _)) hl
  show H'[base + j]? = some (arrV (d.2.2 2) n (fun q => .int (va_up f i.toNatClampNeg v q)))
  have hnar : narrow .boolean (.int v) = .int v := by rcases f5 with rfl | rfl <;> decide
  rw [w1, arrV_store, hnar]
  congr 2
  funext q
  by_cases hq : q = i.toNatClampNeg <;> simp [updV, va_up, hq]
theorem wm_stR {t ci o v : Nat} {i : Int32} {k : Unit → M α} (ht : (t = 3 ∧ ci = 3) ∨ (t = 4 ∧ ci = 6)) (hX : Cx X own cc nL rm) (hd : decode cc pc = .ok (.aastore, 1)) (kk : WM X (pc + 1) lo st nc ns (k ())) : WM X pc lo (.ref v :: .int i :: .ref o :: st) nc ns (bd (stR t ci o i v) k) := by
  obtain ⟨p, l, e, R, s, m, args, below, meth, c, d, b, base, z, Q, r0, h0⟩ := X
  intro h hk H locs ls hH hS hl
  obtain ⟨⟨⟩, h1, e1, e2⟩ := bd_some hk
  obtain ⟨n, f, F, f1, f4, f2, f3⟩ := stR_some e1
  dsimp only at f3
  subst f3
  obtain ⟨j, rfl, hj, hc⟩ := lk_some f1
  obtain ⟨j2, rfl, hj2, hc2⟩ := lk_some f4
  have hK := hX.2.2.2.2.2.2.1.1
  have hcell : H[base + j]? = some (arrV (d.2.2 t) n (fun q => va_rf ((f q).map (sa b base)))) := hH.2 j _ (show (tw d b base h)[j]? = some (base + j, .inl (d.2.2 t, n, .inr (.inr (.inr (.inr (fun q => (f q).map (sa b base))))))) by rw [tw_get hj, hc]; rfl)
  obtain ⟨r', hr', cellV, g1, g2, g3, -⟩ := hH.2 j2 _ (show (tw d b base h)[j2]? = some (base + j2, .inr (ci, (List.range (nF ci)).map (fun k => sv b base (F k)))) by rw [tw_get hj2, hc2]; rfl)
  have hk5 : ∃ (kA : Class) (C : String) (r : vw_C), s.vm.classes[d.2.2 t]? = some kA ∧ kA.kind = .array (d.1 ci) (.object C) ∧ vwCl[ci]? = some r := by
    rcases ht with ⟨rfl, rfl⟩ | ⟨rfl, rfl⟩
    · obtain ⟨kA, comp, k1, k2, k3, -⟩ := (hK.2 3 _ rfl).2
      have hcomp : comp = d.1 3 := Option.some.inj (k3.symm.trans (hK.1 3 (RX3, TX3, 4) rfl).2.1)
      subst hcomp
      exact ⟨kA, _, _, k1, k2, rfl⟩
    · obtain ⟨kA, comp, k1, k2, k3, -⟩ := (hK.2 4 _ rfl).2
      have hcomp : comp = d.1 6 := Option.some.inj (k3.symm.trans (hK.1 6 (RX6, TX6, 6) rfl).2.1)
      subst hcomp
      exact ⟨kA, _, _, k1, k2, rfl⟩
  obtain ⟨kA, C, r, k1, k2, hr⟩ := hk5
  have hcls := (hK.1 ci r hr).2
  obtain ⟨kC, hkC, -⟩ := id hcls.2
  have hlt : i.toNatClampNeg < n := Nat.not_le.mp fun q => f2 (Or.inr q)
  refine W.aast hX.1 hX.2.1 hcell (fun q h => by cases h) (fun h => by cases h) k1 k2 rfl hkC ⟨fun q => f2 (Or.inl q), by rw [arrV_size]; exact hlt⟩ g1 (fun q h => by rw [g3] at h; cases h) (by rw [g2]; exact hkC) (by rw [g2]; exact va_assign hcls) rfl rfl hd (fun H' w1 w2 w3 => ?_)
  refine kk _ e2 H' _ ls (hH.set hj _ w2 w3 ?_) (hS.put w2 w3 (Nat.le_add_right _ _)) hl
  show H'[base + j]? = some (arrV (d.2.2 t) n (fun q => va_rf ((va_up f i.toNatClampNeg (some (j2 + 1)) q).map (sa b base))))
  rw [w1, arrV_store]
  congr 2
  funext q
  by_cases hq : q = i.toNatClampNeg <;> simp [updV, va_up, hq, va_rf, sa]
end RowsB
end
section
/-! Rows that make cells, call, and return. -/
def CalV (y : MethodName) (C : String) (cc : ByteArray) (nL : Nat) (ret : Option FieldType) (n : Nat) : Prop := (y.cls = C ∧ y.cls ≠ "java/lang/invoke/MethodHandle" ∧ y.cls ≠ "java/lang/invoke/VarHandle" ∧ (parseMethodDescriptor y.desc).map (fun d => d.parameters.length) = some n) ∧ Cond.instanceMethod y ∈ lw_g ∧ Cond.selects C y y ∈ lw_g ∧ Cond.initialized C ∈ lw_g ∧ Cond.code y cc nL ret ∈ lw_g
def CalS (y : MethodName) (cc : ByteArray) (nL : Nat) (ret : Option FieldType) (n : Nat) : Prop := (y.cls ≠ "java/lang/invoke/MethodHandle" ∧ y.cls ≠ "java/lang/invoke/VarHandle" ∧ (parseMethodDescriptor y.desc).map (fun d => d.parameters.length) = some n) ∧ Cond.static y ∈ lw_g ∧ Cond.initialized y.cls ∈ lw_g ∧ Cond.code y cc nL ret ∈ lw_g
def CalI (y : MethodName) (cc : ByteArray) (nL : Nat) (n : Nat) : Prop := (y.cls ≠ "java/lang/invoke/MethodHandle" ∧ y.cls ≠ "java/lang/invoke/VarHandle" ∧ (parseMethodDescriptor y.desc).map (fun d => d.parameters.length) = some n) ∧ y.name = "<init>" ∧ Cond.instanceMethod y ∈ lw_g ∧ Cond.initialized y.cls ∈ lw_g ∧ Cond.code y cc nL none ∈ lw_g
def Ckd {α : Type} (ci o : Nat) (f : M α) : Prop := ∀ h x, f h = some x → ∃ F, lk h o = some (.inr (ci, F))
theorem Ckd.of {α : Type} {ci o : Nat} {f : M α} : Ckd ci o (ckd ci o f) := fun _ _ q => (ckd_some q).1
theorem good_self {y : MethodName} {cc : ByteArray} {nL : Nat} {ret : Option FieldType} (h : Cond.code y cc nL ret ∈ lw_g) : GoodIn lw_g (Cond.code y cc nL ret :: lw_g) := by
  intro w hw
  rcases List.mem_cons.mp hw with rfl | hw
  · exact ⟨h, lw_g_good h⟩
  · exact ⟨hw, lw_g_good hw⟩
theorem cat_map (b base : Nat) (st : List Value) : (((st.map (sv b base)).map fun v => v.category)).sum = (st.map fun v => v.category).sum := by
  rw [List.map_map]
  congr 1
  apply List.map_congr_left
  intro v _
  exact sv_cat b base v
theorem call_go {p : Program} {l : Launch} {e : Env} {R : Room} {s : State} {m : MethodId} {args : Array Value} {below : List Frame} {meth : Method} {c : Code} {H : Heap} {locs : List Loc} {cells slots mc ms : Nat} {Q : State → Prop} {pc : Nat} {ls : Array Slot} {rest st0 : List Value} {a : Array Value} {z : Bool} {d : AD} {b base : Nat} {v : Option Value} {h' : AH}
    (hr : va_Run p l e R s m args below meth c H locs cells slots mc ms (F0 m pc ls st0) rest (Qf z d b base v h' a) (fun q => base ≤ q)) (hS : va_S (fun q => base ≤ q) s.heap H locs)
    (kk : ∀ (H1 : Heap) (locs1 : List Loc), HR z d b base h' H1 → va_S (fun q => base ≤ q) s.heap H1 locs1 → W p l e R s m args below meth c H1 locs1 (cells + mc) (slots + ms) Q (F0 m (pc + 3) ls (v.toList ++ rest))) : W p l e R s m args below meth c H locs cells slots Q (F0 m pc ls st0) := by
  intro T hT X
  obtain ⟨w, st₀, t, T', L, g0, X', hL, e1, e2, ⟨hv, hh, hz, hk⟩, st⟩ := hr T hT X
  cases hv
  rw [g0] at hz hk
  obtain ⟨t2, a1, b1⟩ := kk T'.heap (locs ++ L) (by rw [e1]; exact hh)
    ⟨Nat.le_trans hS.1 (by rw [e1]; exact hz), fun q h1 h2 => by rw [e1, hk q (Nat.lt_of_lt_of_le h1 hS.1) h2]; exact hS.2.1 q h1 h2, fun q hq => by
      rcases List.mem_append.mp hq with h | h
      · exact hS.2.2 q h
      · exact hL q h⟩ T' rfl X'
  exact ⟨t2, st t2 a1, b1⟩
theorem blind {z : Bool} {d : AD} {b base : Nat} {h : AH} {av : List Value} : FrameBlind (va_Pc av (fun U => HR z d b base h U.heap ∧ KX d U ∧ base ≤ U.heap.size)) := by
  intro a U g mk q
  obtain ⟨q0, q1, q2, q3⟩ := q
  exact ⟨q0, q1, KX.same (s := U) (U := U.calling g mk a) rfl q2, q3⟩
section RowsC
variable {α β : Type} {X : CX α} {own : String} {cc cc' : ByteArray} {nL nL' : Nat} {rm rm' : Room} {pc : Nat} {lo : List (Nat × Value)} {st : List Value} {nc ns : Nat} {ret' : Option FieldType} {y : MethodName} {inj : β → Option Value} {av : List Value} {f : M β} {k : β → M α} {idx : Nat} {zz : Bool}
theorem wm_callV {o ci n : Nat} {C : String} {T : u_T} {N : Nat} (hX : Cx X own cc nL rm) (hz : Zx X zz) (hM : Im zz y cc' nL' ret' rm' inj (.ref o :: av) f) (hc : Ckd ci o f) (hci : vwCl[ci]? = some (C, T, N)) (cal : CalV y C cc' nL' ret' n) (hlink : Cond.methodLink own idx y ∈ lw_g) (hn : av.length = n) (hR : rm'.frames + 1 ≤ rm.frames ∧ 8 + (nL' + 11) + rm'.locals ≤ rm.locals) (hst : (st.map fun v => v.category).sum ≤ 8) (hroom : nc + rm'.cells ≤ rm.cells ∧ ns + rm'.slots ≤ rm.slots) (hd : decode cc pc = .ok (.invokevirtual idx, 3))
    (hs : ∀ b base r, (inj r).map (sv b base) = inj r) (kk : ∀ r : β, WM X (pc + 3) lo ((inj r).toList ++ st) (nc + rm'.cells) (ns + rm'.slots) (k r)) : WM X pc lo (av.reverse ++ .ref o :: st) nc ns (bd f k) := by
  obtain ⟨p, l, e, R, s, m, args, below, meth, c, d, b, base, z, Q, r0, h0⟩ := X
  intro h hk H locs ls hH hS hl
  obtain ⟨r, h1, e1, e2⟩ := bd_some hk
  obtain ⟨F, f1⟩ := hc h _ e1
  obtain ⟨j, rfl, hj, hcj⟩ := lk_some f1
  obtain ⟨x1, x2, x3, x4, x5, x6, x7, x8⟩ := id hX
  subst x4
  have hz : z = zz := hz
  subst hz
  have hrec := va_recv x7.1 hH.2 hci (show (tw d b base h)[j]? = some (base + j, .inr (ci, (List.range (nF ci)).map (fun k => sv b base (F k)))) by rw [tw_get hj, hcj]; rfl)
  obtain ⟨c1, c2, c3, c4, c5⟩ := cal
  have hG : GoodIn lw_g (wsV own idx C y (Cond.code y cc' nL' ret' :: lw_g)) := by
    intro w hw
    unfold wsV at hw
    rcases List.mem_append.mp hw with hw | hw
    · have : w ∈ lw_g := by
        simp only [List.mem_cons, List.not_mem_nil, or_false] at hw
        rcases hw with rfl | rfl | rfl | rfl
        · exact hlink
        · exact c2
        · exact c3
        · exact c4
      exact ⟨this, lw_g_good this⟩
    · exact good_self c5 w hw
  refine call_go (rest := st.map (sv b base)) (va_runV (As := av.map (sv b base)) (rest := st.map (sv b base)) ⟨x1, x2, x3, x5, x6⟩ (hM l d b base h h1 r e1) (cwV n x6 hG rfl rfl rfl c1 hR) ⟨blind, hrec, fun U hU hW => ⟨rfl, by rw [hU]; exact hH, KX.warm hW x7, by rw [hU]; exact Nat.le_trans x8 hS.1⟩⟩ rfl (by rw [List.length_map]; exact hn) (by show ls.size = nL; rw [hl.1, x3]) ?_ (lv_room (by rw [cat_map]; exact hst)) hd hroom) hS (fun H1 locs1 hH1 hS1 => ?_)
  · show (av.reverse ++ .ref (j + 1) :: st).map (sv b base) = _
    rw [List.map_append, List.map_reverse]
    rfl
  · have key := kk r h1 e2 H1 locs1 ls hH1 hS1 hl
    rw [List.map_append] at key
    have e9 : ((inj r).toList).map (sv b base) = (inj r).toList := by
      have := hs b base r
      cases hi : inj r with
      | none => rfl
      | some v => rw [hi] at this; simp at this; simp [this]
    rw [e9] at key
    exact key
theorem wm_callS {n : Nat} (hX : Cx X own cc nL rm) (hz : Zx X zz) (hM : Im zz y cc' nL' ret' rm' inj av f) (cal : CalS y cc' nL' ret' n) (hlink : Cond.methodLink own idx y ∈ lw_g) (hn : av.length = n) (hR : rm'.frames + 1 ≤ rm.frames ∧ 8 + (nL' + 11) + rm'.locals ≤ rm.locals) (hst : (st.map fun v => v.category).sum ≤ 8) (hroom : nc + rm'.cells ≤ rm.cells ∧ ns + rm'.slots ≤ rm.slots) (hd : decode cc pc = .ok (.invokestatic idx, 3))
    (hs : ∀ b base r, (inj r).map (sv b base) = inj r) (kk : ∀ r : β, WM X (pc + 3) lo ((inj r).toList ++ st) (nc + rm'.cells) (ns + rm'.slots) (k r)) : WM X pc lo (av.reverse ++ st) nc ns (bd f k) := by
  obtain ⟨p, l, e, R, s, m, args, below, meth, c, d, b, base, z, Q, r0, h0⟩ := X
  intro h hk H locs ls hH hS hl
  obtain ⟨r, h1, e1, e2⟩ := bd_some hk
  obtain ⟨x1, x2, x3, x4, x5, x6, x7, x8⟩ := id hX
  subst x4
  have hz : z = zz := hz
  subst hz
  obtain ⟨c1, c2, c4, c5⟩ := cal
  refine call_go (rest := st.map (sv b base)) (va_runS (As := av.map (sv b base)) (rest := st.map (sv b base)) ⟨x1, x2, x3, x5, x6⟩ (hM l d b base h h1 r e1) ⟨callB_of n x6 (good_self c5) rfl rfl rfl (x6 _ c4) (x6 _ hlink) c1 hR, x6 _ c2⟩ ⟨blind, fun U hU hW => ⟨rfl, by rw [hU]; exact hH, KX.warm hW x7, by rw [hU]; exact Nat.le_trans x8 hS.1⟩⟩ rfl (by rw [List.length_map]; exact hn) (by show ls.size = nL; rw [hl.1, x3]) ?_ (lv_room (by rw [cat_map]; exact hst)) hd hroom) hS (fun H1 locs1 hH1 hS1 => ?_)
  · show (av.reverse ++ st).map (sv b base) = _
    rw [List.map_append, List.map_reverse]
  · have key := kk r h1 e2 H1 locs1 ls hH1 hS1 hl
    rw [List.map_append] at key
    have e9 : ((inj r).toList).map (sv b base) = (inj r).toList := by
      have := hs b base r
      cases hi : inj r with
      | none => rfl
      | some v => rw [hi] at this; simp at this; simp [this]
    rw [e9] at key
    exact key
theorem wm_callSN {n : Nat} {host : String} (hX : Cx X own cc nL rm) (hz : Zx X zz) (hM : Im zz y cc' nL' ret' rm' inj av f) (cal : CalS y cc' nL' ret' n) (hlink : (own, idx, y, host) ∈ nestW) (hn : av.length = n) (hR : rm'.frames + 1 ≤ rm.frames ∧ 8 + (nL' + 11) + rm'.locals ≤ rm.locals) (hst : (st.map fun v => v.category).sum ≤ 8) (hroom : nc + rm'.cells ≤ rm.cells ∧ ns + rm'.slots ≤ rm.slots) (hd : decode cc pc = .ok (.invokestatic idx, 3))
    (hs : ∀ b base r, (inj r).map (sv b base) = inj r) (kk : ∀ r : β, WM X (pc + 3) lo ((inj r).toList ++ st) (nc + rm'.cells) (ns + rm'.slots) (k r)) : WM X pc lo (av.reverse ++ st) nc ns (bd f k) := by
  obtain ⟨p, l, e, R, s, m, args, below, meth, c, d, b, base, z, Q, r0, h0⟩ := X
  intro h hk H locs ls hH hS hl
  obtain ⟨r, h1, e1, e2⟩ := bd_some hk
  obtain ⟨x1, x2, x3, x4, x5, x6, x7, x8⟩ := id hX
  subst x4
  have hz : z = zz := hz
  subst hz
  obtain ⟨c1, c2, c4, c5⟩ := cal
  refine call_go (rest := st.map (sv b base)) (va_runSN (host := host) (As := av.map (sv b base)) (rest := st.map (sv b base)) ⟨x1, x2, x3, x5, x6⟩ (hM l d b base h h1 r e1) ⟨va_cnB n x6 (good_self c5) rfl rfl rfl (x7.2.2.2 _ hlink) (x6 _ c4) c1 hR, x6 _ c2, trivial⟩ ⟨blind, fun U hU hW => ⟨rfl, by rw [hU]; exact hH, KX.warm hW x7, by rw [hU]; exact Nat.le_trans x8 hS.1⟩⟩ rfl (by rw [List.length_map]; exact hn) (by show ls.size = nL; rw [hl.1, x3]) ?_ (lv_room (by rw [cat_map]; exact hst)) hd hroom) hS (fun H1 locs1 hH1 hS1 => ?_)
  · show (av.reverse ++ st).map (sv b base) = _
    rw [List.map_append, List.map_reverse]
  · have key := kk r h1 e2 H1 locs1 ls hH1 hS1 hl
    rw [List.map_append] at key
    have e9 : ((inj r).toList).map (sv b base) = (inj r).toList := by
      have := hs b base r
      cases hi : inj r with
      | none => rfl
      | some v => rw [hi] at this; simp at this; simp [this]
    rw [e9] at key
    exact key
theorem wm_callI {o n : Nat} {f : M Unit} {k : Unit → M α} (hX : Cx X own cc nL rm) (hz : Zx X zz) (hM : Im zz y cc' nL' none rm' (fun _ => none) (.ref o :: av) f) (cal : CalI y cc' nL' n) (hlink : Cond.methodLink own idx y ∈ lw_g) (hn : av.length = n) (ho : 0 < o) (hR : rm'.frames + 1 ≤ rm.frames ∧ 8 + (nL' + 11) + rm'.locals ≤ rm.locals) (hst : (st.map fun v => v.category).sum ≤ 8) (hroom : nc + rm'.cells ≤ rm.cells ∧ ns + rm'.slots ≤ rm.slots) (hd : decode cc pc = .ok (.invokespecial idx, 3))
    (kk : WM X (pc + 3) lo st (nc + rm'.cells) (ns + rm'.slots) (k ())) : WM X pc lo (av.reverse ++ .ref o :: st) nc ns (bd f k) := by
  obtain ⟨p, l, e, R, s, m, args, below, meth, c, d, b, base, z, Q, r0, h0⟩ := X
  intro h hk H locs ls hH hS hl
  obtain ⟨r, h1, e1, e2⟩ := bd_some hk
  obtain ⟨x1, x2, x3, x4, x5, x6, x7, x8⟩ := id hX
  subst x4
  have hz : z = zz := hz
  subst hz
  obtain ⟨c1, c2, c3, c4, c5⟩ := cal
  refine call_go (rest := st.map (sv b base)) (va_runI (b := sa b base o) (As := av.map (sv b base)) (rest := st.map (sv b base)) ⟨x1, x2, x3, x5, x6⟩ (hM l d b base h h1 r e1) ⟨callB_of n x6 (good_self c5) rfl rfl rfl (x6 _ c4) (x6 _ hlink) c1 hR, c2, x6 _ c3⟩ ⟨blind, fun U hU hW => ⟨rfl, by rw [hU]; exact hH, KX.warm hW x7, by rw [hU]; exact Nat.le_trans x8 hS.1⟩⟩ rfl (by rw [List.length_map]; exact hn) (by show ls.size = nL; rw [hl.1, x3]) ?_ (lv_room (by rw [cat_map]; exact hst)) hd hroom) hS (fun H1 locs1 hH1 hS1 => kk h1 e2 H1 locs1 ls hH1 hS1 hl)
  show (av.reverse ++ .ref o :: st).map (sv b base) = _
  rw [List.map_append, List.map_reverse]
  rfl
theorem wm_callIN {o n : Nat} {host : String} {f : M Unit} {k : Unit → M α} (hX : Cx X own cc nL rm) (hz : Zx X zz) (hM : Im zz y cc' nL' none rm' (fun _ => none) (.ref o :: av) f) (cal : CalI y cc' nL' n) (hlink : (own, idx, y, host) ∈ nestW) (hn : av.length = n) (ho : 0 < o) (hR : rm'.frames + 1 ≤ rm.frames ∧ 8 + (nL' + 11) + rm'.locals ≤ rm.locals) (hst : (st.map fun v => v.category).sum ≤ 8) (hroom : nc + rm'.cells ≤ rm.cells ∧ ns + rm'.slots ≤ rm.slots) (hd : decode cc pc = .ok (.invokespecial idx, 3))
    (kk : WM X (pc + 3) lo st (nc + rm'.cells) (ns + rm'.slots) (k ())) : WM X pc lo (av.reverse ++ .ref o :: st) nc ns (bd f k) := by
  obtain ⟨p, l, e, R, s, m, args, below, meth, c, d, b, base, z, Q, r0, h0⟩ := X
  intro h hk H locs ls hH hS hl
  obtain ⟨r, h1, e1, e2⟩ := bd_some hk
  obtain ⟨x1, x2, x3, x4, x5, x6, x7, x8⟩ := id hX
  subst x4
  have hz : z = zz := hz
  subst hz
  obtain ⟨c1, c2, c3, c4, c5⟩ := cal
  refine call_go (rest := st.map (sv b base)) (va_runIN (host := host) (b := sa b base o) (As := av.map (sv b base)) (rest := st.map (sv b base)) ⟨x1, x2, x3, x5, x6⟩ (hM l d b base h h1 r e1) ⟨va_cnB n x6 (good_self c5) rfl rfl rfl (x7.2.2.2 _ hlink) (x6 _ c4) c1 hR, c2, x6 _ c3⟩ ⟨blind, fun U hU hW => ⟨rfl, by rw [hU]; exact hH, KX.warm hW x7, by rw [hU]; exact Nat.le_trans x8 hS.1⟩⟩ rfl (by rw [List.length_map]; exact hn) (by show ls.size = nL; rw [hl.1, x3]) ?_ (lv_room (by rw [cat_map]; exact hst)) hd hroom) hS (fun H1 locs1 hH1 hS1 => kk h1 e2 H1 locs1 ls hH1 hS1 hl)
  show (av.reverse ++ .ref o :: st).map (sv b base) = _
  rw [List.map_append, List.map_reverse]
  rfl
/-- Object.<init> -/
theorem wm_obj {o : Nat} {k : M α} (hX : Cx X own cc nL rm) (hlink : Cond.methodLink own idx objectInit ∈ lw_g) (hi : Cond.instanceMethod objectInit ∈ lw_g) (hcode : Cond.code objectInit ⟨#[0xb1]⟩ 1 none ∈ lw_g) (hd : decode cc pc = .ok (.invokespecial idx, 3)) (hR : 1 ≤ rm.frames ∧ (st.map fun v => v.category).sum + 12 ≤ rm.locals) (kk : WM X (pc + 3) lo st nc ns k) : WM X pc lo (.ref o :: st) nc ns k := by
  obtain ⟨p, l, e, R, s, m, args, below, meth, c, d, b, base, z, Q, r0, h0⟩ := X
  intro h hk H locs ls hH hS hl
  obtain ⟨x1, x2, x3, x4, x5, x6, x7, x8⟩ := id hX
  subst x4
  refine W.objInit x1 x2 x5 (x6 _ hlink) (x6 _ hi) (x6 _ hcode) rfl hl.1 rfl hd hR.1 ?_ (kk h hk H locs ls hH hS hl)
  rw [cat_map]
  have : (F0 m pc ls ((Value.ref o :: st).map (sv b base))).monitorRoom = 0 := rfl
  rw [this]
  have := hR.2
  omega
theorem wm_iret {X : CX Int32} {v : Int32} (hX : Cx X own cc nL rm) (hr : Rt X (fun r => some (.int r)) (some .int) nc ns) (hd : decode cc pc = .ok (.ireturn, 1)) : WM X pc lo [.int v] nc ns (rt v) := by
  obtain ⟨p, l, e, R, s, m, args, below, meth, c, d, b, base, z, Q, r0, h0⟩ := X
  intro h hk H locs ls hH hS hl
  cases hk
  obtain ⟨g1, g2, g3⟩ := hr
  subst g1
  exact W.iret hX.1 hX.2.1 g2 (fun t ht hW => ⟨rfl, by rw [ht]; exact hH, hS.F ht⟩) hS.2.2 hd g3
theorem wm_zret {X : CX Int32} {v : Int32} (hX : Cx X own cc nL rm) (hr : Rt X (fun r => some (.int r)) (some .boolean) nc ns) (hd : decode cc pc = .ok (.ireturn, 1)) : WM X pc lo [.int v] nc ns (rz v) := by
  obtain ⟨p, l, e, R, s, m, args, below, meth, c, d, b, base, z, Q, r0, h0⟩ := X
  intro h hk H locs ls hH hS hl
  unfold rz at hk
  split at hk
  · next hv =>
    cases hk
    obtain ⟨g1, g2, g3⟩ := hr
    subst g1
    exact W.zret hX.1 hX.2.1 g2 (by rcases hv with rfl | rfl <;> decide) (fun t ht hW => ⟨rfl, by rw [ht]; exact hH, hS.F ht⟩) hS.2.2 hd g3
  · cases hk
theorem wm_lret {X : CX Int64} {v : Int64} (hX : Cx X own cc nL rm) (hr : Rt X (fun r => some (.long r)) (some .long) nc ns) (hd : decode cc pc = .ok (.lreturn, 1)) : WM X pc lo [.long v] nc ns (rt v) := by
  obtain ⟨p, l, e, R, s, m, args, below, meth, c, d, b, base, z, Q, r0, h0⟩ := X
  intro h hk H locs ls hH hS hl
  cases hk
  obtain ⟨g1, g2, g3⟩ := hr
  subst g1
  exact W.lret hX.1 hX.2.1 g2 (fun t ht hW => ⟨rfl, by rw [ht]; exact hH, hS.F ht⟩) hS.2.2 hd g3
theorem wm_vret {X : CX Unit} (hX : Cx X own cc nL rm) (hr : Rt X (fun _ => none) none nc ns) (hd : decode cc pc = .ok (.return_, 1)) : WM X pc lo [] nc ns (rt ()) := by
  obtain ⟨p, l, e, R, s, m, args, below, meth, c, d, b, base, z, Q, r0, h0⟩ := X
  intro h hk H locs ls hH hS hl
  cases hk
  obtain ⟨g1, g2, g3⟩ := hr
  subst g1
  exact W.vret hX.1 hX.2.1 g2 (fun t ht hW => ⟨rfl, by rw [ht]; exact hH, hS.F ht⟩) hS.2.2 hd g3
/-- more cells and slots than were made are counted -/
theorem wm_widen {k : M α} (nc' ns' : Nat) (h1 : nc ≤ nc') (h2 : ns ≤ ns') (kk : WM X pc lo st nc' ns' k) : WM X pc lo st nc ns k := by
  obtain ⟨p, l, e, R, s, m, args, below, meth, c, d, b, base, z, Q, r0, h0⟩ := X
  intro h hk H locs ls hH hS hl
  exact W.widen h1 h2 (kk h hk H locs ls hH hS hl)
theorem wm_newI {n : Int32} {k : Nat → M α} (N : Nat) (hX : Cx X own cc nL rm) (hz : Zx X true) (hw : Cond.arrayClass .int ∈ lw_g) (hd : decode cc pc = .ok (.newarray .int, 2)) (hn : ¬ n < 0) (hN : n.toNatClampNeg = N) (hB : N * 4 ≤ 536870912) (hroom : nc + 1 ≤ rm.cells ∧ ns + N ≤ rm.slots) (kk : ∀ q, 0 < q → WM X (pc + 2) lo (.ref q :: st) (nc + 1) (ns + N) (k q)) : WM X pc lo (.int n :: st) nc ns (bd (nw (.inl (0, N, .inl (fun _ => 0)))) k) := by
  obtain ⟨p, l, e, R, s, m, args, below, meth, c, d, b, base, z, Q, r0, h0⟩ := X
  intro h hk H locs ls hH hS hl
  obtain ⟨x1, x2, x3, x4, x5, x6, x7, x8⟩ := id hX
  subst x4
  have hz : z = true := hz
  have hsz := hH.1 hz
  refine va_newaK (atype := .int) x1 x2 (x6 _ hw) rfl hd rfl hn hN hB hroom.1 hroom.2 rfl (fun H' cA w1 w2 w3 w4 w5 => ?_)
  have hcA : cA = d.2.2 0 := Option.some.inj (w5.symm.trans (x7.1.2 0 _ rfl).2)
  subst hcA
  have key := kk (h.1 + 1) (Nat.succ_pos _) _ hk H' locs ls (hH.push hsz _ (by rw [w2]) w3 ?_) ⟨Nat.le_trans hS.1 (by omega), fun q h1 h2 => (w3 q (Nat.lt_of_lt_of_le h1 hS.1)).trans (hS.2.1 q h1 h2), hS.2.2⟩ hl
  · rw [hsz]
    exact key
  · show H'[base + h.1]? = some (arrV (d.2.2 0) N (fun _ => .int 0))
    rw [← hsz]
    exact w1
theorem wm_newL {n : Int32} {k : Nat → M α} (N : Nat) (hX : Cx X own cc nL rm) (hz : Zx X true) (hw : Cond.arrayClass .long ∈ lw_g) (hd : decode cc pc = .ok (.newarray .long, 2)) (hn : ¬ n < 0) (hN : n.toNatClampNeg = N) (hB : N * 8 ≤ 536870912) (hroom : nc + 1 ≤ rm.cells ∧ ns + N ≤ rm.slots) (kk : ∀ q, 0 < q → WM X (pc + 2) lo (.ref q :: st) (nc + 1) (ns + N) (k q)) : WM X pc lo (.int n :: st) nc ns (bd (nw (.inl (1, N, .inr (.inl (fun _ => 0))))) k) := by
  obtain ⟨p, l, e, R, s, m, args, below, meth, c, d, b, base, z, Q, r0, h0⟩ := X
  intro h hk H locs ls hH hS hl
  obtain ⟨x1, x2, x3, x4, x5, x6, x7, x8⟩ := id hX
  subst x4
  have hz : z = true := hz
  have hsz := hH.1 hz
  refine va_newaK (atype := .long) x1 x2 (x6 _ hw) rfl hd rfl hn hN hB hroom.1 hroom.2 rfl (fun H' cA w1 w2 w3 w4 w5 => ?_)
  have hcA : cA = d.2.2 1 := Option.some.inj (w5.symm.trans (x7.1.2 1 _ rfl).2)
  subst hcA
  have key := kk (h.1 + 1) (Nat.succ_pos _) _ hk H' locs ls (hH.push hsz _ (by rw [w2]) w3 ?_) ⟨Nat.le_trans hS.1 (by omega), fun q h1 h2 => (w3 q (Nat.lt_of_lt_of_le h1 hS.1)).trans (hS.2.1 q h1 h2), hS.2.2⟩ hl
  · rw [hsz]
    exact key
  · show H'[base + h.1]? = some (arrV (d.2.2 1) N (fun _ => .long 0))
    rw [← hsz]
    exact w1
theorem wm_newZ {n : Int32} {k : Nat → M α} (N : Nat) (hX : Cx X own cc nL rm) (hz : Zx X true) (hw : Cond.arrayClass .boolean ∈ lw_g) (hd : decode cc pc = .ok (.newarray .boolean, 2)) (hn : ¬ n < 0) (hN : n.toNatClampNeg = N) (hB : N * 1 ≤ 536870912) (hroom : nc + 1 ≤ rm.cells ∧ ns + N ≤ rm.slots) (kk : ∀ q, 0 < q → WM X (pc + 2) lo (.ref q :: st) (nc + 1) (ns + N) (k q)) : WM X pc lo (.int n :: st) nc ns (bd (nw (.inl (2, N, .inl (fun _ => 0)))) k) := by
  obtain ⟨p, l, e, R, s, m, args, below, meth, c, d, b, base, z, Q, r0, h0⟩ := X
  intro h hk H locs ls hH hS hl
  obtain ⟨x1, x2, x3, x4, x5, x6, x7, x8⟩ := id hX
  subst x4
  have hz : z = true := hz
  have hsz := hH.1 hz
  refine va_newaK (atype := .boolean) x1 x2 (x6 _ hw) rfl hd rfl hn hN hB hroom.1 hroom.2 rfl (fun H' cA w1 w2 w3 w4 w5 => ?_)
  have hcA : cA = d.2.2 2 := Option.some.inj (w5.symm.trans (x7.1.2 2 _ rfl).2)
  subst hcA
  have key := kk (h.1 + 1) (Nat.succ_pos _) _ hk H' locs ls (hH.push hsz _ (by rw [w2]) w3 ?_) ⟨Nat.le_trans hS.1 (by omega), fun q h1 h2 => (w3 q (Nat.lt_of_lt_of_le h1 hS.1)).trans (hS.2.1 q h1 h2), hS.2.2⟩ hl
  · rw [hsz]
    exact key
  · show H'[base + h.1]? = some (arrV (d.2.2 2) N (fun _ => .int 0))
    rw [← hsz]
    exact w1
/-- an array of Reels (3) or Twins (4) -/
theorem wm_newR {n : Int32} {t : Nat} {C : String} {k : Nat → M α} (ht : (t = 3 ∧ C = "OneBitLoop$Reel") ∨ (t = 4 ∧ C = "OneBitLoop$Twin")) (N : Nat) (hX : Cx X own cc nL rm) (hz : Zx X true) (hw : Cond.classLink own idx C ∈ lw_g) (hd : decode cc pc = .ok (.anewarray idx, 3)) (hn : ¬ n < 0) (hN : n.toNatClampNeg = N) (hB : N * 4 ≤ 536870912) (hroom : nc + 1 ≤ rm.cells ∧ ns + N ≤ rm.slots) (kk : ∀ q, 0 < q → WM X (pc + 3) lo (.ref q :: st) (nc + 1) (ns + N) (k q)) : WM X pc lo (.int n :: st) nc ns (bd (nw (.inl (t, N, .inr (.inr (.inr (.inr (fun _ => none))))))) k) := by
  obtain ⟨p, l, e, R, s, m, args, below, meth, c, d, b, base, z, Q, r0, h0⟩ := X
  intro h hk H locs ls hH hS hl
  obtain ⟨x1, x2, x3, x4, x5, x6, x7, x8⟩ := id hX
  subst x4
  have hz : z = true := hz
  have hsz := hH.1 hz
  subst hN
  have hover : va_AO C s := by
    rcases ht with ⟨rfl, rfl⟩ | ⟨rfl, rfl⟩
    · exact x7.2.1
    · exact x7.2.2.1
  refine W.anew x1 x2 x5 (x6 _ hw) (va_AO.use hover) rfl hd rfl hn hB hroom.1 hroom.2 (fun cA kA comp f1 f2 f3 f4 => ?_)
  have hcA : cA = d.2.2 t := by
    rcases ht with ⟨rfl, rfl⟩ | ⟨rfl, rfl⟩
    · obtain ⟨kA', comp', k1, k2, k3, k4⟩ := (x7.1.2 3 _ rfl).2
      exact Option.some.inj (f1.symm.trans k4)
    · obtain ⟨kA', comp', k1, k2, k3, k4⟩ := (x7.1.2 4 _ rfl).2
      exact Option.some.inj (f1.symm.trans k4)
  subst hcA
  generalize hH1 : H.push ({ cls := d.2.2 t, slots := Array.replicate n.toNatClampNeg .null, vm := .none } : Cell) = H1
  have w2 : H1.size = H.size + 1 := by rw [← hH1, Array.size_push]
  have w1 : H1[H.size]? = some (arrV (d.2.2 t) n.toNatClampNeg (fun _ => .null)) := by rw [← hH1, Array.getElem?_push_size, ← arrV_new]
  have w3 : ∀ q : Nat, q < H.size → H1[q]? = H[q]? := fun q hq => by rw [← hH1, Array.getElem?_push, if_neg (Nat.ne_of_lt hq)]
  have key := kk (h.1 + 1) (Nat.succ_pos _) _ hk H1 locs ls (hH.push hsz _ (by rw [w2]) w3 ?_) ⟨Nat.le_trans hS.1 (by omega), fun q h1 h2 => (w3 q (Nat.lt_of_lt_of_le h1 hS.1)).trans (hS.2.1 q h1 h2), hS.2.2⟩ hl
  · rw [hsz]
    exact key
  · show H1[base + h.1]? = some (arrV (d.2.2 t) n.toNatClampNeg (fun _ => .null))
    rw [← hsz]
    exact w1
theorem wm_new {ci : Nat} {C : String} {T : u_T} {N : Nat} {ty : Nat → FieldType} {k : Nat → M α} (hX : Cx X own cc nL rm) (hz : Zx X true) (hcf : CF ci C T N) (hty : ∀ k, k < N → parseFieldDescriptor (T k).2.2.1 = some (ty k)) (hl1 : Cond.classLink own idx C ∈ lw_g) (hl2 : Cond.instantiable C N ∈ lw_g) (hl3 : Cond.initialized C ∈ lw_g) (hd : decode cc pc = .ok (.new idx, 3)) (hroom : nc + 1 ≤ rm.cells ∧ ns + N ≤ rm.slots) (kk : ∀ q, 0 < q → WM X (pc + 3) lo (.ref q :: st) (nc + 1) (ns + N) (k q)) : WM X pc lo st nc ns (bd (nw (.inr (ci, fun j => defaultValue (ty j)))) k) := by
  obtain ⟨p, l, e, R, s, m, args, below, meth, c, d, b, base, z, Q, r0, h0⟩ := X
  intro h hk H locs ls hH hS hl
  obtain ⟨x1, x2, x3, x4, x5, x6, x7, x8⟩ := id hX
  subst x4
  have hz : z = true := hz
  have hsz := hH.1 hz
  obtain ⟨c1, c2, c3, c4⟩ := hcf
  have hKn := x7.1.1 ci _ c1
  refine W.newcK x1 x2 x5 (x6 _ hl1) (x6 _ hl2) (x6 _ hl3) rfl hd hroom.1 hroom.2 hKn.2.1 rfl (fun H1 kC hkC w1 w2 w3 => ?_)
  have key := kk (h.1 + 1) (Nat.succ_pos _) _ hk H1 locs ls (hH.push hsz _ (by rw [w2]) w3 ?_) ⟨Nat.le_trans hS.1 (by omega), fun q h1 h2 => (w3 q (Nat.lt_of_lt_of_le h1 hS.1)).trans (hS.2.1 q h1 h2), hS.2.2⟩ hl
  · rw [hsz]
    exact key
  · refine ⟨_, c1, ?_⟩
    show t_OB (base + h.1) _ _ _ _ _
    rw [← hsz]
    refine (u_born ty x6 c2 hKn hkC w1 hty).to (fun j hj => ?_)
    rw [vp_V_range _ (by rw [nF_eq c1]; exact hj)]
    show defaultValue (ty j) = sv b base (defaultValue (ty j))
    generalize ty j = t
    cases t <;> rfl
end RowsC
end
section
/-! The rest of the rows: division, copies, bits of floats, switches, the script. -/
def TW {α : Type} (X : CX α) (lo : List (Nat × Value)) (st : List Value) (nc ns : Nat) : List Nat → List (M α) → Prop
  | [], [] => True
  | t :: ts, k :: ks => WM X t lo st nc ns k ∧ TW X lo st nc ns ts ks
  | _, _ => False
theorem TW.get {α : Type} {X : CX α} {lo : List (Nat × Value)} {st : List Value} {nc ns : Nat} : ∀ {ts : List Nat} {ks : List (M α)}, TW X lo st nc ns ts ks → ts.length = ks.length ∧ ∀ (i : Nat) (k : M α), ks[i]? = some k → ∃ t, ts[i]? = some t ∧ WM X t lo st nc ns k
  | [], [], _ => ⟨rfl, fun i k h => by simp at h⟩
  | [], _ :: _, h => h.elim
  | _ :: _, [], h => h.elim
  | t :: ts, k :: ks, h => by
    obtain ⟨h1, h2⟩ := TW.get h.2
    refine ⟨by simp [h1], fun i k' hi => ?_⟩
    cases i with
    | zero => simp at hi; subst hi; exact ⟨t, rfl, h.1⟩
    | succ i => simp at hi; obtain ⟨t', a, b⟩ := h2 i k' hi; exact ⟨t', by simpa using a, b⟩
section RowsD
variable {α : Type} {X : CX α} {own : String} {cc : ByteArray} {nL : Nat} {rm : Room} {pc : Nat} {lo : List (Nat × Value)} {st : List Value} {nc ns : Nat} {idx : Nat}
theorem wm_ldv {x y : Int64} {k : Int64 → M α} (hX : Cx X own cc nL rm) (hd : decode cc pc = .ok (.ldiv, 1)) (kk : ∀ v : Int64, WM X (pc + 1) lo (.long v :: st) nc ns (k v)) : WM X pc lo (.long y :: .long x :: st) nc ns (bd (ldv x y) k) := by
  obtain ⟨p, l, e, R, s, m, args, below, meth, c, d, b, base, z, Q, r0, h0⟩ := X
  intro h hk H locs ls hH hS hl
  obtain ⟨v, h1, e1, e2⟩ := bd_some hk
  unfold ldv at e1
  split at e1
  · cases e1
  · next hy => cases e1; exact lv_ldiv hX.1 hX.2.1 hd hy (kk _ h e2 H locs ls hH hS hl)
theorem wm_lrm {x y : Int64} {k : Int64 → M α} (hX : Cx X own cc nL rm) (hd : decode cc pc = .ok (.lrem, 1)) (kk : ∀ v : Int64, WM X (pc + 1) lo (.long v :: st) nc ns (k v)) : WM X pc lo (.long y :: .long x :: st) nc ns (bd (lrm x y) k) := by
  obtain ⟨p, l, e, R, s, m, args, below, meth, c, d, b, base, z, Q, r0, h0⟩ := X
  intro h hk H locs ls hH hS hl
  obtain ⟨v, h1, e1, e2⟩ := bd_some hk
  unfold lrm at e1
  split at e1
  · cases e1
  · next hy => cases e1; exact lv_lrem hX.1 hX.2.1 hd hy (kk _ h e2 H locs ls hH hS hl)
/-- the words of a native that is linked -/
def NatW (own : String) (idx : Nat) (y : MethodName) : Prop := Cond.methodLink own idx y ∈ lw_g ∧ Cond.native y ∈ lw_g ∧ Cond.static y ∈ lw_g ∧ Cond.initialized y.cls ∈ lw_g
theorem wm_acp {o q : Nat} {i j n : Int32} {k : Unit → M α} (hX : Cx X own cc nL rm) (hz : Zx X false) (hw : NatW own idx arraycopyName) (hR : 1 ≤ rm.frames ∧ (st.map fun v => v.category).sum + (nativeFrameWords "java/lang/System" "arraycopy" 5 + 11) ≤ rm.locals) (hd : decode cc pc = .ok (.invokestatic idx, 3)) (kk : WM X (pc + 3) lo st nc ns (k ())) : WM X pc lo (.int n :: .int j :: .ref q :: .int i :: .ref o :: st) nc ns (bd (acp o i q j n) k) := by
  obtain ⟨p, l, e, R, s, m, args, below, meth, c, d, b, base, z, Q, r0, h0⟩ := X
  intro h hk H locs ls hH hS hl
  obtain ⟨⟨⟩, h1, e1, e2⟩ := bd_some hk
  obtain ⟨n0, f, n1, g, f1, f2, f3, f4, f5, f6, f7, f8⟩ := acp_some e1
  dsimp only at f8
  subst f8
  obtain ⟨x1, x2, x3, x4, x5, x6, x7, x8⟩ := id hX
  subst x4
  have hz : z = false := hz
  obtain ⟨j0, rfl, hj0, hc0⟩ := lk_some f1
  obtain ⟨j1, rfl, hj1, hc1⟩ := lk_some f2
  refine va_copyl x1 x2 hl.1.symm x5 (x6 _ hw.1) (x6 _ hw.2.1) (x6 _ hw.2.2.1) (x6 _ hw.2.2.2) x7.1 hH.2 tw_D hS j0 j1 1 1 (ty := .long) (f := f) (g := g) (by rw [tw_get hj0, hc0]; rfl) (by rw [tw_get hj1, hc1]; rfl) rfl rfl rfl f3 f4 f5 f6 f7 (fun _ _ => rfl) hR.1 (by rw [cat_map]; exact hR.2) hd (fun H1 locs1 hP1 hD1 hS1 => ?_)
  refine kk _ e2 H1 locs1 ls ⟨fun q => absurd (hz.symm.trans q) (by decide), ?_⟩ hS1 hl
  have e5 := tw_set (d := d) (b := b) (base := base) hj1 (.inl (1, n1, .inr (.inl (va_cpy f g i.toNatClampNeg j.toNatClampNeg n.toNatClampNeg))))
  rw [← e5]
  exact hP1
theorem wm_ibf {v : Int32} {k : UInt32 → M α} (hX : Cx X own cc nL rm) (hw : NatW own idx ⟨"java/lang/Float", "intBitsToFloat", "(I)F"⟩) (hR : 1 ≤ rm.frames ∧ (st.map fun v => v.category).sum + 15 ≤ rm.locals) (hd : decode cc pc = .ok (.invokestatic idx, 3)) (kk : ∀ r : UInt32, WM X (pc + 3) lo (.float r :: st) nc ns (k r)) : WM X pc lo (.int v :: st) nc ns (bd (ibf v) k) := by
  obtain ⟨p, l, e, R, s, m, args, below, meth, c, d, b, base, z, Q, r0, h0⟩ := X
  intro h hk H locs ls hH hS hl
  obtain ⟨r, h1, e1, e2⟩ := bd_some hk
  obtain ⟨x1, x2, x3, x4, x5, x6, x7, x8⟩ := id hX
  subst x4
  unfold ibf at e1
  split at e1
  · next hv => cases e1; exact vn_i2f x1 x2 hl.1.symm x5 (x6 _ hw.1) (x6 _ hw.2.1) (x6 _ hw.2.2.1) (x6 _ hw.2.2.2) hv hR.1 (by rw [cat_map]; exact hR.2) hd (kk _ h e2 H locs ls hH hS hl)
  · cases e1
theorem wm_lbd {v : Int64} {k : UInt64 → M α} (hX : Cx X own cc nL rm) (hw : NatW own idx ⟨"java/lang/Double", "longBitsToDouble", "(J)D"⟩) (hR : 1 ≤ rm.frames ∧ (st.map fun v => v.category).sum + 15 ≤ rm.locals) (hd : decode cc pc = .ok (.invokestatic idx, 3)) (kk : ∀ r : UInt64, WM X (pc + 3) lo (.double r :: st) nc ns (k r)) : WM X pc lo (.long v :: st) nc ns (bd (lbd v) k) := by
  obtain ⟨p, l, e, R, s, m, args, below, meth, c, d, b, base, z, Q, r0, h0⟩ := X
  intro h hk H locs ls hH hS hl
  obtain ⟨r, h1, e1, e2⟩ := bd_some hk
  obtain ⟨x1, x2, x3, x4, x5, x6, x7, x8⟩ := id hX
  subst x4
  unfold lbd at e1
  split at e1
  · next hv => cases e1; exact vn_l2d x1 x2 hl.1.symm x5 (x6 _ hw.1) (x6 _ hw.2.1) (x6 _ hw.2.2.1) (x6 _ hw.2.2.2) hv hR.1 (by rw [cat_map]; exact hR.2) hd (kk _ h e2 H locs ls hH hS hl)
  · cases e1
theorem wm_tsw {x : Int32} {dflt low hi : Int} {offs : Array Int} {len : Nat} {ks : List (M α)} {kd : M α} (ts : List Nat) (td : Nat) (hX : Cx X own cc nL rm) (hd : decode cc pc = .ok (.tableswitch dflt low hi offs, len)) (ho : offs.toList.map (fun o => (pc : Int) + o) = ts.map (fun (t : Nat) => (t : Int))) (hdf : (pc : Int) + dflt = (td : Int)) (hhi : hi = low + (ts.length : Int) - 1) (hk : TW X lo st nc ns ts ks) (hkd : WM X td lo st nc ns kd) : WM X pc lo (.int x :: st) nc ns (swt x.toInt low ks kd) := by
  obtain ⟨hlen, hget⟩ := hk.get
  by_cases h1 : x.toInt < low
  · have e1 : swt x.toInt low ks kd = kd := by unfold swt; rw [if_pos h1]
    rw [e1]
    obtain ⟨p, l, e, R, s, m, args, below, meth, c, d, b, base, z, Q, r0, h0⟩ := X
    intro h hk H locs ls hH hS hl
    exact lv_tableOut hX.1 hX.2.1 hd (Or.inl h1) hdf (hkd h hk H locs ls hH hS hl)
  · cases hg : ks[(x.toInt - low).toNat]? with
    | none =>
      have e1 : swt x.toInt low ks kd = kd := by unfold swt; rw [if_neg h1, hg]; rfl
      rw [e1]
      have hge : ks.length ≤ (x.toInt - low).toNat := by simpa using hg
      obtain ⟨p, l, e, R, s, m, args, below, meth, c, d, b, base, z, Q, r0, h0⟩ := X
      intro h hk H locs ls hH hS hl
      exact lv_tableOut hX.1 hX.2.1 hd (Or.inr (by omega)) hdf (hkd h hk H locs ls hH hS hl)
    | some k' =>
      have e1 : swt x.toInt low ks kd = k' := by unfold swt; rw [if_neg h1, hg]; rfl
      rw [e1]
      obtain ⟨t, ht, hwm⟩ := hget _ _ hg
      have hlt : (x.toInt - low).toNat < ks.length := (List.getElem?_eq_some_iff.mp hg).1
      have hoff : ∃ off, offs[(x.toInt - low).toNat]? = some off ∧ (pc : Int) + off = (t : Int) := by
        have h5 : (offs.toList.map (fun o => (pc : Int) + o))[(x.toInt - low).toNat]? = some (t : Int) := by
          rw [ho, List.getElem?_map, ht]; rfl
        rw [List.getElem?_map] at h5
        cases hq : offs.toList[(x.toInt - low).toNat]? with
        | none => rw [hq] at h5; cases h5
        | some off =>
          rw [hq] at h5
          exact ⟨off, by rw [← Array.getElem?_toList]; exact hq, Option.some.inj h5⟩
      obtain ⟨off, h6, h7⟩ := hoff
      obtain ⟨p, l, e, R, s, m, args, below, meth, c, d, b, base, z, Q, r0, h0⟩ := X
      intro h hk H locs ls hH hS hl
      exact lv_tableIn hX.1 hX.2.1 hd h1 (by omega) h6 h7 (hwm h hk H locs ls hH hS hl)
/-- the script is at hand -/
def Lx (X : CX α) (L : Nat) (xs : Nat → Int32) : Prop := match X with
  | (p, l, e, R, s, m, args, below, meth, c, d, b, base, z, Q, r0, h0) => va_X b L xs s s.heap ∧ b < base
theorem wm_sld {L : Nat} {xs : Nat → Int32} {i : Int32} {k : Int32 → M α} (hX : Cx X own cc nL rm) (hx : Lx X L xs) (hd : decode cc pc = .ok (.iaload, 1)) (kk : ∀ v : Int32, WM X (pc + 1) lo (.int v :: st) nc ns (k v)) : WM X pc lo (.int i :: .ref 0 :: st) nc ns (bd (sld L xs i) k) := by
  obtain ⟨p, l, e, R, s, m, args, below, meth, c, d, b, base, z, Q, r0, h0⟩ := X
  intro h hk H locs ls hH hS hl
  obtain ⟨r, h1, e1, e2⟩ := bd_some hk
  obtain ⟨x1, x2, x3, x4, x5, x6, x7, x8⟩ := id hX
  unfold sld at e1
  split at e1
  · cases e1
  · next hv => cases e1; exact va_sld x1 x2 hx.1 (Nat.lt_of_lt_of_le hx.2 x8) (Nat.not_le.mpr hx.2) hS hv hd (kk _ h e2 H locs ls hH hS hl)
theorem wm_slen {L : Nat} {xs : Nat → Int32} {k : M α} (hX : Cx X own cc nL rm) (hx : Lx X L xs) (hd : decode cc pc = .ok (.arraylength, 1)) (kk : WM X (pc + 1) lo (.int (Int32.ofNat L) :: st) nc ns k) : WM X pc lo (.ref 0 :: st) nc ns k := by
  obtain ⟨p, l, e, R, s, m, args, below, meth, c, d, b, base, z, Q, r0, h0⟩ := X
  intro h hk H locs ls hH hS hl
  obtain ⟨x1, x2, x3, x4, x5, x6, x7, x8⟩ := id hX
  exact va_slen x1 x2 hx.1 (Nat.lt_of_lt_of_le hx.2 x8) (Nat.not_le.mpr hx.2) hS hd (kk h hk H locs ls hH hS hl)
end RowsD
end
section
/-! Calls of methods that make no cells, by what they answer. -/
section RowsE
variable {α : Type} {X : CX α} {own : String} {cc cc' : ByteArray} {nL nL' : Nat} {rm rm' : Room} {pc : Nat} {lo : List (Nat × Value)} {st : List Value} {nc ns : Nat} {y : MethodName} {av : List Value} {idx : Nat} {zz : Bool} {ret' : Option FieldType}
abbrev injI : Int32 → Option Value := fun r => some (.int r)
abbrev injL : Int64 → Option Value := fun r => some (.long r)
abbrev injV : Unit → Option Value := fun _ => none
/-- what a call costs at a place: frames, words, no cells -/
def Fits (rm rm' : Room) (nL' nc ns : Nat) : Prop := (rm'.frames + 1 ≤ rm.frames ∧ 8 + (nL' + 11) + rm'.locals ≤ rm.locals) ∧ (rm'.cells = 0 ∧ rm'.slots = 0) ∧ nc ≤ rm.cells ∧ ns ≤ rm.slots
theorem Fits.r {rm rm' : Room} {nL' nc ns : Nat} (h : Fits rm rm' nL' nc ns) : nc + rm'.cells ≤ rm.cells ∧ ns + rm'.slots ≤ rm.slots := by
  obtain ⟨-, ⟨h1, h2⟩, h3⟩ := h
  rw [h1, h2]; exact h3
theorem wm_cVi {o ci n : Nat} {C : String} {T : u_T} {N : Nat} {f : M Int32} {k : Int32 → M α} (hX : Cx X own cc nL rm) (hz : Zx X zz) (hM : Im zz y cc' nL' ret' rm' injI (.ref o :: av) f) (hc : Ckd ci o f) (hci : vwCl[ci]? = some (C, T, N)) (cal : CalV y C cc' nL' ret' n) (hlink : Cond.methodLink own idx y ∈ lw_g) (hn : av.length = n) (hF : Fits rm rm' nL' nc ns) (hst : (st.map fun v => v.category).sum ≤ 8) (hd : decode cc pc = .ok (.invokevirtual idx, 3)) (kk : ∀ r : Int32, WM X (pc + 3) lo (.int r :: st) nc ns (k r)) : WM X pc lo (av.reverse ++ .ref o :: st) nc ns (bd f k) :=
  wm_callV hX hz hM hc hci cal hlink hn hF.1 hst hF.r hd (fun _ _ _ => rfl) (fun r => by rw [hF.2.1.1, hF.2.1.2]; exact kk r)
theorem wm_cVl {o ci n : Nat} {C : String} {T : u_T} {N : Nat} {f : M Int64} {k : Int64 → M α} (hX : Cx X own cc nL rm) (hz : Zx X zz) (hM : Im zz y cc' nL' ret' rm' injL (.ref o :: av) f) (hc : Ckd ci o f) (hci : vwCl[ci]? = some (C, T, N)) (cal : CalV y C cc' nL' ret' n) (hlink : Cond.methodLink own idx y ∈ lw_g) (hn : av.length = n) (hF : Fits rm rm' nL' nc ns) (hst : (st.map fun v => v.category).sum ≤ 8) (hd : decode cc pc = .ok (.invokevirtual idx, 3)) (kk : ∀ r : Int64, WM X (pc + 3) lo (.long r :: st) nc ns (k r)) : WM X pc lo (av.reverse ++ .ref o :: st) nc ns (bd f k) :=
  wm_callV hX hz hM hc hci cal hlink hn hF.1 hst hF.r hd (fun _ _ _ => rfl) (fun r => by rw [hF.2.1.1, hF.2.1.2]; exact kk r)
theorem wm_cVv {o ci n : Nat} {C : String} {T : u_T} {N : Nat} {f : M Unit} {k : Unit → M α} (hX : Cx X own cc nL rm) (hz : Zx X zz) (hM : Im zz y cc' nL' ret' rm' injV (.ref o :: av) f) (hc : Ckd ci o f) (hci : vwCl[ci]? = some (C, T, N)) (cal : CalV y C cc' nL' ret' n) (hlink : Cond.methodLink own idx y ∈ lw_g) (hn : av.length = n) (hF : Fits rm rm' nL' nc ns) (hst : (st.map fun v => v.category).sum ≤ 8) (hd : decode cc pc = .ok (.invokevirtual idx, 3)) (kk : WM X (pc + 3) lo st nc ns (k ())) : WM X pc lo (av.reverse ++ .ref o :: st) nc ns (bd f k) :=
  wm_callV hX hz hM hc hci cal hlink hn hF.1 hst hF.r hd (fun _ _ _ => rfl) (fun r => by rw [hF.2.1.1, hF.2.1.2]; exact kk)
theorem wm_cSi {n : Nat} {f : M Int32} {k : Int32 → M α} (hX : Cx X own cc nL rm) (hz : Zx X zz) (hM : Im zz y cc' nL' ret' rm' injI av f) (cal : CalS y cc' nL' ret' n) (hlink : Cond.methodLink own idx y ∈ lw_g) (hn : av.length = n) (hF : Fits rm rm' nL' nc ns) (hst : (st.map fun v => v.category).sum ≤ 8) (hd : decode cc pc = .ok (.invokestatic idx, 3)) (kk : ∀ r : Int32, WM X (pc + 3) lo (.int r :: st) nc ns (k r)) : WM X pc lo (av.reverse ++ st) nc ns (bd f k) :=
  wm_callS hX hz hM cal hlink hn hF.1 hst hF.r hd (fun _ _ _ => rfl) (fun r => by rw [hF.2.1.1, hF.2.1.2]; exact kk r)
theorem wm_cSl {n : Nat} {f : M Int64} {k : Int64 → M α} (hX : Cx X own cc nL rm) (hz : Zx X zz) (hM : Im zz y cc' nL' ret' rm' injL av f) (cal : CalS y cc' nL' ret' n) (hlink : Cond.methodLink own idx y ∈ lw_g) (hn : av.length = n) (hF : Fits rm rm' nL' nc ns) (hst : (st.map fun v => v.category).sum ≤ 8) (hd : decode cc pc = .ok (.invokestatic idx, 3)) (kk : ∀ r : Int64, WM X (pc + 3) lo (.long r :: st) nc ns (k r)) : WM X pc lo (av.reverse ++ st) nc ns (bd f k) :=
  wm_callS hX hz hM cal hlink hn hF.1 hst hF.r hd (fun _ _ _ => rfl) (fun r => by rw [hF.2.1.1, hF.2.1.2]; exact kk r)
theorem wm_cSv {n : Nat} {f : M Unit} {k : Unit → M α} (hX : Cx X own cc nL rm) (hz : Zx X zz) (hM : Im zz y cc' nL' ret' rm' injV av f) (cal : CalS y cc' nL' ret' n) (hlink : Cond.methodLink own idx y ∈ lw_g) (hn : av.length = n) (hF : Fits rm rm' nL' nc ns) (hst : (st.map fun v => v.category).sum ≤ 8) (hd : decode cc pc = .ok (.invokestatic idx, 3)) (kk : WM X (pc + 3) lo st nc ns (k ())) : WM X pc lo (av.reverse ++ st) nc ns (bd f k) :=
  wm_callS hX hz hM cal hlink hn hF.1 hst hF.r hd (fun _ _ _ => rfl) (fun r => by rw [hF.2.1.1, hF.2.1.2]; exact kk)
theorem wm_cNi {n : Nat} {host : String} {f : M Int32} {k : Int32 → M α} (hX : Cx X own cc nL rm) (hz : Zx X zz) (hM : Im zz y cc' nL' ret' rm' injI av f) (cal : CalS y cc' nL' ret' n) (hlink : (own, idx, y, host) ∈ nestW) (hn : av.length = n) (hF : Fits rm rm' nL' nc ns) (hst : (st.map fun v => v.category).sum ≤ 8) (hd : decode cc pc = .ok (.invokestatic idx, 3)) (kk : ∀ r : Int32, WM X (pc + 3) lo (.int r :: st) nc ns (k r)) : WM X pc lo (av.reverse ++ st) nc ns (bd f k) :=
  wm_callSN hX hz hM cal hlink hn hF.1 hst hF.r hd (fun _ _ _ => rfl) (fun r => by rw [hF.2.1.1, hF.2.1.2]; exact kk r)
theorem wm_cNl {n : Nat} {host : String} {f : M Int64} {k : Int64 → M α} (hX : Cx X own cc nL rm) (hz : Zx X zz) (hM : Im zz y cc' nL' ret' rm' injL av f) (cal : CalS y cc' nL' ret' n) (hlink : (own, idx, y, host) ∈ nestW) (hn : av.length = n) (hF : Fits rm rm' nL' nc ns) (hst : (st.map fun v => v.category).sum ≤ 8) (hd : decode cc pc = .ok (.invokestatic idx, 3)) (kk : ∀ r : Int64, WM X (pc + 3) lo (.long r :: st) nc ns (k r)) : WM X pc lo (av.reverse ++ st) nc ns (bd f k) :=
  wm_callSN hX hz hM cal hlink hn hF.1 hst hF.r hd (fun _ _ _ => rfl) (fun r => by rw [hF.2.1.1, hF.2.1.2]; exact kk r)
theorem wm_leti {a : Int32} {k : Int32 → M α} (kk : ∀ x, WM X pc lo (.int x :: st) nc ns (k x)) : WM X pc lo (.int a :: st) nc ns (lt_ a k) := kk a
theorem wm_letl {a : Int64} {k : Int64 → M α} (kk : ∀ x, WM X pc lo (.long x :: st) nc ns (k x)) : WM X pc lo (.long a :: st) nc ns (lt_ a k) := kk a
end RowsE
def FU : Nat := 100000
def mmax (x y : Int64) : Int64 := if y < x then x else y
def mmin (x y : Int64) : Int64 := if y < x then y else x
def mabs (x : Int64) : Int64 := if 0 ≤ x then x else -x
section RowsF
variable {α : Type} {X : CX α} {own : String} {cc : ByteArray} {nL : Nat} {rm : Room} {pc : Nat} {lo : List (Nat × Value)} {st : List Value} {nc ns : Nat} {idx : Nat} {k : M α}
theorem wm_mmax {x y : Int64} (hX : Cx X own cc nL rm) (h1 : Cond.methodLink own idx Lib.MathLoose.max_long.x ∈ lw_g) (h2 : Cond.static Lib.MathLoose.max_long.x ∈ lw_g) (h3 : Cond.initialized "java/lang/Math" ∈ lw_g) (h4 : Cond.code Lib.MathLoose.max_long.x Lib.MathLoose.max_long.code 4 (some .long) ∈ lw_g) (hR : 1 ≤ rm.frames ∧ (st.map fun v => v.category).sum + 15 ≤ rm.locals) (hC : nc ≤ rm.cells ∧ ns ≤ rm.slots) (hd : decode cc pc = .ok (.invokestatic idx, 3)) (kk : WM X (pc + 3) lo (.long (mmax x y) :: st) nc ns k) : WM X pc lo (.long y :: .long x :: st) nc ns k := by
  obtain ⟨p, l, e, R, s, m, args, below, meth, c, d, b, base, z, Q, r0, h0⟩ := X
  intro h hk H locs ls hH hS hl
  obtain ⟨x1, x2, x3, x4, x5, x6, x7, x8⟩ := id hX
  subst x4
  exact va_mmax_long x1 x2 hl.1.symm x5 (x6 _ h1) (x6 _ h2) (x6 _ h3) (x6 _ h4) hR.1 (by rw [cat_map]; exact hR.2) hC.1 hC.2 hd (kk h hk H locs ls hH hS hl)
theorem wm_mmin {x y : Int64} (hX : Cx X own cc nL rm) (h1 : Cond.methodLink own idx Lib.MathLoose.min_long.x ∈ lw_g) (h2 : Cond.static Lib.MathLoose.min_long.x ∈ lw_g) (h3 : Cond.initialized "java/lang/Math" ∈ lw_g) (h4 : Cond.code Lib.MathLoose.min_long.x Lib.MathLoose.min_long.code 4 (some .long) ∈ lw_g) (hR : 1 ≤ rm.frames ∧ (st.map fun v => v.category).sum + 15 ≤ rm.locals) (hC : nc ≤ rm.cells ∧ ns ≤ rm.slots) (hd : decode cc pc = .ok (.invokestatic idx, 3)) (kk : WM X (pc + 3) lo (.long (mmin x y) :: st) nc ns k) : WM X pc lo (.long y :: .long x :: st) nc ns k := by
  obtain ⟨p, l, e, R, s, m, args, below, meth, c, d, b, base, z, Q, r0, h0⟩ := X
  intro h hk H locs ls hH hS hl
  obtain ⟨x1, x2, x3, x4, x5, x6, x7, x8⟩ := id hX
  subst x4
  exact va_mmin_long x1 x2 hl.1.symm x5 (x6 _ h1) (x6 _ h2) (x6 _ h3) (x6 _ h4) hR.1 (by rw [cat_map]; exact hR.2) hC.1 hC.2 hd (kk h hk H locs ls hH hS hl)
theorem wm_mabs {x : Int64} (hX : Cx X own cc nL rm) (h1 : Cond.methodLink own idx Lib.MathLoose.abs_long.x ∈ lw_g) (h2 : Cond.static Lib.MathLoose.abs_long.x ∈ lw_g) (h3 : Cond.initialized "java/lang/Math" ∈ lw_g) (h4 : Cond.code Lib.MathLoose.abs_long.x Lib.MathLoose.abs_long.code 2 (some .long) ∈ lw_g) (hR : 1 ≤ rm.frames ∧ (st.map fun v => v.category).sum + 15 ≤ rm.locals) (hC : nc ≤ rm.cells ∧ ns ≤ rm.slots) (hd : decode cc pc = .ok (.invokestatic idx, 3)) (kk : WM X (pc + 3) lo (.long (mabs x) :: st) nc ns k) : WM X pc lo (.long x :: st) nc ns k := by
  obtain ⟨p, l, e, R, s, m, args, below, meth, c, d, b, base, z, Q, r0, h0⟩ := X
  intro h hk H locs ls hH hS hl
  obtain ⟨x1, x2, x3, x4, x5, x6, x7, x8⟩ := id hX
  subst x4
  exact va_mabs_long x1 x2 hl.1.symm x5 (x6 _ h1) (x6 _ h2) (x6 _ h3) (x6 _ h4) hR.1 (by rw [cat_map]; exact hR.2) hC.1 hC.2 hd (kk h hk H locs ls hH hS hl)
end RowsF
end
