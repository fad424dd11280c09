section
-- ===== PART A: goes FIRST, ahead of the names: the tables' words, and 'selects' of the private methods out of them =====
/-- a private method of a class that the tables say can be made, by its rows of tables_1 -/
def lw_okq (q : MethodName × Nat) : Prop := (q.1.cls ≠ "java/lang/invoke/MethodHandle" ∧ q.1.cls ≠ "java/lang/invoke/VarHandle") ∧ Cond.instantiable q.1.cls q.2 ∈ tables_1 ∧ Cond.privateMethod q.1 ∈ tables_1 ∧ Cond.instanceMethod q.1 ∈ tables_1
theorem lw_p0 : lw_okq (⟨"SerialLink$End", "forgetHeard", "()V"⟩, 8) := ⟨⟨by decide +kernel, by decide +kernel⟩, List.mem_of_getElem? (i := 142) (by decide +kernel), List.mem_of_getElem? (i := 354) (by decide +kernel), List.mem_of_getElem? (i := 355) (by decide +kernel)⟩
theorem lw_p1 : lw_okq (⟨"SerialLink", "feedNumber", "(I)V"⟩, 9) := ⟨⟨by decide +kernel, by decide +kernel⟩, List.mem_of_getElem? (i := 20) (by decide +kernel), List.mem_of_getElem? (i := 371) (by decide +kernel), List.mem_of_getElem? (i := 372) (by decide +kernel)⟩
theorem lw_p2 : lw_okq (⟨"SerialLink", "tickBoth", "()I"⟩, 9) := ⟨⟨by decide +kernel, by decide +kernel⟩, List.mem_of_getElem? (i := 20) (by decide +kernel), List.mem_of_getElem? (i := 412) (by decide +kernel), List.mem_of_getElem? (i := 413) (by decide +kernel)⟩
theorem lw_p3 : lw_okq (⟨"SerialLink$Sender", "layLateOnes", "()I"⟩, 13) := ⟨⟨by decide +kernel, by decide +kernel⟩, List.mem_of_getElem? (i := 165) (by decide +kernel), List.mem_of_getElem? (i := 428) (by decide +kernel), List.mem_of_getElem? (i := 429) (by decide +kernel)⟩
theorem lw_p4 : lw_okq (⟨"SerialLink$Sender", "layPiece", "(IZ)V"⟩, 13) := ⟨⟨by decide +kernel, by decide +kernel⟩, List.mem_of_getElem? (i := 165) (by decide +kernel), List.mem_of_getElem? (i := 432) (by decide +kernel), List.mem_of_getElem? (i := 433) (by decide +kernel)⟩
theorem lw_p5 : lw_okq (⟨"SerialLink$Lane", "slot", "(I)LSerialLink$Frame;"⟩, 5) := ⟨⟨by decide +kernel, by decide +kernel⟩, List.mem_of_getElem? (i := 67) (by decide +kernel), List.mem_of_getElem? (i := 455) (by decide +kernel), List.mem_of_getElem? (i := 456) (by decide +kernel)⟩
theorem lw_p6 : lw_okq (⟨"SerialLink$Sender", "layAllIfLate", "()I"⟩, 13) := ⟨⟨by decide +kernel, by decide +kernel⟩, List.mem_of_getElem? (i := 165) (by decide +kernel), List.mem_of_getElem? (i := 475) (by decide +kernel), List.mem_of_getElem? (i := 476) (by decide +kernel)⟩
theorem lw_p7 : lw_okq (⟨"SerialLink$Sender", "makePiece", "()V"⟩, 13) := ⟨⟨by decide +kernel, by decide +kernel⟩, List.mem_of_getElem? (i := 165) (by decide +kernel), List.mem_of_getElem? (i := 479) (by decide +kernel), List.mem_of_getElem? (i := 480) (by decide +kernel)⟩
theorem lw_p8 : lw_okq (⟨"SerialLink", "laneAt", "(I)LSerialLink$Lane;"⟩, 9) := ⟨⟨by decide +kernel, by decide +kernel⟩, List.mem_of_getElem? (i := 20) (by decide +kernel), List.mem_of_getElem? (i := 488) (by decide +kernel), List.mem_of_getElem? (i := 489) (by decide +kernel)⟩
theorem lw_p9 : lw_okq (⟨"java/lang/Throwable", "fillInStackTrace", "(I)Ljava/lang/Throwable;"⟩, 6) := ⟨⟨by decide +kernel, by decide +kernel⟩, List.mem_of_getElem? (i := 528) (by decide +kernel), List.mem_of_getElem? (i := 526) (by decide +kernel), List.mem_of_getElem? (i := 527) (by decide +kernel)⟩
theorem lw_p10 : lw_okq (⟨"SerialLink", "hearerOf", "(I)LSerialLink$End;"⟩, 9) := ⟨⟨by decide +kernel, by decide +kernel⟩, List.mem_of_getElem? (i := 20) (by decide +kernel), List.mem_of_getElem? (i := 561) (by decide +kernel), List.mem_of_getElem? (i := 562) (by decide +kernel)⟩
theorem lw_p11 : lw_okq (⟨"SerialLink$End", "endBody", "(Z)V"⟩, 8) := ⟨⟨by decide +kernel, by decide +kernel⟩, List.mem_of_getElem? (i := 142) (by decide +kernel), List.mem_of_getElem? (i := 574) (by decide +kernel), List.mem_of_getElem? (i := 575) (by decide +kernel)⟩
theorem lw_p12 : lw_okq (⟨"SerialLink$End", "kindOfWrong", "()I"⟩, 8) := ⟨⟨by decide +kernel, by decide +kernel⟩, List.mem_of_getElem? (i := 142) (by decide +kernel), List.mem_of_getElem? (i := 578) (by decide +kernel), List.mem_of_getElem? (i := 579) (by decide +kernel)⟩
theorem lw_p13 : lw_okq (⟨"SerialLink$Inspector", "found", "(II)Z"⟩, 2) := ⟨⟨by decide +kernel, by decide +kernel⟩, List.mem_of_getElem? (i := 150) (by decide +kernel), List.mem_of_getElem? (i := 588) (by decide +kernel), List.mem_of_getElem? (i := 589) (by decide +kernel)⟩
theorem lw_p14 : lw_okq (⟨"SerialLink$End", "checkHolds", "()Z"⟩, 8) := ⟨⟨by decide +kernel, by decide +kernel⟩, List.mem_of_getElem? (i := 142) (by decide +kernel), List.mem_of_getElem? (i := 595) (by decide +kernel), List.mem_of_getElem? (i := 596) (by decide +kernel)⟩
theorem lw_p15 : lw_okq (⟨"SerialLink$End", "headHolds", "()Z"⟩, 8) := ⟨⟨by decide +kernel, by decide +kernel⟩, List.mem_of_getElem? (i := 142) (by decide +kernel), List.mem_of_getElem? (i := 601) (by decide +kernel), List.mem_of_getElem? (i := 602) (by decide +kernel)⟩
def lw_privs_1 : List (MethodName × Nat) := [(⟨"SerialLink$End", "forgetHeard", "()V"⟩, 8), (⟨"SerialLink", "feedNumber", "(I)V"⟩, 9), (⟨"SerialLink", "tickBoth", "()I"⟩, 9), (⟨"SerialLink$Sender", "layLateOnes", "()I"⟩, 13), (⟨"SerialLink$Sender", "layPiece", "(IZ)V"⟩, 13), (⟨"SerialLink$Lane", "slot", "(I)LSerialLink$Frame;"⟩, 5), (⟨"SerialLink$Sender", "layAllIfLate", "()I"⟩, 13), (⟨"SerialLink$Sender", "makePiece", "()V"⟩, 13), (⟨"SerialLink", "laneAt", "(I)LSerialLink$Lane;"⟩, 9), (⟨"java/lang/Throwable", "fillInStackTrace", "(I)Ljava/lang/Throwable;"⟩, 6), (⟨"SerialLink", "hearerOf", "(I)LSerialLink$End;"⟩, 9), (⟨"SerialLink$End", "endBody", "(Z)V"⟩, 8), (⟨"SerialLink$End", "kindOfWrong", "()I"⟩, 8), (⟨"SerialLink$Inspector", "found", "(II)Z"⟩, 2), (⟨"SerialLink$End", "checkHolds", "()Z"⟩, 8), (⟨"SerialLink$End", "headHolds", "()Z"⟩, 8)]
theorem lw_r1 : ∀ q ∈ lw_privs_1, lw_okq q := List.forall_mem_cons.mpr ⟨lw_p0, List.forall_mem_cons.mpr ⟨lw_p1, List.forall_mem_cons.mpr ⟨lw_p2, List.forall_mem_cons.mpr ⟨lw_p3, List.forall_mem_cons.mpr ⟨lw_p4, List.forall_mem_cons.mpr ⟨lw_p5, List.forall_mem_cons.mpr ⟨lw_p6, List.forall_mem_cons.mpr ⟨lw_p7, List.forall_mem_cons.mpr ⟨lw_p8, List.forall_mem_cons.mpr ⟨lw_p9, List.forall_mem_cons.mpr ⟨lw_p10, List.forall_mem_cons.mpr ⟨lw_p11, List.forall_mem_cons.mpr ⟨lw_p12, List.forall_mem_cons.mpr ⟨lw_p13, List.forall_mem_cons.mpr ⟨lw_p14, List.forall_mem_cons.mpr ⟨lw_p15, fun _ h => absurd h List.not_mem_nil⟩⟩⟩⟩⟩⟩⟩⟩⟩⟩⟩⟩⟩⟩⟩⟩
theorem lw_p16 : lw_okq (⟨"SerialLink$End", "loadOfBody", "()I"⟩, 8) := ⟨⟨by decide +kernel, by decide +kernel⟩, List.mem_of_getElem? (i := 142) (by decide +kernel), List.mem_of_getElem? (i := 605) (by decide +kernel), List.mem_of_getElem? (i := 606) (by decide +kernel)⟩
theorem lw_p17 : lw_okq (⟨"SerialLink$Sender", "keepKnown", "(LSerialLink$Row;)V"⟩, 13) := ⟨⟨by decide +kernel, by decide +kernel⟩, List.mem_of_getElem? (i := 165) (by decide +kernel), List.mem_of_getElem? (i := 620) (by decide +kernel), List.mem_of_getElem? (i := 621) (by decide +kernel)⟩
theorem lw_p18 : lw_okq (⟨"SerialLink$Receiver", "hold", "(ILSerialLink$Row;I)V"⟩, 7) := ⟨⟨by decide +kernel, by decide +kernel⟩, List.mem_of_getElem? (i := 219) (by decide +kernel), List.mem_of_getElem? (i := 631) (by decide +kernel), List.mem_of_getElem? (i := 632) (by decide +kernel)⟩
theorem lw_p19 : lw_okq (⟨"SerialLink$Receiver", "takeHeld", "()V"⟩, 7) := ⟨⟨by decide +kernel, by decide +kernel⟩, List.mem_of_getElem? (i := 219) (by decide +kernel), List.mem_of_getElem? (i := 638) (by decide +kernel), List.mem_of_getElem? (i := 639) (by decide +kernel)⟩
theorem lw_p20 : lw_okq (⟨"SerialLink$Receiver", "heldBits", "(I)I"⟩, 7) := ⟨⟨by decide +kernel, by decide +kernel⟩, List.mem_of_getElem? (i := 219) (by decide +kernel), List.mem_of_getElem? (i := 650) (by decide +kernel), List.mem_of_getElem? (i := 651) (by decide +kernel)⟩
theorem lw_p21 : lw_okq (⟨"SerialLink", "endAt", "(I)LSerialLink$End;"⟩, 9) := ⟨⟨by decide +kernel, by decide +kernel⟩, List.mem_of_getElem? (i := 20) (by decide +kernel), List.mem_of_getElem? (i := 700) (by decide +kernel), List.mem_of_getElem? (i := 701) (by decide +kernel)⟩
theorem lw_p22 : lw_okq (⟨"SerialLinkModel", "first", "()V"⟩, 44) := ⟨⟨by decide +kernel, by decide +kernel⟩, List.mem_of_getElem? (i := 765) (by decide +kernel), List.mem_of_getElem? (i := 772) (by decide +kernel), List.mem_of_getElem? (i := 773) (by decide +kernel)⟩
theorem lw_p23 : lw_okq (⟨"SerialLinkModel", "checkOf", "([BII)I"⟩, 44) := ⟨⟨by decide +kernel, by decide +kernel⟩, List.mem_of_getElem? (i := 765) (by decide +kernel), List.mem_of_getElem? (i := 929) (by decide +kernel), List.mem_of_getElem? (i := 930) (by decide +kernel)⟩
theorem lw_p24 : lw_okq (⟨"SerialLinkModel", "unstuffed", "([BI[B)I"⟩, 44) := ⟨⟨by decide +kernel, by decide +kernel⟩, List.mem_of_getElem? (i := 765) (by decide +kernel), List.mem_of_getElem? (i := 944) (by decide +kernel), List.mem_of_getElem? (i := 945) (by decide +kernel)⟩
theorem lw_p25 : lw_okq (⟨"SerialLinkModel", "faulty", "(II)I"⟩, 44) := ⟨⟨by decide +kernel, by decide +kernel⟩, List.mem_of_getElem? (i := 765) (by decide +kernel), List.mem_of_getElem? (i := 948) (by decide +kernel), List.mem_of_getElem? (i := 949) (by decide +kernel)⟩
theorem lw_p26 : lw_okq (⟨"SerialLinkModel", "isOut", "(I)Z"⟩, 44) := ⟨⟨by decide +kernel, by decide +kernel⟩, List.mem_of_getElem? (i := 765) (by decide +kernel), List.mem_of_getElem? (i := 968) (by decide +kernel), List.mem_of_getElem? (i := 969) (by decide +kernel)⟩
theorem lw_p27 : lw_okq (⟨"SerialLinkModel", "ticks", "()I"⟩, 44) := ⟨⟨by decide +kernel, by decide +kernel⟩, List.mem_of_getElem? (i := 765) (by decide +kernel), List.mem_of_getElem? (i := 976) (by decide +kernel), List.mem_of_getElem? (i := 977) (by decide +kernel)⟩
theorem lw_p28 : lw_okq (⟨"SerialLinkModel", "tickOf", "(I)V"⟩, 44) := ⟨⟨by decide +kernel, by decide +kernel⟩, List.mem_of_getElem? (i := 765) (by decide +kernel), List.mem_of_getElem? (i := 980) (by decide +kernel), List.mem_of_getElem? (i := 981) (by decide +kernel)⟩
theorem lw_p29 : lw_okq (⟨"SerialLinkModel", "layPiece", "(IIZ)V"⟩, 44) := ⟨⟨by decide +kernel, by decide +kernel⟩, List.mem_of_getElem? (i := 765) (by decide +kernel), List.mem_of_getElem? (i := 984) (by decide +kernel), List.mem_of_getElem? (i := 985) (by decide +kernel)⟩
theorem lw_p30 : lw_okq (⟨"SerialLinkModel", "lay", "(IIZ)V"⟩, 44) := ⟨⟨by decide +kernel, by decide +kernel⟩, List.mem_of_getElem? (i := 765) (by decide +kernel), List.mem_of_getElem? (i := 988) (by decide +kernel), List.mem_of_getElem? (i := 989) (by decide +kernel)⟩
theorem lw_p31 : lw_okq (⟨"SerialLinkModel", "leaves", "(IZ)I"⟩, 44) := ⟨⟨by decide +kernel, by decide +kernel⟩, List.mem_of_getElem? (i := 765) (by decide +kernel), List.mem_of_getElem? (i := 996) (by decide +kernel), List.mem_of_getElem? (i := 997) (by decide +kernel)⟩
def lw_privs_2 : List (MethodName × Nat) := [(⟨"SerialLink$End", "loadOfBody", "()I"⟩, 8), (⟨"SerialLink$Sender", "keepKnown", "(LSerialLink$Row;)V"⟩, 13), (⟨"SerialLink$Receiver", "hold", "(ILSerialLink$Row;I)V"⟩, 7), (⟨"SerialLink$Receiver", "takeHeld", "()V"⟩, 7), (⟨"SerialLink$Receiver", "heldBits", "(I)I"⟩, 7), (⟨"SerialLink", "endAt", "(I)LSerialLink$End;"⟩, 9), (⟨"SerialLinkModel", "first", "()V"⟩, 44), (⟨"SerialLinkModel", "checkOf", "([BII)I"⟩, 44), (⟨"SerialLinkModel", "unstuffed", "([BI[B)I"⟩, 44), (⟨"SerialLinkModel", "faulty", "(II)I"⟩, 44), (⟨"SerialLinkModel", "isOut", "(I)Z"⟩, 44), (⟨"SerialLinkModel", "ticks", "()I"⟩, 44), (⟨"SerialLinkModel", "tickOf", "(I)V"⟩, 44), (⟨"SerialLinkModel", "layPiece", "(IIZ)V"⟩, 44), (⟨"SerialLinkModel", "lay", "(IIZ)V"⟩, 44), (⟨"SerialLinkModel", "leaves", "(IZ)I"⟩, 44)]
theorem lw_r2 : ∀ q ∈ lw_privs_2, lw_okq q := List.forall_mem_cons.mpr ⟨lw_p16, List.forall_mem_cons.mpr ⟨lw_p17, List.forall_mem_cons.mpr ⟨lw_p18, List.forall_mem_cons.mpr ⟨lw_p19, List.forall_mem_cons.mpr ⟨lw_p20, List.forall_mem_cons.mpr ⟨lw_p21, List.forall_mem_cons.mpr ⟨lw_p22, List.forall_mem_cons.mpr ⟨lw_p23, List.forall_mem_cons.mpr ⟨lw_p24, List.forall_mem_cons.mpr ⟨lw_p25, List.forall_mem_cons.mpr ⟨lw_p26, List.forall_mem_cons.mpr ⟨lw_p27, List.forall_mem_cons.mpr ⟨lw_p28, List.forall_mem_cons.mpr ⟨lw_p29, List.forall_mem_cons.mpr ⟨lw_p30, List.forall_mem_cons.mpr ⟨lw_p31, fun _ h => absurd h List.not_mem_nil⟩⟩⟩⟩⟩⟩⟩⟩⟩⟩⟩⟩⟩⟩⟩⟩
theorem lw_p32 : lw_okq (⟨"SerialLinkModel", "hears", "(IIZ)V"⟩, 44) := ⟨⟨by decide +kernel, by decide +kernel⟩, List.mem_of_getElem? (i := 765) (by decide +kernel), List.mem_of_getElem? (i := 1000) (by decide +kernel), List.mem_of_getElem? (i := 1001) (by decide +kernel)⟩
theorem lw_p33 : lw_okq (⟨"SerialLinkModel", "wrong", "(I)V"⟩, 44) := ⟨⟨by decide +kernel, by decide +kernel⟩, List.mem_of_getElem? (i := 765) (by decide +kernel), List.mem_of_getElem? (i := 1004) (by decide +kernel), List.mem_of_getElem? (i := 1005) (by decide +kernel)⟩
theorem lw_p34 : lw_okq (⟨"SerialLinkModel", "isRight", "(I)Z"⟩, 44) := ⟨⟨by decide +kernel, by decide +kernel⟩, List.mem_of_getElem? (i := 765) (by decide +kernel), List.mem_of_getElem? (i := 1008) (by decide +kernel), List.mem_of_getElem? (i := 1009) (by decide +kernel)⟩
theorem lw_p35 : lw_okq (⟨"SerialLinkModel", "takes", "(II)V"⟩, 44) := ⟨⟨by decide +kernel, by decide +kernel⟩, List.mem_of_getElem? (i := 765) (by decide +kernel), List.mem_of_getElem? (i := 1012) (by decide +kernel), List.mem_of_getElem? (i := 1013) (by decide +kernel)⟩
theorem lw_p36 : lw_okq (⟨"SerialLinkModel", "knownBytes", "()I"⟩, 44) := ⟨⟨by decide +kernel, by decide +kernel⟩, List.mem_of_getElem? (i := 765) (by decide +kernel), List.mem_of_getElem? (i := 1016) (by decide +kernel), List.mem_of_getElem? (i := 1017) (by decide +kernel)⟩
theorem lw_p37 : lw_okq (⟨"SerialLinkModel", "known", "(III)V"⟩, 44) := ⟨⟨by decide +kernel, by decide +kernel⟩, List.mem_of_getElem? (i := 765) (by decide +kernel), List.mem_of_getElem? (i := 1020) (by decide +kernel), List.mem_of_getElem? (i := 1021) (by decide +kernel)⟩
theorem lw_p38 : lw_okq (⟨"SerialLinkModel", "inOrder", "(III)V"⟩, 44) := ⟨⟨by decide +kernel, by decide +kernel⟩, List.mem_of_getElem? (i := 765) (by decide +kernel), List.mem_of_getElem? (i := 1024) (by decide +kernel), List.mem_of_getElem? (i := 1025) (by decide +kernel)⟩
theorem lw_p39 : lw_okq (⟨"SerialLinkModel", "getsAll", "(I[BII)Z"⟩, 44) := ⟨⟨by decide +kernel, by decide +kernel⟩, List.mem_of_getElem? (i := 765) (by decide +kernel), List.mem_of_getElem? (i := 1028) (by decide +kernel), List.mem_of_getElem? (i := 1029) (by decide +kernel)⟩
theorem lw_p40 : lw_okq (⟨"SerialLinkModel", "layKnown", "(I)V"⟩, 44) := ⟨⟨by decide +kernel, by decide +kernel⟩, List.mem_of_getElem? (i := 765) (by decide +kernel), List.mem_of_getElem? (i := 1032) (by decide +kernel), List.mem_of_getElem? (i := 1033) (by decide +kernel)⟩
theorem lw_p41 : lw_okq (⟨"SerialLinkModel", "byItself", "(III)V"⟩, 44) := ⟨⟨by decide +kernel, by decide +kernel⟩, List.mem_of_getElem? (i := 765) (by decide +kernel), List.mem_of_getElem? (i := 1036) (by decide +kernel), List.mem_of_getElem? (i := 1037) (by decide +kernel)⟩
theorem lw_p42 : lw_okq (⟨"SerialLinkModel", "moves", "(IIII)V"⟩, 44) := ⟨⟨by decide +kernel, by decide +kernel⟩, List.mem_of_getElem? (i := 765) (by decide +kernel), List.mem_of_getElem? (i := 1040) (by decide +kernel), List.mem_of_getElem? (i := 1041) (by decide +kernel)⟩
theorem lw_p43 : lw_okq (⟨"SerialLinkModel", "frameAt", "(II)I"⟩, 44) := ⟨⟨by decide +kernel, by decide +kernel⟩, List.mem_of_getElem? (i := 765) (by decide +kernel), List.mem_of_getElem? (i := 1056) (by decide +kernel), List.mem_of_getElem? (i := 1057) (by decide +kernel)⟩
def lw_privs_3 : List (MethodName × Nat) := [(⟨"SerialLinkModel", "hears", "(IIZ)V"⟩, 44), (⟨"SerialLinkModel", "wrong", "(I)V"⟩, 44), (⟨"SerialLinkModel", "isRight", "(I)Z"⟩, 44), (⟨"SerialLinkModel", "takes", "(II)V"⟩, 44), (⟨"SerialLinkModel", "knownBytes", "()I"⟩, 44), (⟨"SerialLinkModel", "known", "(III)V"⟩, 44), (⟨"SerialLinkModel", "inOrder", "(III)V"⟩, 44), (⟨"SerialLinkModel", "getsAll", "(I[BII)Z"⟩, 44), (⟨"SerialLinkModel", "layKnown", "(I)V"⟩, 44), (⟨"SerialLinkModel", "byItself", "(III)V"⟩, 44), (⟨"SerialLinkModel", "moves", "(IIII)V"⟩, 44), (⟨"SerialLinkModel", "frameAt", "(II)I"⟩, 44)]
theorem lw_r3 : ∀ q ∈ lw_privs_3, lw_okq q := List.forall_mem_cons.mpr ⟨lw_p32, List.forall_mem_cons.mpr ⟨lw_p33, List.forall_mem_cons.mpr ⟨lw_p34, List.forall_mem_cons.mpr ⟨lw_p35, List.forall_mem_cons.mpr ⟨lw_p36, List.forall_mem_cons.mpr ⟨lw_p37, List.forall_mem_cons.mpr ⟨lw_p38, List.forall_mem_cons.mpr ⟨lw_p39, List.forall_mem_cons.mpr ⟨lw_p40, List.forall_mem_cons.mpr ⟨lw_p41, List.forall_mem_cons.mpr ⟨lw_p42, List.forall_mem_cons.mpr ⟨lw_p43, fun _ h => absurd h List.not_mem_nil⟩⟩⟩⟩⟩⟩⟩⟩⟩⟩⟩⟩
def lw_privs : List (MethodName × Nat) := lw_privs_1 ++ (lw_privs_2 ++ (lw_privs_3))
def lw_tbl : List Cond := k2_sels lw_privs ++ tables_1
theorem lw_privs_ok : ∀ q ∈ lw_privs, lw_okq q := by
  show ∀ q ∈ lw_privs_1 ++ (lw_privs_2 ++ (lw_privs_3)), lw_okq q
  exact List.forall_mem_append.mpr ⟨lw_r1, List.forall_mem_append.mpr ⟨lw_r2, lw_r3⟩⟩
/-! ===== BEGIN words of one list among another's, by their places ===== -/
theorem goodIn_r {big : List Cond} (ws : List Cond) (ps : List Nat) (hp : ws = ps.filterMap (fun i => big[i]?)) (h : ws.all goodWord = true) : GoodIn big ws := by
  intro w hw
  have h1 := List.all_eq_true.mp h w hw
  rw [hp] at hw
  obtain ⟨i, -, hi⟩ := List.mem_filterMap.mp hw
  have hm : w ∈ big := by first | exact List.mem_of_getElem? hi | exact List.getElem?_mem hi
  exact ⟨hm, good_of_word h1⟩
theorem goodIn_app {big a b : List Cond} (ha : GoodIn big a) (hb : GoodIn big b) : GoodIn big (a ++ b) := fun w h => (List.mem_append.mp h).elim (ha w) (hb w)
theorem goodIn_ca {big a b : List Cond} {c : Cond} (ha : GoodIn big (c :: a)) (hb : GoodIn big b) : GoodIn big (c :: (a ++ b)) := fun w h => (List.mem_cons.mp h).elim (fun e => ha w (List.mem_cons.mpr (Or.inl e))) (fun h => (List.mem_append.mp h).elim (fun h => ha w (List.mem_cons.mpr (Or.inr h))) (hb w))
theorem goodIn_sub {big ws : List Cond} (hm : ∀ w ∈ ws, w ∈ big) (h : ws.all goodWord = true) : GoodIn big ws := fun w hw => ⟨hm w hw, good_of_word (List.all_eq_true.mp h w hw)⟩
/-! ===== END ===== -/

/-! ===== BEGIN exceptions that leave a method, and their catching by the caller (launches without stack traces) ===== -/
section VXA
/-! The laws vx_back, vx_callV, vx_callS, vx_callSW, vx_throw0, vx_throwS follow proofs of the library, with one case more: JvmDerived/Free/Laws.lean (Back.of_free), Shelf42/LK1.lean (callV, callS), Shelf/KitTraced.lean (throwNew0V, throwNewS). -/
/-- where a method has thrown q: the class by its name, the cell, what was written, the world -/
def vx_T (XC : String → State → State → Prop) (st : State) (q : Addr) (t : State) (mc ms : Nat) (free : Addr → Prop) : Prop :=
  ∃ (E : String) (ce : Cell) (L : List Loc), XC E st t ∧ t.heap[q]? = some ce ∧ ce.vm = .none ∧ st.vm.findClass E = some ce.cls ∧ st.WarmedH t.vm ∧ st.sameButNew ({ t with vm := st.vm } : State) L mc ms ∧ ∀ z ∈ L, free z.base
def vx_Q (Qc : Array Value → State → Outcome → State → Prop) (XC : String → State → State → Prop) (mc ms : Nat) (free : Addr → Prop) : Array Value → State → Outcome → State → Prop := fun a st o t =>
  (Qc a st o t ∧ ∃ L, FrameEnd st o t L mc ms ∧ ∀ q ∈ L, free q.base) ∨ ∃ q, o = .threw q ∧ vx_T XC st q t mc ms free
/-- a callee that returns or throws -/
def vx_Met (l : Launch) (y : MethodName) (ws : List Cond) (rm : Room) (Pc : Array Value → State → Prop) (Qc : Array Value → State → Outcome → State → Prop) (XC : String → State → State → Prop) (mc ms : Nat) (free : Addr → Prop) : Prop :=
  MetFree l y (headSpec ws rm) Pc (fun _ _ _ _ _ => True) (vx_Q Qc XC mc ms free)
def vx_Post (XC : String → State → State → Prop) (mc ms : Nat) (free : Addr → Prop) : Pt → Array Value → Addr → Pt → Prop := fun A a q B =>
  ∃ (g : JFrame) (mk : MethodId) (t : State) (L : List Loc) (E : String) (ce : Cell), B.U.heap = t.heap ∧ B.U.vm = t.vm ∧ XC E (A.U.calling g mk a) t ∧ t.heap[q]? = some ce ∧ ce.vm = .none ∧ A.U.vm.findClass E = some ce.cls ∧ B.locs = A.locs ++ L ∧ (∀ z ∈ L, free z.base) ∧ B.cells = A.cells + mc ∧ B.slots = A.slots + ms
def vx_Back (l : Launch) (R : Room) (p : Program) (e : Env) (below : List Frame) (s : State) (sargs : Array Value) (y : MethodName) (len W9 : Nat)
    (Pre : Pt → Array Value → Prop) (Post : Pt → Array Value → Option Value → Pt → Prop) (PostX : Pt → Array Value → Addr → Pt → Prop) : Prop :=
  ∀ (m : MethodId) (meth : Method) (c : Code) (A : Pt) (g : JFrame) (ig : Instr) (mk : MethodId) (a : Array Value),
    Stand p l e R s m sargs below meth c A.U A.locs A.cells A.slots → g.method = m → g.locals.size = c.maxLocals → decode c.code g.pc = .ok (ig, len) →
    2 * g.monitorRoom + (g.stack.map fun v => v.category).sum ≤ W9 → A.U.methodNamed? y = some mk → Pre A a →
    (∃ (v : Option Value) (B : Pt), Stand p l e R s m sargs below meth c B.U B.locs B.cells B.slots ∧ Post A a v B ∧
      Steps p.tables e below (doInvoke e (A.U.setTop g) [] mk a).1 (B.U.setTop { g with pc := g.pc + len, stack := v.toList ++ g.stack })) ∨
    (∃ (q : Addr) (B : Pt), Stand p l e R s m sargs below meth c B.U B.locs B.cells B.slots ∧ PostX A a q B ∧
      Steps p.tables e below (doInvoke e (A.U.setTop g) [] mk a).1 ((B.U.setTop g).pushFrame (.throwing q)))
section Payer
variable {l : Launch} {R : Room} {p : Program} {e : Env} {below : List Frame} {s : State} {sargs : Array Value} {y : MethodName} {len W9 : Nat}
theorem vx_back {ws : List Cond} {rm : Room} {Pc : Array Value → State → Prop} {Qc : Array Value → State → Outcome → State → Prop} {XC : String → State → State → Prop} {mc ms : Nat} {free : Addr → Prop} {bytes : ByteArray} {maxL : Nat} {ret : Option FieldType}
    (hM : vx_Met l y ws rm Pc Qc XC mc ms free) (hblind : FrameBlind Pc) (hrc : rm.cells = mc) (hrs : rm.slots = ms)
    (hframes : rm.frames + 1 ≤ R.frames) (hlocals : W9 + (maxL + 11) + rm.locals ≤ R.locals)
    (hws : ∀ w ∈ ws, ∀ a' U, s.WarmedH U.vm → w.before a' U = true) (hcode : Cond.code y bytes maxL ret ∈ ws) (hinit : ∀ a' U, s.WarmedH U.vm → (Cond.initialized y.cls).before a' U = true) :
    vx_Back l R p e below s sargs y len W9 (PreOf R mc ms Pc) (PostOf Qc mc ms free) (vx_Post XC mc ms free) := by
  intro m meth c A g ig mk a X hg hsize hdg hW hn hp
  have h1 : (headSpec ws rm).pre.before a A.U = true := atoms_intro fun w hw => hws w hw _ _ X.warmed
  have h2 : (Cond.code y bytes maxL ret).before a A.U = true := hws _ hcode _ _ X.warmed
  have h3 : (Cond.initialized y.cls).before a A.U = true := hinit _ _ X.warmed
  have h4 : A.cells + (headSpec ws rm).room.cells ≤ R.cells := by rw [show (headSpec ws rm).room.cells = mc from hrc]; exact hp.1
  have h5 : A.slots + (headSpec ws rm).room.slots ≤ R.slots := by rw [show (headSpec ws rm).room.slots = ms from hrs]; exact hp.2.1
  have hPc : Pc a (A.U.calling g mk a) := hblind _ _ _ _ hp.2.2
  obtain ⟨U, Ls, c0, s0⟩ := A
  dsimp only [Pt.U, Pt.locs, Pt.cells, Pt.slots] at h1 h2 h3 h4 h5 X hn hPc ⊢
  obtain ⟨methY, cY, hmY, hcY, -, hlY, -, -, -, -⟩ := Cond.code_spec hn h2
  obtain ⟨kY, hkY, -⟩ := className_of_methodNamed hn
  have hinitY : kY.init = .initialized := Cond.initialized_spec (findClass_of_methodNamed hn) hkY h3
  have h : At U g.method c below := by rw [hg]; exact X.here
  have hlocals9 : W9 + (maxL + 11) + (headSpec ws rm).room.locals ≤ R.locals := hlocals
  have happ : (headSpec ws rm).appliesLoose y e.platform (U.calling g mk a) = true :=
    Spec.appliesLoose_calling (g := g) h hdg hn hkY hinitY
      (X.room_calling (g := g) (R' := (headSpec ws rm).room) hsize hmY hcY hframes (by rw [hlY]; omega) h4 h5) h1
  obtain ⟨mid, hmid⟩ := h.above
  have hfr : (U.setTop g).frames = (.java g :: mid) ++ below := by rw [State.frames_setTop' g h.top, hmid]; rfl
  obtain ⟨o, s₂, hsteps, -, hend, hq⟩ := Steps.callFree hM p X.admits X.cas X.clock (acts := []) hfr happ hPc trivial
  have hq' : vx_Q Qc XC mc ms free a (U.calling g mk a) o s₂ := hq
  rw [State.frames_setTop' g h.top] at hend
  obtain ⟨g₀, hg0⟩ := Option.isSome_iff_exists.mp h.top
  obtain ⟨r, hr⟩ := State.topJava?_eq_some.mp hg0
  have hr' : (({ U with heap := s₂.heap, slotsUsed := s₂.slotsUsed } : State).setVm s₂.vm).frames = .java g₀ :: r := hr
  rcases hq' with ⟨hqc, L, hfe, hL⟩ | ⟨q, rfl, E, ce, L, hx, hce, hcv, hcl, hW₂, hsm, hL⟩
  · obtain ⟨⟨v, rfl⟩, hW₂, e2, q2, q3, q4, q5, q6⟩ := id hfe
    have e3 : s₂ = ({ (U.calling g mk a).setFrames s₂.frames with heap := s₂.heap, slotsUsed := s₂.slotsUsed } : State).setVm s₂.vm := by
      have : s₂ = ({ s₂ with vm := (U.calling g mk a).vm } : State).setVm s₂.vm := rfl
      rw [e2] at this
      exact this
    obtain ⟨c₂, i₂, len₂, hc₂, hd₂, hf₂⟩ := hend
    have hW' : U.WarmedH s₂.vm := hW₂
    have hcc : c₂ = c := by
      have h1 : s₂.code? g.method = U.code? g.method := by
        rw [State.code?_eq, State.code?_eq, hW'.alike.method?]
      exact Option.some.inj (hc₂.symm.trans (h1.trans h.code))
    subst hcc
    have hlen : len₂ = len := by rw [hdg] at hd₂; cases hd₂; rfl
    subst hlen
    have hs₂ : s₂ = (({ U with heap := s₂.heap, slotsUsed := s₂.slotsUsed } : State).setVm s₂.vm).setTop { g with pc := g.pc + len₂, stack := v.toList ++ g.stack } := by
      refine e3.trans ?_
      rw [hf₂, State.calling_eq h.top, State.setFrames_setFrames, State.setTop_of_frames _ hr', hr]
      rfl
    have hsame : U.sameButNew ({ U with heap := s₂.heap, slotsUsed := s₂.slotsUsed } : State) L mc ms := by
      refine ⟨?_, q2, q3, q4, q5, q6⟩
      obtain ⟨t, ht, -⟩ := State.frames_cons hr
      show ({ U with heap := s₂.heap, slotsUsed := s₂.slotsUsed } : State) = { U.setFrames U.frames with heap := s₂.heap, slotsUsed := s₂.slotsUsed }
      rw [State.setFrames_self ht]
    subst hg
    refine Or.inl ⟨v, ⟨(({ U with heap := s₂.heap, slotsUsed := s₂.slotsUsed } : State).setVm s₂.vm), Ls ++ L, c0 + mc, s0 + ms⟩,
      ⟨X.admits, X.cas, X.clock, X.frames, X.room, X.hears, X.method, X.code, (X.here.setHeapUsed s₂.heap s₂.slotsUsed).setVm hW'.alike, X.tail, State.WarmedH.trans X.warmed hW', X.limits, X.bytes, X.same.trans (hsame.setVm s.vm)⟩,
      ⟨g, mk, s₂, L, rfl, rfl, hqc, rfl, hL, rfl, rfl⟩, ?_⟩
    show Steps p.tables e below _ ((({ U with heap := s₂.heap, slotsUsed := s₂.slotsUsed } : State).setVm s₂.vm).setTop { g with pc := g.pc + len₂, stack := v.toList ++ g.stack })
    rw [← hs₂]
    exact hsteps
  · obtain ⟨e2, q2, q3, q4, q5, q6⟩ := id hsm
    have e3 : s₂ = ({ (U.calling g mk a).setFrames s₂.frames with heap := s₂.heap, slotsUsed := s₂.slotsUsed } : State).setVm s₂.vm := by
      have : s₂ = ({ s₂ with vm := (U.calling g mk a).vm } : State).setVm s₂.vm := rfl
      rw [e2] at this
      exact this
    have hf₂ : s₂.frames = .throwing q :: .java g :: U.frames.tail := hend
    have hW' : U.WarmedH s₂.vm := hW₂
    have hs₂ : s₂ = ((({ U with heap := s₂.heap, slotsUsed := s₂.slotsUsed } : State).setVm s₂.vm).setTop g).pushFrame (.throwing q) := by
      refine e3.trans ?_
      rw [hf₂, State.calling_eq h.top, State.setFrames_setFrames, State.pushFrame, State.frames_setTop _ hr', State.setTop_of_frames _ hr', State.setFrames_setFrames, hr]
      rfl
    have hsame : U.sameButNew ({ U with heap := s₂.heap, slotsUsed := s₂.slotsUsed } : State) L mc ms := by
      refine ⟨?_, q2, q3, q4, q5, q6⟩
      obtain ⟨t, ht, -⟩ := State.frames_cons hr
      show ({ U with heap := s₂.heap, slotsUsed := s₂.slotsUsed } : State) = { U.setFrames U.frames with heap := s₂.heap, slotsUsed := s₂.slotsUsed }
      rw [State.setFrames_self ht]
    subst hg
    refine Or.inr ⟨q, ⟨(({ U with heap := s₂.heap, slotsUsed := s₂.slotsUsed } : State).setVm s₂.vm), Ls ++ L, c0 + mc, s0 + ms⟩,
      ⟨X.admits, X.cas, X.clock, X.frames, X.room, X.hears, X.method, X.code, (X.here.setHeapUsed s₂.heap s₂.slotsUsed).setVm hW'.alike, X.tail, State.WarmedH.trans X.warmed hW', X.limits, X.bytes, X.same.trans (hsame.setVm s.vm)⟩,
      ⟨g, mk, s₂, L, E, ce, rfl, rfl, hx, hce, hcv, hcl, rfl, hL, rfl, rfl⟩, ?_⟩
    show Steps p.tables e below _ (((({ U with heap := s₂.heap, slotsUsed := s₂.slotsUsed } : State).setVm s₂.vm).setTop g).pushFrame (.throwing q))
    rw [← hs₂]
    exact hsteps
end Payer
section Calls
variable {p : Program} {l : Launch} {e : Env} {R : Room} {s : State} {m : MethodId} {args : Array Value} {below : List Frame} {meth : Method} {c : Code} {T : State} {locs : List Loc} {cells slots : Nat}
theorem vx_callV (X : Stand p l e R s m args below meth c T locs cells slots) (hexec : p.tables.exec = Jvm.exec) {own C : String} {index : Nat} {y : MethodName} {bytes : ByteArray} {maxL : Nat} {ret : Option FieldType}
    (hown : s.vm.findClass own = some m.cls) (hlink : (Cond.methodLink own index y).before args s = true) (hinst : (Cond.instanceMethod y).before args s = true) (hsel : (Cond.selects C y y).before args s = true)
    (hcode : (Cond.code y bytes maxL ret).before args s = true) (hy : y.cls ≠ "java/lang/invoke/MethodHandle" ∧ y.cls ≠ "java/lang/invoke/VarHandle")
    {W9 : Nat} {Pre : Pt → Array Value → Prop} {Post : Pt → Array Value → Option Value → Pt → Prop} {PostX : Pt → Array Value → Addr → Pt → Prop} (hK : vx_Back l R p e below s args y 3 W9 Pre Post PostX)
    {b : Addr} {cellB : Cell} (hcell : T.heap[b]? = some cellB) (hobj : cellB.vm.isStatics = false) (hcls : s.vm.findClass C = some cellB.cls)
    {g : JFrame} (hg : g.method = m) (hsize : g.locals.size = c.maxLocals) {argsL rest : List Value} (hlen : ∀ sig, parseMethodDescriptor y.desc = some sig → argsL.length = sig.parameters.length)
    (hstack : g.stack = argsL.reverse ++ .ref b :: rest) (hW : 2 * g.monitorRoom + (rest.map fun v => v.category).sum ≤ W9) (hdg : decode c.code g.pc = .ok (.invokevirtual index, 3))
    (hpre : ∀ vm₁, s.WarmedH vm₁ → Pre ⟨T.setVm vm₁, locs, cells, slots⟩ (Value.ref b :: argsL).toArray) :
    (∃ (v : Option Value) (vm₁ : Vm) (B : Pt), s.WarmedH vm₁ ∧ Stand p l e R s m args below meth c B.U B.locs B.cells B.slots ∧ Post ⟨T.setVm vm₁, locs, cells, slots⟩ (Value.ref b :: argsL).toArray v B ∧
      ∀ target, Steps p.tables e below (B.U.setTop { g with pc := g.pc + 3, stack := v.toList ++ rest }) target → Steps p.tables e below (T.setTop g) target) ∨
    (∃ (q : Addr) (vm₁ : Vm) (B : Pt), s.WarmedH vm₁ ∧ Stand p l e R s m args below meth c B.U B.locs B.cells B.slots ∧ PostX ⟨T.setVm vm₁, locs, cells, slots⟩ (Value.ref b :: argsL).toArray q B ∧
      Steps p.tables e below (T.setTop g) ((B.U.setTop { g with stack := rest }).pushFrame (.throwing q))) := by
  obtain ⟨mk, methM, hnamed, hmethM, hstM, habM⟩ := Cond.instanceMethod_spec hinst
  obtain ⟨methM', cM, hmethM', -, -, -, -, -, -, hsigM⟩ := Cond.code_spec hnamed hcode
  cases hmethM.symm.trans hmethM'
  obtain ⟨c2, r2, m2, q1, q2, q3, q4, kP, hkP, hkPi⟩ := Cond.selects_spec hsel
  cases hcls.symm.trans q1
  cases (State.methodFound?_of_named hnamed hy).symm.trans q2
  cases hnamed.symm.trans q3
  have hselP : selectMethod e.platform s.vm cellB.cls mk = .method mk := by rw [Launch.admits_selectMethod X.admits]; exact q4
  obtain ⟨vm₁, X₁, hstep₁⟩ := X.invokevirtual hexec hown hlink hnamed hmethM hstM hkP hkPi hy (a := b) (cell := cellB) hcell
    (fun z h => by rw [h] at hobj; cases hobj) hselP hmethM habM hkP hkPi (g := g) hg (argsL := argsL) (rest := rest) (hlen _ hsigM) hstack hdg
  rcases hK m meth c ⟨T.setVm vm₁, locs, cells, slots⟩ { g with stack := rest } (.invokevirtual index) mk (Value.ref b :: argsL).toArray X₁ hg hsize hdg hW (X₁.named hnamed) (hpre vm₁ X₁.warmed) with ⟨v, B, X', hpost, hsteps⟩ | ⟨q, B, X', hpost, hsteps⟩
  · exact Or.inl ⟨v, vm₁, B, X₁.warmed, X', hpost, fun target h => hstep₁ _ fun acts => by rw [doInvoke_state]; exact hsteps.trans h⟩
  · exact Or.inr ⟨q, vm₁, B, X₁.warmed, X', hpost, hstep₁ _ fun acts => by rw [doInvoke_state]; exact hsteps⟩
theorem vx_callS (X : Stand p l e R s m args below meth c T locs cells slots) (hexec : p.tables.exec = Jvm.exec) {own : String} {index : Nat} {y : MethodName} {bytes : ByteArray} {maxL : Nat} {ret : Option FieldType}
    (hown : s.vm.findClass own = some m.cls) (hlink : (Cond.methodLink own index y).before args s = true) (hstat : (Cond.static y).before args s = true) (hinit : (Cond.initialized y.cls).before args s = true)
    (hcode : (Cond.code y bytes maxL ret).before args s = true) (hy : y.cls ≠ "java/lang/invoke/MethodHandle" ∧ y.cls ≠ "java/lang/invoke/VarHandle")
    {W9 : Nat} {Pre : Pt → Array Value → Prop} {Post : Pt → Array Value → Option Value → Pt → Prop} {PostX : Pt → Array Value → Addr → Pt → Prop} (hK : vx_Back l R p e below s args y 3 W9 Pre Post PostX)
    {g : JFrame} (hg : g.method = m) (hsize : g.locals.size = c.maxLocals) {argsL rest : List Value} (hlen : ∀ sig, parseMethodDescriptor y.desc = some sig → argsL.length = sig.parameters.length)
    (hstack : g.stack = argsL.reverse ++ rest) (hW : 2 * g.monitorRoom + (rest.map fun v => v.category).sum ≤ W9) (hdg : decode c.code g.pc = .ok (.invokestatic index, 3))
    (hpre : ∀ vm₁, s.WarmedH vm₁ → Pre ⟨T.setVm vm₁, locs, cells, slots⟩ argsL.toArray) :
    (∃ (v : Option Value) (vm₁ : Vm) (B : Pt), s.WarmedH vm₁ ∧ Stand p l e R s m args below meth c B.U B.locs B.cells B.slots ∧ Post ⟨T.setVm vm₁, locs, cells, slots⟩ argsL.toArray v B ∧
      ∀ target, Steps p.tables e below (B.U.setTop { g with pc := g.pc + 3, stack := v.toList ++ rest }) target → Steps p.tables e below (T.setTop g) target) ∨
    (∃ (q : Addr) (vm₁ : Vm) (B : Pt), s.WarmedH vm₁ ∧ Stand p l e R s m args below meth c B.U B.locs B.cells B.slots ∧ PostX ⟨T.setVm vm₁, locs, cells, slots⟩ argsL.toArray q B ∧
      Steps p.tables e below (T.setTop g) ((B.U.setTop { g with stack := rest }).pushFrame (.throwing q))) := by
  obtain ⟨mk, hnamed⟩ := Cond.code_named hcode
  obtain ⟨methM, cM, hmethM, -, -, -, -, -, -, hsigM⟩ := Cond.code_spec hnamed hcode
  have hstatic : methM.isStatic = true := Cond.static_spec hnamed hmethM hstat
  obtain ⟨kP, hkP, -⟩ := className_of_methodNamed hnamed
  have hinitP : kP.init = .initialized := Cond.initialized_spec (findClass_of_methodNamed hnamed) hkP hinit
  obtain ⟨vm₁, X₁, hstep₁⟩ := X.invokestatic hexec hown hlink hnamed hmethM hstatic hkP hinitP hy (g := g) hg (argsL := argsL) (rest := rest) (hlen _ hsigM) hstack hdg
  rcases hK m meth c ⟨T.setVm vm₁, locs, cells, slots⟩ { g with stack := rest } (.invokestatic index) mk argsL.toArray X₁ hg hsize hdg hW (X₁.named hnamed) (hpre vm₁ X₁.warmed) with ⟨v, B, X', hpost, hsteps⟩ | ⟨q, B, X', hpost, hsteps⟩
  · exact Or.inl ⟨v, vm₁, B, X₁.warmed, X', hpost, fun target h => hstep₁ _ fun acts => by rw [doInvoke_state]; exact hsteps.trans h⟩
  · exact Or.inr ⟨q, vm₁, B, X₁.warmed, X', hpost, hstep₁ _ fun acts => by rw [doInvoke_state]; exact hsteps⟩
end Calls
theorem vx_cls {s : State} {T : State} {vm₁ : Vm} {E : String} {k : ClassId} (hW : s.WarmedH vm₁) (h : (T.setVm vm₁).vm.findClass E = some k) : s.vm.findClass E = some k := by
  have h1 : vm₁.findClass E = some k := h
  rw [hW.alike.findClass] at h1
  exact h1
/-- the method's frame g, with q thrown over it -/
def vx_W (p : Program) (l : Launch) (e : Env) (R : Room) (s : State) (m : MethodId) (args : Array Value) (below : List Frame) (meth : Method) (c : Code) (H : Heap) (locs : List Loc) (cells slots : Nat) (Q : State → Prop) (g : JFrame) (q : Addr) : Prop :=
  ∀ T : State, T.heap = H → Stand p l e R s m args below meth c T locs cells slots → ∃ t, Steps p.tables e below ((T.setTop g).pushFrame (.throwing q)) t ∧ Q t
def vx_Run (p : Program) (l : Launch) (e : Env) (R : Room) (s : State) (m : MethodId) (args : Array Value) (below : List Frame) (meth : Method) (c : Code) (H : Heap) (locs : List Loc) (cells slots mc ms : Nat) (g : JFrame) (rest : List Value) (Qa : State → Outcome → State → Prop) (XC : String → State → State → Prop) (free : Addr → Prop) : Prop :=
  ∀ T : State, T.heap = H → Stand p l e R s m args below meth c T locs cells slots →
    (∃ (v : Option Value) (st₀ t T' : State) (L : List Loc), st₀.heap = H ∧ Stand p l e R s m args below meth c T' (locs ++ L) (cells + mc) (slots + ms) ∧ (∀ q ∈ L, free q.base) ∧ T'.heap = t.heap ∧ T'.vm = t.vm ∧ Qa st₀ (.returned v) t ∧
      Goes p e below T g T' { g with pc := g.pc + 3, stack := v.toList ++ rest }) ∨
    (∃ (q : Addr) (st₀ t T' : State) (L : List Loc) (E : String) (ce : Cell), st₀.heap = H ∧ Stand p l e R s m args below meth c T' (locs ++ L) (cells + mc) (slots + ms) ∧ (∀ z ∈ L, free z.base) ∧ T'.heap = t.heap ∧ T'.vm = t.vm ∧ XC E st₀ t ∧ t.heap[q]? = some ce ∧ ce.vm = .none ∧ s.vm.findClass E = some ce.cls ∧
      Steps p.tables e below (T.setTop g) ((T'.setTop { g with stack := rest }).pushFrame (.throwing q)))
def vx_X {S : Type} (px : S → Prop) (B : String → S → State → Prop) (A : Nat → Prop) : String → State → State → Prop := fun E st t => ∃ u : S, px u ∧ B E u t ∧ va_F A st t
section Runs
variable {p : Program} {l : Launch} {e : Env} {R : Room} {s : State} {m : MethodId} {args : Array Value} {below : List Frame} {meth : Method} {c : Code} {H : Heap} {locs : List Loc} {cells slots : Nat}
variable {y : MethodName} {bytes cc : ByteArray} {maxL nL mc ms n index : Nat} {ret : Option FieldType} {ws : List Cond} {rm : Room} {Pc : Array Value → State → Prop} {Qc : Array Value → State → Outcome → State → Prop} {XC : String → State → State → Prop} {free : Addr → Prop} {Ts : List Cond} {own C : String} {b : Addr} {As rest : List Value} {g : JFrame}
theorem vx_callBack (cb : CallB R s args own index y bytes maxL ret ws rm mc ms n) (hM : vx_Met l y ws rm Pc Qc XC mc ms free) (hbl : FrameBlind Pc) : vx_Back l R p e below s args y 3 8 (PreOf R mc ms Pc) (PostOf Qc mc ms free) (vx_Post XC mc ms free) := by
  obtain ⟨hrc, hrs, hfr, hlo, hws, hcw, -, hini, -⟩ := cb
  exact vx_back (bytes := bytes) (maxL := maxL) (ret := ret) hM hbl hrc hrs hfr hlo hws hcw (fun a' U hW => word_at hW (Or.inl (by first | rfl | simp [Cond.onTables, Cond.keeps, Cond.steady])) hini)
theorem vx_runV (S : CallFix p m c cc nL s args Ts own) (hM : vx_Met l y ws rm Pc Qc XC mc ms free) (cw : CallW R s args own C index y bytes maxL ret ws rm mc ms n) (hp : PreV s H C b Pc As)
    (hg : g.method = m) (hn : As.length = n) (hsize : g.locals.size = nL) (hstack : g.stack = As.reverse ++ .ref b :: rest) (hW : 2 * g.monitorRoom + (rest.map fun v => v.category).sum ≤ 8) (hdg : decode cc g.pc = .ok (.invokevirtual index, 3)) (hf : cells + mc ≤ R.cells ∧ slots + ms ≤ R.slots) :
    vx_Run p l e R s m args below meth c H locs cells slots mc ms g rest (Qc (Value.ref b :: As).toArray) XC free := by
  have hK : vx_Back l R p e below s args y 3 8 (PreOf R mc ms Pc) (PostOf Qc mc ms free) (vx_Post XC mc ms free) := vx_callBack cw.1 hM hp.1
  obtain ⟨⟨-, -, -, -, -, -, hcode, -, hy, hlen, hl⟩, hin, hse⟩ := cw
  obtain ⟨hx, hb, hml, ho, -⟩ := S
  obtain ⟨-, ⟨cellB, hcB, hoB, hclB⟩, hPc⟩ := hp
  intro T hT X
  rcases vx_callV X hx (C := C) (bytes := bytes) (maxL := maxL) (ret := ret) ho hl hin hse hcode hy hK (by rw [hT]; exact hcB) hoB hclB hg (hsize.trans hml.symm) (argsL := As) (rest := rest) (fun sig h => hn.trans (hlen sig h)) hstack hW (by rw [hb]; exact hdg)
    (fun vm₁ hW₁ => ⟨hf.1, hf.2, hPc (T.setVm vm₁) hT hW₁⟩) with ⟨v, vm₁, ⟨U', l2, c2, s2⟩, hW₁, X', ⟨g', mk, t, L, e1, e2, hq, h1, hL, h2, h3⟩, st⟩ | ⟨q, vm₁, ⟨U', l2, c2, s2⟩, hW₁, X', ⟨g', mk, t, L, E, ce, e1, e2, hq, hce, hcv, hcl, h1, hL, h2, h3⟩, st⟩
  · dsimp only [Pt.U, Pt.locs, Pt.cells, Pt.slots] at X' e1 e2 h1 h2 h3 st
    subst h1; subst h2; subst h3
    exact Or.inl ⟨v, (T.setVm vm₁).calling g' mk (Value.ref b :: As).toArray, t, U', L, hT, X', hL, e1, e2, hq, st⟩
  · dsimp only [Pt.U, Pt.locs, Pt.cells, Pt.slots] at X' e1 e2 h1 h2 h3 st hcl
    subst h1; subst h2; subst h3
    exact Or.inr ⟨q, (T.setVm vm₁).calling g' mk (Value.ref b :: As).toArray, t, U', L, E, ce, hT, X', hL, e1, e2, hq, hce, hcv, vx_cls hW₁ hcl, st⟩
theorem vx_runS (S : CallFix p m c cc nL s args Ts own) (hM : vx_Met l y ws rm Pc Qc XC mc ms free) (cw : CallB R s args own index y bytes maxL ret ws rm mc ms n ∧ (Cond.static y).before args s = true) (hp : PreS s H Pc As)
    (hg : g.method = m) (hn : As.length = n) (hsize : g.locals.size = nL) (hstack : g.stack = As.reverse ++ rest) (hW : 2 * g.monitorRoom + (rest.map fun v => v.category).sum ≤ 8) (hdg : decode cc g.pc = .ok (.invokestatic index, 3)) (hf : cells + mc ≤ R.cells ∧ slots + ms ≤ R.slots) :
    vx_Run p l e R s m args below meth c H locs cells slots mc ms g rest (Qc As.toArray) XC free := by
  have hK : vx_Back l R p e below s args y 3 8 (PreOf R mc ms Pc) (PostOf Qc mc ms free) (vx_Post XC mc ms free) := vx_callBack cw.1 hM hp.1
  obtain ⟨⟨-, -, -, -, -, -, hcode, hini, hy, hlen, hl⟩, hstt⟩ := cw
  obtain ⟨hx, hb, hml, ho, -⟩ := S
  intro T hT X
  rcases vx_callS X hx (bytes := bytes) (maxL := maxL) (ret := ret) ho hl hstt hini hcode hy hK hg (hsize.trans hml.symm) (argsL := As) (rest := rest) (fun sig h => hn.trans (hlen sig h)) hstack hW (by rw [hb]; exact hdg)
    (fun vm₁ hW₁ => ⟨hf.1, hf.2, hp.2 (T.setVm vm₁) hT hW₁⟩) with ⟨v, vm₁, ⟨U', l2, c2, s2⟩, hW₁, X', ⟨g', mk, t, L, e1, e2, hq, h1, hL, h2, h3⟩, st⟩ | ⟨q, vm₁, ⟨U', l2, c2, s2⟩, hW₁, X', ⟨g', mk, t, L, E, ce, e1, e2, hq, hce, hcv, hcl, h1, hL, h2, h3⟩, st⟩
  · dsimp only [Pt.U, Pt.locs, Pt.cells, Pt.slots] at X' e1 e2 h1 h2 h3 st
    subst h1; subst h2; subst h3
    exact Or.inl ⟨v, (T.setVm vm₁).calling g' mk As.toArray, t, U', L, hT, X', hL, e1, e2, hq, st⟩
  · dsimp only [Pt.U, Pt.locs, Pt.cells, Pt.slots] at X' e1 e2 h1 h2 h3 st hcl
    subst h1; subst h2; subst h3
    exact Or.inr ⟨q, (T.setVm vm₁).calling g' mk As.toArray, t, U', L, E, ce, hT, X', hL, e1, e2, hq, hce, hcv, vx_cls hW₁ hcl, st⟩
end Runs
section Rows
variable {p : Program} {l : Launch} {e : Env} {R : Room} {s : State} {m : MethodId} {args : Array Value} {below : List Frame} {meth : Method} {c : Code} {H : Heap} {locs : List Loc} {cells slots : Nat} {Q : State → Prop}
variable {mc ms : Nat} {free : Addr → Prop} {A0 A1 : Nat → Prop} {H0 : Heap} {a : Array Value} {pc : Nat} {ls : Array Slot} {st0 rest : List Value}
theorem vx_keep {st₀ t T' : State} {L : List Loc} (h0 : st₀.heap = H) (e1 : T'.heap = t.heap) (hS : va_S A0 H0 H locs) (hA : ∀ q, q < H.size → A1 q → A0 q) (hf : ∀ q, free q → A0 q) (hL : ∀ q ∈ L, free q.base) (hF : va_F A1 st₀ t) :
    H.size ≤ T'.heap.size ∧ (∀ q : Nat, q < H.size → ¬ A1 q → T'.heap[q]? = H[q]?) ∧ va_S A0 H0 T'.heap (locs ++ L) := by
  obtain ⟨hz, hk⟩ := hF
  rw [h0] at hz hk
  exact ⟨by rw [e1]; exact hz, fun q h1 h2 => by rw [e1]; exact hk q h1 h2,
    ⟨Nat.le_trans hS.1 (by rw [e1]; exact hz), fun q h1 h2 => by rw [e1, hk q (Nat.lt_of_lt_of_le h1 hS.1) (fun z => h2 (hA q (Nat.lt_of_lt_of_le h1 hS.1) z))]; exact hS.2.1 q h1 h2, fun q hq => by
      rcases List.mem_append.mp hq with h | h
      · exact hS.2.2 q h
      · exact hf _ (hL q h)⟩⟩
theorem vx_calli {S SX : Type} {post : Int32 → S → Prop} {px : SX → Prop} {B : S → State → Prop} {BX : String → SX → State → Prop} {AX : Nat → Prop} (hr : vx_Run p l e R s m args below meth c H locs cells slots mc ms (F0 m pc ls st0) rest (va_Qi post B A1 a) (vx_X px BX AX) free) (hS : va_S A0 H0 H locs) (hA : ∀ q, q < H.size → A1 q → A0 q) (hf : ∀ q, free q → A0 q) (hAX : ∀ q, q < H.size → AX q → A0 q)
    (kx : ∀ (E : String) (ce : Cell) (q9 : Addr) (u : SX) (t : State) (H1 : Heap) (locs1 : List Loc), t.heap = H1 → s.vm.Alike t.vm → px u → BX E u t → H.size ≤ H1.size → (∀ q : Nat, q < H.size → ¬ AX q → H1[q]? = H[q]?) → va_S A0 H0 H1 locs1 → H1[q9]? = some ce → ce.vm = .none → s.vm.findClass E = some ce.cls → vx_W p l e R s m args below meth c H1 locs1 (cells + mc) (slots + ms) Q (F0 m pc ls rest) q9)
    (kk : ∀ (r : Int32) (u : S) (t : State) (H1 : Heap) (locs1 : List Loc), t.heap = H1 → s.vm.Alike t.vm → post r u → B u t → H.size ≤ H1.size → (∀ q : Nat, q < H.size → ¬ A1 q → H1[q]? = H[q]?) → va_S A0 H0 H1 locs1 → W p l e R s m args below meth c H1 locs1 (cells + mc) (slots + ms) Q (F0 m (pc + 3) ls (.int r :: rest))) : W p l e R s m args below meth c H locs cells slots Q (F0 m pc ls st0) := by
  intro T hT X
  rcases hr T hT X with ⟨v, st₀, t, T', L, h0, X', hL, e1, e2, ⟨⟨r, u, hv, hp, hb⟩, hF⟩, st⟩ | ⟨q, st₀, t, T', L, E, ce, h0, X', hL, e1, e2, ⟨u, hp, hb, hF⟩, hce, hcv, hcl, st⟩
  · cases hv
    obtain ⟨k1, k2, k3⟩ := vx_keep h0 e1 hS hA hf hL hF
    obtain ⟨t2, a1, b1⟩ := kk r u t T'.heap (locs ++ L) e1.symm (by rw [← e2]; exact X'.warmed.alike) hp hb k1 k2 k3 T' rfl X'
    exact ⟨t2, st t2 a1, b1⟩
  · obtain ⟨k1, k2, k3⟩ := vx_keep h0 e1 hS hAX hf hL hF
    obtain ⟨t2, a1, b1⟩ := kx E ce q u t T'.heap (locs ++ L) e1.symm (by rw [← e2]; exact X'.warmed.alike) hp hb k1 k2 k3 (by rw [e1]; exact hce) hcv hcl T' rfl X'
    exact ⟨t2, st.trans a1, b1⟩
theorem vx_calll {S SX : Type} {post : Int64 → S → Prop} {px : SX → Prop} {B : S → State → Prop} {BX : String → SX → State → Prop} {AX : Nat → Prop} (hr : vx_Run p l e R s m args below meth c H locs cells slots mc ms (F0 m pc ls st0) rest (va_Ql post B A1 a) (vx_X px BX AX) free) (hS : va_S A0 H0 H locs) (hA : ∀ q, q < H.size → A1 q → A0 q) (hf : ∀ q, free q → A0 q) (hAX : ∀ q, q < H.size → AX q → A0 q)
    (kx : ∀ (E : String) (ce : Cell) (q9 : Addr) (u : SX) (t : State) (H1 : Heap) (locs1 : List Loc), t.heap = H1 → s.vm.Alike t.vm → px u → BX E u t → H.size ≤ H1.size → (∀ q : Nat, q < H.size → ¬ AX q → H1[q]? = H[q]?) → va_S A0 H0 H1 locs1 → H1[q9]? = some ce → ce.vm = .none → s.vm.findClass E = some ce.cls → vx_W p l e R s m args below meth c H1 locs1 (cells + mc) (slots + ms) Q (F0 m pc ls rest) q9)
    (kk : ∀ (r : Int64) (u : S) (t : State) (H1 : Heap) (locs1 : List Loc), t.heap = H1 → s.vm.Alike t.vm → post r u → B u t → H.size ≤ H1.size → (∀ q : Nat, q < H.size → ¬ A1 q → H1[q]? = H[q]?) → va_S A0 H0 H1 locs1 → W p l e R s m args below meth c H1 locs1 (cells + mc) (slots + ms) Q (F0 m (pc + 3) ls (.long r :: rest))) : W p l e R s m args below meth c H locs cells slots Q (F0 m pc ls st0) := by
  intro T hT X
  rcases hr T hT X with ⟨v, st₀, t, T', L, h0, X', hL, e1, e2, ⟨⟨r, u, hv, hp, hb⟩, hF⟩, st⟩ | ⟨q, st₀, t, T', L, E, ce, h0, X', hL, e1, e2, ⟨u, hp, hb, hF⟩, hce, hcv, hcl, st⟩
  · cases hv
    obtain ⟨k1, k2, k3⟩ := vx_keep h0 e1 hS hA hf hL hF
    obtain ⟨t2, a1, b1⟩ := kk r u t T'.heap (locs ++ L) e1.symm (by rw [← e2]; exact X'.warmed.alike) hp hb k1 k2 k3 T' rfl X'
    exact ⟨t2, st t2 a1, b1⟩
  · obtain ⟨k1, k2, k3⟩ := vx_keep h0 e1 hS hAX hf hL hF
    obtain ⟨t2, a1, b1⟩ := kx E ce q u t T'.heap (locs ++ L) e1.symm (by rw [← e2]; exact X'.warmed.alike) hp hb k1 k2 k3 (by rw [e1]; exact hce) hcv hcl T' rfl X'
    exact ⟨t2, st.trans a1, b1⟩
theorem vx_callf {S SX : Type} {post : UInt32 → S → Prop} {px : SX → Prop} {B : S → State → Prop} {BX : String → SX → State → Prop} {AX : Nat → Prop} (hr : vx_Run p l e R s m args below meth c H locs cells slots mc ms (F0 m pc ls st0) rest (va_Qf post B A1 a) (vx_X px BX AX) free) (hS : va_S A0 H0 H locs) (hA : ∀ q, q < H.size → A1 q → A0 q) (hf : ∀ q, free q → A0 q) (hAX : ∀ q, q < H.size → AX q → A0 q)
    (kx : ∀ (E : String) (ce : Cell) (q9 : Addr) (u : SX) (t : State) (H1 : Heap) (locs1 : List Loc), t.heap = H1 → s.vm.Alike t.vm → px u → BX E u t → H.size ≤ H1.size → (∀ q : Nat, q < H.size → ¬ AX q → H1[q]? = H[q]?) → va_S A0 H0 H1 locs1 → H1[q9]? = some ce → ce.vm = .none → s.vm.findClass E = some ce.cls → vx_W p l e R s m args below meth c H1 locs1 (cells + mc) (slots + ms) Q (F0 m pc ls rest) q9)
    (kk : ∀ (r : UInt32) (u : S) (t : State) (H1 : Heap) (locs1 : List Loc), t.heap = H1 → s.vm.Alike t.vm → post r u → B u t → H.size ≤ H1.size → (∀ q : Nat, q < H.size → ¬ A1 q → H1[q]? = H[q]?) → va_S A0 H0 H1 locs1 → W p l e R s m args below meth c H1 locs1 (cells + mc) (slots + ms) Q (F0 m (pc + 3) ls (.float r :: rest))) : W p l e R s m args below meth c H locs cells slots Q (F0 m pc ls st0) := by
  intro T hT X
  rcases hr T hT X with ⟨v, st₀, t, T', L, h0, X', hL, e1, e2, ⟨⟨r, u, hv, hp, hb⟩, hF⟩, st⟩ | ⟨q, st₀, t, T', L, E, ce, h0, X', hL, e1, e2, ⟨u, hp, hb, hF⟩, hce, hcv, hcl, st⟩
  · cases hv
    obtain ⟨k1, k2, k3⟩ := vx_keep h0 e1 hS hA hf hL hF
    obtain ⟨t2, a1, b1⟩ := kk r u t T'.heap (locs ++ L) e1.symm (by rw [← e2]; exact X'.warmed.alike) hp hb k1 k2 k3 T' rfl X'
    exact ⟨t2, st t2 a1, b1⟩
  · obtain ⟨k1, k2, k3⟩ := vx_keep h0 e1 hS hAX hf hL hF
    obtain ⟨t2, a1, b1⟩ := kx E ce q u t T'.heap (locs ++ L) e1.symm (by rw [← e2]; exact X'.warmed.alike) hp hb k1 k2 k3 (by rw [e1]; exact hce) hcv hcl T' rfl X'
    exact ⟨t2, st.trans a1, b1⟩
theorem vx_calld {S SX : Type} {post : UInt64 → S → Prop} {px : SX → Prop} {B : S → State → Prop} {BX : String → SX → State → Prop} {AX : Nat → Prop} (hr : vx_Run p l e R s m args below meth c H locs cells slots mc ms (F0 m pc ls st0) rest (va_Qd post B A1 a) (vx_X px BX AX) free) (hS : va_S A0 H0 H locs) (hA : ∀ q, q < H.size → A1 q → A0 q) (hf : ∀ q, free q → A0 q) (hAX : ∀ q, q < H.size → AX q → A0 q)
    (kx : ∀ (E : String) (ce : Cell) (q9 : Addr) (u : SX) (t : State) (H1 : Heap) (locs1 : List Loc), t.heap = H1 → s.vm.Alike t.vm → px u → BX E u t → H.size ≤ H1.size → (∀ q : Nat, q < H.size → ¬ AX q → H1[q]? = H[q]?) → va_S A0 H0 H1 locs1 → H1[q9]? = some ce → ce.vm = .none → s.vm.findClass E = some ce.cls → vx_W p l e R s m args below meth c H1 locs1 (cells + mc) (slots + ms) Q (F0 m pc ls rest) q9)
    (kk : ∀ (r : UInt64) (u : S) (t : State) (H1 : Heap) (locs1 : List Loc), t.heap = H1 → s.vm.Alike t.vm → post r u → B u t → H.size ≤ H1.size → (∀ q : Nat, q < H.size → ¬ A1 q → H1[q]? = H[q]?) → va_S A0 H0 H1 locs1 → W p l e R s m args below meth c H1 locs1 (cells + mc) (slots + ms) Q (F0 m (pc + 3) ls (.double r :: rest))) : W p l e R s m args below meth c H locs cells slots Q (F0 m pc ls st0) := by
  intro T hT X
  rcases hr T hT X with ⟨v, st₀, t, T', L, h0, X', hL, e1, e2, ⟨⟨r, u, hv, hp, hb⟩, hF⟩, st⟩ | ⟨q, st₀, t, T', L, E, ce, h0, X', hL, e1, e2, ⟨u, hp, hb, hF⟩, hce, hcv, hcl, st⟩
  · cases hv
    obtain ⟨k1, k2, k3⟩ := vx_keep h0 e1 hS hA hf hL hF
    obtain ⟨t2, a1, b1⟩ := kk r u t T'.heap (locs ++ L) e1.symm (by rw [← e2]; exact X'.warmed.alike) hp hb k1 k2 k3 T' rfl X'
    exact ⟨t2, st t2 a1, b1⟩
  · obtain ⟨k1, k2, k3⟩ := vx_keep h0 e1 hS hAX hf hL hF
    obtain ⟨t2, a1, b1⟩ := kx E ce q u t T'.heap (locs ++ L) e1.symm (by rw [← e2]; exact X'.warmed.alike) hp hb k1 k2 k3 (by rw [e1]; exact hce) hcv hcl T' rfl X'
    exact ⟨t2, st.trans a1, b1⟩
theorem vx_callv {S SX : Type} {post : S → Prop} {px : SX → Prop} {B : S → State → Prop} {BX : String → SX → State → Prop} {AX : Nat → Prop} (hr : vx_Run p l e R s m args below meth c H locs cells slots mc ms (F0 m pc ls st0) rest (va_Qv post B A1 a) (vx_X px BX AX) free) (hS : va_S A0 H0 H locs) (hA : ∀ q, q < H.size → A1 q → A0 q) (hf : ∀ q, free q → A0 q) (hAX : ∀ q, q < H.size → AX q → A0 q)
    (kx : ∀ (E : String) (ce : Cell) (q9 : Addr) (u : SX) (t : State) (H1 : Heap) (locs1 : List Loc), t.heap = H1 → s.vm.Alike t.vm → px u → BX E u t → H.size ≤ H1.size → (∀ q : Nat, q < H.size → ¬ AX q → H1[q]? = H[q]?) → va_S A0 H0 H1 locs1 → H1[q9]? = some ce → ce.vm = .none → s.vm.findClass E = some ce.cls → vx_W p l e R s m args below meth c H1 locs1 (cells + mc) (slots + ms) Q (F0 m pc ls rest) q9)
    (kk : ∀ (u : S) (t : State) (H1 : Heap) (locs1 : List Loc), t.heap = H1 → s.vm.Alike t.vm → post u → B u t → H.size ≤ H1.size → (∀ q : Nat, q < H.size → ¬ A1 q → H1[q]? = H[q]?) → va_S A0 H0 H1 locs1 → W p l e R s m args below meth c H1 locs1 (cells + mc) (slots + ms) Q (F0 m (pc + 3) ls (rest))) : W p l e R s m args below meth c H locs cells slots Q (F0 m pc ls st0) := by
  intro T hT X
  rcases hr T hT X with ⟨v, st₀, t, T', L, h0, X', hL, e1, e2, ⟨⟨u, hv, hp, hb⟩, hF⟩, st⟩ | ⟨q, st₀, t, T', L, E, ce, h0, X', hL, e1, e2, ⟨u, hp, hb, hF⟩, hce, hcv, hcl, st⟩
  · cases hv
    obtain ⟨k1, k2, k3⟩ := vx_keep h0 e1 hS hA hf hL hF
    obtain ⟨t2, a1, b1⟩ := kk u t T'.heap (locs ++ L) e1.symm (by rw [← e2]; exact X'.warmed.alike) hp hb k1 k2 k3 T' rfl X'
    exact ⟨t2, st t2 a1, b1⟩
  · obtain ⟨k1, k2, k3⟩ := vx_keep h0 e1 hS hAX hf hL hF
    obtain ⟨t2, a1, b1⟩ := kx E ce q u t T'.heap (locs ++ L) e1.symm (by rw [← e2]; exact X'.warmed.alike) hp hb k1 k2 k3 (by rw [e1]; exact hce) hcv hcl T' rfl X'
    exact ⟨t2, st.trans a1, b1⟩
/-- caught by the row x of this method's table; the rows ahead don't take it -/
theorem vx_catch {own name : String} {E : String} {ce : Cell} {q : Addr} (hown : s.vm.findClass own = some m.cls) (pre : List ExceptionTableEntry) (x : ExceptionTableEntry) (suf : List ExceptionTableEntry) (hsplit : c.exceptionTable.toList = pre ++ x :: suf)
    (hpass : ∀ z ∈ pre, covers z pc = false ∨ (z.catchType ≠ 0 ∧ ∃ nm : String, (Cond.classLink own z.catchType nm).before args s = true ∧ va_Nc E nm s)) (hx : covers x pc = true) (h0 : x.catchType ≠ 0)
    (hlink : (Cond.classLink own x.catchType name).before args s = true) (hcast : (Cond.castable E name).before args s = true) (hcell : H[q]? = some ce) (hv : ce.vm = .none) (hcl : s.vm.findClass E = some ce.cls)
    (kk : W p l e R s m args below meth c H locs cells slots Q (F0 m x.handlerPc ls [.ref q])) : vx_W p l e R s m args below meth c H locs cells slots Q (F0 m pc ls rest) q := by
  intro T hT X
  have hpl : e.platform.magicAccessors = ({} : Platform).magicAccessors := by rw [X.admits.platform]
  obtain ⟨c3, c4, hc3, hc4, hasg⟩ := Cond.castable_spec hcast
  cases Option.some.inj (hc3.symm.trans hcl)
  obtain ⟨c5, hc5, hcl5⟩ := Cond.classLink_spec hown hlink e.platform hpl
  cases Option.some.inj (hc4.symm.trans hc5)
  obtain ⟨vm', X', st⟩ := X.thenCaughtThrough q (g := F0 m pc ls rest) rfl (Steps.refl _) (by rw [hT]; exact hcell) (by rw [hv]; rfl) (by obtain ⟨k9, h9, -⟩ := Vm.findClass_spec hcl; exact ⟨k9, h9⟩) pre x suf hsplit
    (fun z hz => by
      rcases hpass z hz with h | ⟨hz0, nm, hl1, hn1⟩
      · exact Or.inl h
      · obtain ⟨c6, hc6, hcl6⟩ := Cond.classLink_spec hown hl1 e.platform hpl
        obtain ⟨a8, b8, h1, h2, h3⟩ := hn1
        cases Option.some.inj (h1.symm.trans hcl)
        cases Option.some.inj (h2.symm.trans hc6)
        exact Or.inr ⟨hz0, _, hcl6, h3⟩) hx (Or.inr ⟨h0, c4, hcl5, hasg⟩)
  obtain ⟨t, a1, b1⟩ := kk (T.setVm vm') hT X'
  exact ⟨t, st.trans a1, b1⟩
end Rows
section Ends
variable {p : Program} {l : Launch} {e : Env} {R : Room} {s : State} {m : MethodId} {args : Array Value} {below : List Frame} {meth : Method} {c : Code} {H : Heap} {locs : List Loc} {cells slots : Nat} {Q : State → Prop}
variable {mc ms : Nat} {free : Addr → Prop} {A0 A1 : Nat → Prop} {H0 : Heap} {a : Array Value} {ls : Array Slot} {st0 rest : List Value}
variable {Qc : Array Value → State → Outcome → State → Prop} {XC : String → State → State → Prop}
/-- what a body that may throw owes at its end -/
def vx_MQ (below : List Frame) (Qc : Array Value → State → Outcome → State → Prop) (XC : String → State → State → Prop) (a : Array Value) (s : State) (mc ms : Nat) (free : Addr → Prop) : State → Prop := fun t =>
  ∃ o, t.status = .running ∧ Ended t below o ∧ vx_Q Qc XC mc ms free a s o t
theorem vx_ret {g : JFrame} {mc ms : Nat} (k : W p l e R s m args below meth c H locs cells slots (MQ below Qc args s mc ms free) g) : W p l e R s m args below meth c H locs cells slots (vx_MQ below Qc XC args s mc ms free) g := by
  intro T hT X
  obtain ⟨t, a1, o, b1, b2, b3, b4⟩ := k T hT X
  exact ⟨t, a1, o, b1, b2, Or.inl ⟨b3, b4⟩⟩
/-- not caught here: it goes on to the caller -/
theorem vx_widen {g : JFrame} {q : Addr} {k n : Nat} (h1 : cells ≤ k) (h2 : slots ≤ n) (kk : vx_W p l e R s m args below meth c H locs k n Q g q) : vx_W p l e R s m args below meth c H locs cells slots Q g q := fun T hT X => kk T hT (stand_widen X h1 h2)
theorem vx_out {pc : Nat} {E : String} {ce : Cell} {q : Addr} {mc ms : Nat} (hout : ∀ x ∈ c.exceptionTable.toList, covers x pc = false) (hlocks : meth.locks = false) (hcell : H[q]? = some ce) (hv : ce.vm = .none) (hcl : s.vm.findClass E = some ce.cls)
    (hx : ∀ t : State, t.heap = H → s.vm.Alike t.vm → XC E s t) (hf : ∀ z ∈ locs, free z.base) (hc : cells ≤ mc) (hs : slots ≤ ms) :
    vx_W p l e R s m args below meth c H locs cells slots (vx_MQ below Qc XC args s mc ms free) (F0 m pc ls rest) q := by
  intro T hT X
  obtain ⟨st1, hrun, hend, hW, hsm⟩ := X.leaveThrown q (g := F0 m pc ls rest) rfl rfl rfl hout hlocks
  have hcell9 : (T.setFrames (.throwing q :: below)).heap[q]? = some ce := by
    show T.heap[q]? = some ce
    rw [hT]; exact hcell
  exact ⟨_, st1, .threw q, hrun, hend, Or.inr ⟨q, rfl, E, ce, locs, hx _ hT hW.alike, hcell9, hv, hcl, hW, hsm.mono hc hs, hf⟩⟩
theorem vx_frame {U : State} {k n : Nat} (h : s.sameButNew ({ U with vm := s.vm } : State) locs k n) : s.heap.size ≤ U.heap.size ∧ ∀ q : Nat, q < s.heap.size → (∀ z ∈ locs, z.base ≠ q) → U.heap[q]? = s.heap[q]? := by
  obtain ⟨-, h2, -, -, -, h6⟩ := h
  refine ⟨h2, fun q hq hz => ?_⟩
  obtain ⟨c9, e1, e2, e3, e4⟩ := h6 q _ (Array.getElem?_eq_getElem hq)
  have hs : c9.slots = (s.heap[q]).slots := Array.ext_getElem? fun i => e4 i fun hm => hz _ hm rfl
  have h9 : c9 = s.heap[q] := by
    rw [hs] at e2
    exact e2
  have e5 : U.heap[q]? = some c9 := e1
  rw [e5, h9, Array.getElem?_eq_getElem hq]
/-- the words of a throw but the four that speak of the heap -/
def vx_no (w : Cond) : Bool := decide (w ≠ .isRef (.static Bundle.tN "UNASSIGNED_STACK" Bundle.steD)) && decide (w ≠ .isRef (.static Bundle.tN "SUPPRESSED_SENTINEL" Bundle.listD)) && decide (w ≠ .laysStatic Bundle.tN "UNASSIGNED_STACK" Bundle.steD) && decide (w ≠ .laysStatic Bundle.tN "SUPPRESSED_SENTINEL" Bundle.listD)
def vx_at0 (own : String) (ic : Nat) (X : String) (names : List String) : List Cond := (Bundle.ownAtoms0 own ic X names).filter vx_no
def vx_atS (own : String) (ic : Nat) (X : String) (names : List String) : List Cond := (Bundle.ownAtoms own ic X names).filter vx_no
/-- a word that the tables alone decide, or a good one -/
def vx_ot (w : Cond) : Bool := w.onTables || goodWord w
theorem vx_ot_at {args a' : Array Value} {s U : State} {w : Cond} (hW : s.WarmedH U.vm) (hvm : s.vm = U.vm) (hg : vx_ot w = true) (h : w.before args s = true) : w.before a' U = true := by
  simp only [vx_ot, Bool.or_eq_true] at hg
  rcases hg with hg | hg
  · exact va_tabs hg hvm h
  · exact word_at hW (good_of_word hg) h
/-- a list's words: the good ones out of the method's own list, the others by premises of their own -/
theorem vx_hat {args : Array Value} {s : State} {L B : List Cond} (h1 : ∀ w ∈ L.filter goodWord, w.before args s = true) (h2 : ∀ w ∈ L.filter (fun w => !goodWord w), w ∈ B) (h3 : ∀ w ∈ B, w.before args s = true) : ∀ w ∈ L, w.before args s = true := by
  intro w hw
  by_cases g : goodWord w = true
  · exact h1 w (List.mem_filter.mpr ⟨hw, g⟩)
  · refine h3 w (h2 w (List.mem_filter.mpr ⟨hw, ?_⟩))
    show (!goodWord w) = true
    cases hgw : goodWord w
    · rfl
    · exact absurd hgw g
theorem vx_c {args : Array Value} {s : State} {w : Cond} {B : List Cond} (h : w.before args s = true) (t : ∀ w ∈ B, w.before args s = true) : ∀ w' ∈ w :: B, w'.before args s = true := fun w' h' => (List.mem_cons.mp h').elim (fun e => by rw [e]; exact h) (t w')
theorem vx_n {args : Array Value} {s : State} : ∀ w ∈ ([] : List Cond), w.before args s = true := fun _ h => nomatch h
theorem vx_own {args : Array Value} {s : State} {L : List Cond} (h1 : ∀ w ∈ L.filter vx_no, w.before args s = true)
    (hU : (Cond.isRef (.static Bundle.tN "UNASSIGNED_STACK" Bundle.steD)).before args s = true) (hN : (Cond.isRef (.static Bundle.tN "SUPPRESSED_SENTINEL" Bundle.listD)).before args s = true)
    (lU : (Cond.laysStatic Bundle.tN "UNASSIGNED_STACK" Bundle.steD).before args s = true) (lN : (Cond.laysStatic Bundle.tN "SUPPRESSED_SENTINEL" Bundle.listD).before args s = true) : ∀ w ∈ L, w.before args s = true := by
  intro w hw
  by_cases e1 : w = .isRef (.static Bundle.tN "UNASSIGNED_STACK" Bundle.steD)
  · rw [e1]; exact hU
  · by_cases e2 : w = .isRef (.static Bundle.tN "SUPPRESSED_SENTINEL" Bundle.listD)
    · rw [e2]; exact hN
    · by_cases e3 : w = .laysStatic Bundle.tN "UNASSIGNED_STACK" Bundle.steD
      · rw [e3]; exact lU
      · by_cases e4 : w = .laysStatic Bundle.tN "SUPPRESSED_SENTINEL" Bundle.listD
        · rw [e4]; exact lN
        · exact h1 w (List.mem_filter.mpr ⟨hw, by unfold vx_no; rw [decide_eq_true e1, decide_eq_true e2, decide_eq_true e3, decide_eq_true e4]; rfl⟩)
/-- where a static field lies, its class's statics cell in H -/
def vx_L (C n d : String) (A : Nat → Prop) (U : State) (H : Heap) : Prop := ∃ (c : ClassId) (k : Class) (i : Nat) (f : Field) (a : Nat) (cell : Cell), U.vm.findClass C = some c ∧ U.fieldFound? C n d = some (c, k, i, f) ∧ f.isStatic = true ∧ k.statics = some a ∧ H[a]? = some cell ∧ cell.vm.isStatics = true ∧ cell.cls = c ∧ f.slot < cell.slots.size ∧ k.staticTypes[f.slot]? = some f.type ∧ ¬ A a
theorem vx_L.moved {C n d : String} {A : Nat → Prop} {u U : State} {H : Heap} (hvm : u.vm.Alike U.vm) (h : vx_L C n d A u H) : vx_L C n d A U H := by
  obtain ⟨c, k, i, f, a, cell, h1, h2, h3, h4, h5, h6, h7, h8, h9, h10⟩ := h
  obtain ⟨k', hi', he⟩ := State.fieldFound?_setVm hvm h2
  exact ⟨c, k', i, f, a, cell, by rw [hvm.findClass]; exact h1, hi', h3, by rw [he]; exact h4, h5, h6, h7, h8, by rw [he]; exact h9, h10⟩
theorem vx_L.kept {C n d : String} {A : Nat → Prop} {U : State} {H H1 : Heap} (h : vx_L C n d A U H) (hq : ∀ a : Nat, a < H.size → ¬ A a → H1[a]? = H[a]?) : vx_L C n d A U H1 := by
  obtain ⟨c, k, i, f, a, cell, h1, h2, h3, h4, h5, h6, h7, h8, h9, h10⟩ := h
  exact ⟨c, k, i, f, a, cell, h1, h2, h3, h4, by rw [hq a (Array.getElem?_eq_some_iff.mp h5).1 h10]; exact h5, h6, h7, h8, h9, h10⟩
theorem vx_L.narrow {C n d : String} {A B : Nat → Prop} {U : State} {H : Heap} (h : vx_L C n d A U H) (hAB : ∀ q, B q → A q) : vx_L C n d B U H := by
  obtain ⟨c, k, i, f, a, cell, h1, h2, h3, h4, h5, h6, h7, h8, h9, h10⟩ := h
  exact ⟨c, k, i, f, a, cell, h1, h2, h3, h4, h5, h6, h7, h8, h9, fun z => h10 (hAB _ z)⟩
theorem vx_L.word {C n d : String} {A : Nat → Prop} {s : State} {args : Array Value} (h : vx_L C n d A s s.heap) : (Cond.laysStatic C n d).before args s = true := by
  obtain ⟨c, k, i, f, a, cell, h1, h2, h3, h4, h5, h6, h7, h8, h9, -⟩ := h
  show (Cond.laysStatic C n d).holds args s none s [] = true
  exact Cond.laysStatic_of h1 h2 h3 h4 h5 h6 h7 h8 h9
/-- .. and what it holds: null or some reference -/
def vx_Zq (C n d : String) (A : Nat → Prop) (U : State) (H : Heap) : Prop := va_Zq C n d A U H ∧ vx_L C n d A U H
theorem vx_Zq.moved {C n d : String} {A : Nat → Prop} {u U : State} {H : Heap} (hvm : u.vm.Alike U.vm) (h : vx_Zq C n d A u H) : vx_Zq C n d A U H := ⟨va_Zq.moved hvm h.1, vx_L.moved hvm h.2⟩
theorem vx_Zq.kept {C n d : String} {A : Nat → Prop} {U : State} {H H1 : Heap} (h : vx_Zq C n d A U H) (hq : ∀ a : Nat, a < H.size → ¬ A a → H1[a]? = H[a]?) : vx_Zq C n d A U H1 := ⟨va_Zq.kept h.1 hq, vx_L.kept h.2 hq⟩
theorem vx_Zq.narrow {C n d : String} {A B : Nat → Prop} {U : State} {H : Heap} (h : vx_Zq C n d A U H) (hAB : ∀ q, B q → A q) : vx_Zq C n d B U H := ⟨va_Zq.narrow h.1 hAB, vx_L.narrow h.2 hAB⟩
theorem vx_Zqof {args : Array Value} {s : State} {C n d : String} {A : Nat → Prop} (hl : (Cond.laysStatic C n d).before args s = true) (hini : (Cond.initialized C).before args s = true) (h : (Cond.isRef (.static C n d)).before args s = true) (hA : ∀ a : Nat, a < s.heap.size → ¬ A a) : vx_Zq C n d A s s.heap := by
  refine ⟨va_Zqof hl hini h hA, ?_⟩
  obtain ⟨c, k, i, f, a, cell, h1, h2, h3, h4, h5, h6, h7, h8, h9⟩ := Cond.laysStatic_spec hl
  exact ⟨c, k, i, f, a, cell, h1, h2, h3, h4, h5, h6, h7, h8, h9, hA a (Array.getElem?_eq_some_iff.mp h5).1⟩
theorem vx_isRef {C n d : String} {v : Value} {A : Nat → Prop} {s : State} {args : Array Value} (h : va_Z C n d v A s s.heap) (hv : v.isRef = true) : (Cond.isRef (.static C n d)).before args s = true := by
  obtain ⟨cf, kf, fi, f, a, cell, h1, h2, h3, h4, h5, h6, h7, -⟩ := h
  have he : (Term.static C n d).eval args s none [] s = some v := by
    simp [Term.eval, State.fieldNamed?, h1, h2, h4, h5, h6, h7]
  simp only [Cond.before, Cond.holds, Cond.value, he]
  cases v <;> simp_all [Value.isRef]
theorem vx_isRefq {C n d : String} {A : Nat → Prop} {s : State} {args : Array Value} (h : va_Zq C n d A s s.heap) : (Cond.isRef (.static C n d)).before args s = true := by
  rcases h with h | ⟨t, h⟩
  · exact vx_isRef h rfl
  · exact vx_isRef h rfl
/-- the same frame, seen from here: as if the method were called anew in this heap -/
theorem vx_rebase {T : State} (X : Stand p l e R s m args below meth c T locs cells slots) {R' : Room} (hf : R'.frames ≤ R.frames) (hl : R'.locals ≤ R.locals) (hc : cells + R'.cells ≤ R.cells) (hs : slots + R'.slots ≤ R.slots) :
    Stand p l e R' ((T.setVm s.vm).setFrames (.invoking m args :: below)) m args below meth c T [] 0 0 := by
  have htop : (T.setVm s.vm).topJava?.isSome := X.here.top
  have hF : ((T.setVm s.vm).setFrames (.invoking m args :: below)).frames = .invoking m args :: below := State.frames_setFrames _ (State.cur_lt_of_top htop)
  obtain ⟨g₀, hg0⟩ := Option.isSome_iff_exists.mp htop
  obtain ⟨r, hr⟩ := State.topJava?_eq_some.mp hg0
  have hl9 : e.platform.stackLimits (T.setVm s.vm).me = e.platform.stackLimits s.me := X.limits
  have hb9 : (T.setVm s.vm).me.stackBytes = s.me.stackBytes := X.bytes
  refine ⟨X.admits, X.cas, X.clock, hF, ?_, X.hears, X.method, X.code, X.here, X.tail, X.warmed, ?_, ?_, ?_⟩
  · have h := X.room
    have hU : ((T.setVm s.vm).setFrames (.invoking m args :: below)).localsInUse = s.localsInUse := by
      rw [State.localsInUse_invoking hF (meth := meth) (c := c) X.method X.code, State.localsInUse_invoking X.frames X.method X.code]
    simp only [State.hasRoom, Bool.and_eq_true, decide_eq_true_eq] at h ⊢
    obtain ⟨⟨⟨⟨h1, h2, h3, h4, h5, h6⟩, h7⟩, h8⟩, h9⟩ := h
    rw [X.frames, List.length_cons] at h2 h3
    have q1 := X.heapSize
    have q2 := X.used
    simp only [hF, hU, List.length_cons, State.stackLimits_setFrames, State.stackBytes_setFrames, hl9, hb9]
    refine ⟨⟨⟨⟨by omega, by omega, by omega, by omega, by omega, h6⟩, ?_⟩, ?_⟩, X.book⟩
    · show T.heap.size + R'.cells ≤ e.platform.maxCells
      omega
    · show T.slotsUsed + R'.slots ≤ e.platform.maxSlots
      omega
  · rw [State.stackLimits_setFrames]; rfl
  · rw [State.stackBytes_setFrames]; rfl
  · refine ⟨?_, Nat.le_refl _, Nat.le_refl _, ?_, ?_, fun a c9 h9 => ⟨c9, h9, rfl, rfl, fun _ _ => rfl⟩⟩
    · obtain ⟨t, ht, -⟩ := State.frames_cons hr
      show T.setVm s.vm = { ((T.setVm s.vm).setFrames (.invoking m args :: below)).setFrames (T.setVm s.vm).frames with heap := T.heap, slotsUsed := T.slotsUsed }
      rw [State.setFrames_setFrames, State.setFrames_self ht]
      rfl
    · show T.slotsUsed = T.slotsUsed + ((T.heap.toList.drop T.heap.size).map (·.slots.size)).sum
      rw [List.drop_eq_nil_of_le (Nat.le_of_eq Array.length_toList)]
      rfl
    · show ((T.heap.toList.drop T.heap.size).map (·.slots.size)).sum ≤ 0
      rw [List.drop_eq_nil_of_le (Nat.le_of_eq Array.length_toList)]
      exact Nat.le_refl _
/-- 'throw new E()': new; dup; invokespecial; athrow -/
theorem vx_throw0 {cc : ByteArray} {pc : Nat} (hexec : p.tables.exec = Jvm.exec) (hb : c.code = cc) (hl : l.stackTraces = false) {own cls : String} {names : List String} {ik ic mc ms : Nat} {A : Nat → Prop}
    (hown : s.vm.findClass own = some m.cls) (hcls : Bundle.fit cls = true) (hnames : ∀ n ∈ names, Bundle.fit n = true)
    (hk : (Cond.classLink own ik cls).before args s = true) (hini : (Cond.initialized cls).before args s = true) (hat : ∀ w ∈ vx_at0 own ic cls names, w.before args s = true)
    (hgood : ∀ w ∈ Cond.classLink own ik cls :: Cond.initialized cls :: vx_at0 own ic cls names, vx_ot w = true)
    (hU : vx_Zq Bundle.tN "UNASSIGNED_STACK" Bundle.steD A s s.heap) (hN : vx_Zq Bundle.tN "SUPPRESSED_SENTINEL" Bundle.listD A s s.heap) (hS : va_S A s.heap H locs) (hsize : ls.size = c.maxLocals)
    (d0 : decode cc pc = .ok (.new ik, 3)) (d3 : decode cc (pc + 3) = .ok (.dup, 1)) (d4 : decode cc (pc + 4) = .ok (.invokespecial ic, 3)) (d7 : decode cc (pc + 7) = .ok (.athrow, 1))
    (hout : ∀ x ∈ c.exceptionTable.toList, covers x (pc + 7) = false)
    (hRframes : names.length + 3 < R.frames) (hRlocals : (rest.map fun v => v.category).sum + (13 * (names.length + 1) + 42) ≤ R.locals) (hRcells : cells + 1 ≤ R.cells) (hRslots : slots + 6 ≤ R.slots) (hlocks : meth.locks = false)
    (hx : ∀ t : State, s.vm.Alike t.vm → H.size ≤ t.heap.size → (∀ q : Nat, q < H.size → t.heap[q]? = H[q]?) → XC cls s t)
    (hf : ∀ z ∈ locs, free z.base) (hc : cells + 1 ≤ mc) (hs : slots + 6 ≤ ms) :
    W p l e R s m args below meth c H locs cells slots (vx_MQ below Qc XC args s mc ms free) (F0 m pc ls rest) := by
  intro T hT X
  have htr : e.platform.stackTraces = false := (show e.platform.stackTraces = l.stackTraces by rw [X.admits.platform]).trans hl
  have Y := vx_rebase X (R' := { frames := R.frames, locals := R.locals, cells := 1, slots := 6 }) (Nat.le_refl _) (Nat.le_refl _) hRcells hRslots
  obtain ⟨s', hA⟩ : ∃ z, z = (T.setVm s.vm).setFrames (.invoking m args :: below) := ⟨_, rfl⟩
  rw [← hA] at Y
  have hvm : s'.vm = s.vm := by rw [hA]; rfl
  have hhp : s'.heap = H := by rw [hA]; exact hT
  have hW0 : s.WarmedH s'.vm := by rw [hvm]; exact State.WarmedH.refl s
  have hat' : ∀ w ∈ vx_at0 own ic cls names, w.before args s' = true := fun w hw => vx_ot_at hW0 hvm.symm (hgood w (List.mem_cons_of_mem _ (List.mem_cons_of_mem _ hw))) (hat w hw)
  have hk' : (Cond.classLink own ik cls).before args s' = true := vx_ot_at hW0 hvm.symm (hgood _ List.mem_cons_self) hk
  have hini' : (Cond.initialized cls).before args s' = true := vx_ot_at hW0 hvm.symm (hgood _ (List.mem_cons_of_mem _ List.mem_cons_self)) hini
  have hU' : vx_Zq Bundle.tN "UNASSIGNED_STACK" Bundle.steD A s' s'.heap := by rw [hhp]; exact vx_Zq.moved hW0.alike (hU.kept hS.2.1)
  have hN' : vx_Zq Bundle.tN "SUPPRESSED_SENTINEL" Bundle.listD A s' s'.heap := by rw [hhp]; exact vx_Zq.moved hW0.alike (hN.kept hS.2.1)
  have h : ∀ w ∈ Bundle.ownAtoms0 own ic cls names, w.before args s' = true := vx_own hat' (vx_isRefq hU'.1) (vx_isRefq hN'.1) hU'.2.word hN'.2.word
  have hown' : s'.vm.findClass own = some m.cls := by rw [hvm]; exact hown
  have hins : (Cond.instantiable cls 6).before args s' = true := h _ (by simp [Bundle.ownAtoms0])
  obtain ⟨vm₁, cX, kX, hfX, hkX, -, -, X₁, st1⟩ := Y.newCold hexec (own := own) (C := cls) (index := ik) (n := 6) hown' hk' hins hini'
    (g := F0 m pc ls rest) rfl (by rw [hb]; exact d0) (Nat.le_refl _) (Nat.le_refl _)
  generalize hT1 : (T.setVm vm₁).pushCell { cls := cX, slots := kX.instanceTypes.map defaultValue, vm := .none } = T1 at X₁ st1
  have hcat : (Value.ref T.heap.size).category = 1 := rfl
  have hcellA : T1.heap[T.heap.size]? = some (freshCell cX kX) := by rw [← hT1]; exact State.heap_pushCell_size _ _
  have d3' : decode c.code (pc + 3) = .ok (.dup, 1) := by rw [hb]; exact d3
  obtain ⟨U, hsteps, hrun, hend, hW, hsame, ce, hce, hO⟩ := X₁.ctorThrow0 hexec htr (own := own) (cls := cls) (names := names) (ic := ic) hown' hcls hnames h (fun x hx => nomatch hx) hfX hkX hcellA (by rw [hhp, hT]; exact Nat.le_refl _)
    (g := { method := m, pc := pc + 4, locals := ls, stack := .ref T.heap.size :: .ref T.heap.size :: rest, locked := none }) rfl hsize rfl rfl (rest := rest) rfl
    (by rw [hb]; exact d4) (by rw [hb]; exact d7) hout hRframes (by simp only [List.map_cons, List.sum_cons, hcat]; omega) hlocks
  obtain ⟨f1, f2⟩ := vx_frame hsame
  rw [hhp] at f1 f2
  have hWs : s.WarmedH U.vm := State.WarmedH.trans hW0 hW
  have hcl : s.vm.findClass cls = some ce.cls := by
    have h9 := hO.cls
    rw [hvm] at h9
    exact h9
  have hall : s.sameButNew ({ U with vm := s.vm } : State) locs mc ms := by
    subst hA
    obtain ⟨e1, e2⟩ := hsame
    rw [State.setFrames_setFrames] at e1
    have h2 : (T.setVm s.vm).sameButNew ({ U with vm := s.vm } : State) [] (0 + 1) (0 + 6) := ⟨e1, e2⟩
    have h3 := X.same.trans h2
    rw [List.append_nil] at h3
    exact h3.mono hc hs
  refine ⟨U, ?_, .threw T.heap.size, hrun, hend, Or.inr ⟨T.heap.size, rfl, cls, ce, locs, hx U hWs.alike f1 (fun q hq => f2 q hq (fun z hz => nomatch hz)), hce, hO.vm, hcl, hWs, hall, hf⟩⟩
  refine st1 _ ?_
  show Steps p.tables e below (T1.setTop { method := m, pc := pc + 3, locals := ls, stack := .ref T.heap.size :: rest, locked := none }) _
  jvm_step X₁.here [X₁.here.top, hexec, d3', Value.category]
  exact hsteps
/-- 'throw new E("text")': new; dup; ldc; invokespecial; athrow -/
theorem vx_throwS {cc : ByteArray} {pc : Nat} (hexec : p.tables.exec = Jvm.exec) (hb : c.code = cc) (hl : l.stackTraces = false) {own cls text : String} {names : List String} {ik is ic mc ms sa : Nat} {A : Nat → Prop}
    (hown : s.vm.findClass own = some m.cls) (hcls : Bundle.fit cls = true) (hnames : ∀ n ∈ names, Bundle.fit n = true)
    (hk : (Cond.classLink own ik cls).before args s = true) (hini : (Cond.initialized cls).before args s = true) (hstr : vk_R own is text sa s) (hat : ∀ w ∈ vx_atS own ic cls names, w.before args s = true)
    (hgood : ∀ w ∈ Cond.classLink own ik cls :: Cond.initialized cls :: vx_atS own ic cls names, vx_ot w = true)
    (hU : vx_Zq Bundle.tN "UNASSIGNED_STACK" Bundle.steD A s s.heap) (hN : vx_Zq Bundle.tN "SUPPRESSED_SENTINEL" Bundle.listD A s s.heap) (hS : va_S A s.heap H locs) (hsize : ls.size = c.maxLocals)
    (d0 : decode cc pc = .ok (.new ik, 3)) (d3 : decode cc (pc + 3) = .ok (.dup, 1)) (d4 : decode cc (pc + 4) = .ok (.ldc is, 2)) (d6 : decode cc (pc + 6) = .ok (.invokespecial ic, 3)) (d9 : decode cc (pc + 9) = .ok (.athrow, 1))
    (hout : ∀ x ∈ c.exceptionTable.toList, covers x (pc + 9) = false)
    (hRframes : names.length + 3 < R.frames) (hRlocals : (rest.map fun v => v.category).sum + (13 * (names.length + 1) + 43) ≤ R.locals) (hRcells : cells + 1 ≤ R.cells) (hRslots : slots + 6 ≤ R.slots) (hlocks : meth.locks = false)
    (hx : ∀ t : State, s.vm.Alike t.vm → H.size ≤ t.heap.size → (∀ q : Nat, q < H.size → t.heap[q]? = H[q]?) → XC cls s t)
    (hf : ∀ z ∈ locs, free z.base) (hc : cells + 1 ≤ mc) (hs : slots + 6 ≤ ms) :
    W p l e R s m args below meth c H locs cells slots (vx_MQ below Qc XC args s mc ms free) (F0 m pc ls rest) := by
  intro T hT X
  have htr : e.platform.stackTraces = false := (show e.platform.stackTraces = l.stackTraces by rw [X.admits.platform]).trans hl
  have Y := vx_rebase X (R' := { frames := R.frames, locals := R.locals, cells := 1, slots := 6 }) (Nat.le_refl _) (Nat.le_refl _) hRcells hRslots
  obtain ⟨s', hA⟩ : ∃ z, z = (T.setVm s.vm).setFrames (.invoking m args :: below) := ⟨_, rfl⟩
  rw [← hA] at Y
  have hvm : s'.vm = s.vm := by rw [hA]; rfl
  have hhp : s'.heap = H := by rw [hA]; exact hT
  have hW0 : s.WarmedH s'.vm := by rw [hvm]; exact State.WarmedH.refl s
  have hat' : ∀ w ∈ vx_atS own ic cls names, w.before args s' = true := fun w hw => vx_ot_at hW0 hvm.symm (hgood w (List.mem_cons_of_mem _ (List.mem_cons_of_mem _ hw))) (hat w hw)
  have hk' : (Cond.classLink own ik cls).before args s' = true := vx_ot_at hW0 hvm.symm (hgood _ List.mem_cons_self) hk
  have hini' : (Cond.initialized cls).before args s' = true := vx_ot_at hW0 hvm.symm (hgood _ (List.mem_cons_of_mem _ List.mem_cons_self)) hini
  have hU' : vx_Zq Bundle.tN "UNASSIGNED_STACK" Bundle.steD A s' s'.heap := by rw [hhp]; exact vx_Zq.moved hW0.alike (hU.kept hS.2.1)
  have hN' : vx_Zq Bundle.tN "SUPPRESSED_SENTINEL" Bundle.listD A s' s'.heap := by rw [hhp]; exact vx_Zq.moved hW0.alike (hN.kept hS.2.1)
  have h : ∀ w ∈ Bundle.ownAtoms own ic cls names, w.before args s' = true := vx_own hat' (vx_isRefq hU'.1) (vx_isRefq hN'.1) hU'.2.word hN'.2.word
  have hown' : s'.vm.findClass own = some m.cls := by rw [hvm]; exact hown
  have hins : (Cond.instantiable cls 6).before args s' = true := h _ (by simp [Bundle.ownAtoms])
  obtain ⟨vm₁, cX, kX, hfX, hkX, -, -, X₁, st1⟩ := Y.newCold hexec (own := own) (C := cls) (index := ik) (n := 6) hown' hk' hins hini'
    (g := F0 m pc ls rest) rfl (by rw [hb]; exact d0) (Nat.le_refl _) (Nat.le_refl _)
  generalize hT1 : (T.setVm vm₁).pushCell { cls := cX, slots := kX.instanceTypes.map defaultValue, vm := .none } = T1 at X₁ st1
  have hcat : (Value.ref T.heap.size).category = 1 := rfl
  have hcellA : T1.heap[T.heap.size]? = some (freshCell cX kX) := by rw [← hT1]; exact State.heap_pushCell_size _ _
  have d3' : decode c.code (pc + 3) = .ok (.dup, 1) := by rw [hb]; exact d3
  have d4' : decode c.code (pc + 4) = .ok (.ldc is, 2) := by rw [hb]; exact d4
  have hstr' : vk_R own is text sa s' := vk_R.warm hW0 hstr
  obtain ⟨U, hsteps, hrun, hend, hW, hsame, ce, hce, hO⟩ := X₁.ctorThrowS hexec htr (own := own) (cls := cls) (names := names) (ic := ic) hown' hcls hnames h (fun x hx => nomatch hx) hfX hkX hcellA (by rw [hhp, hT]; exact Nat.le_refl _) (msg := .ref sa) rfl
    (g := { method := m, pc := pc + 6, locals := ls, stack := .ref sa :: .ref T.heap.size :: .ref T.heap.size :: rest, locked := none }) rfl hsize rfl rfl (rest := rest) rfl
    (by rw [hb]; exact d6) (by rw [hb]; exact d9) hout hRframes (by simp only [List.map_cons, List.sum_cons, hcat]; omega) hlocks
  obtain ⟨f1, f2⟩ := vx_frame hsame
  rw [hhp] at f1 f2
  have hWs : s.WarmedH U.vm := State.WarmedH.trans hW0 hW
  have hcl : s.vm.findClass cls = some ce.cls := by
    have h9 := hO.cls
    rw [hvm] at h9
    exact h9
  have hall : s.sameButNew ({ U with vm := s.vm } : State) locs mc ms := by
    subst hA
    obtain ⟨e1, e2⟩ := hsame
    rw [State.setFrames_setFrames] at e1
    have h2 : (T.setVm s.vm).sameButNew ({ U with vm := s.vm } : State) [] (0 + 1) (0 + 6) := ⟨e1, e2⟩
    have h3 := X.same.trans h2
    rw [List.append_nil] at h3
    exact h3.mono hc hs
  refine ⟨U, ?_, .threw T.heap.size, hrun, hend, Or.inr ⟨T.heap.size, rfl, cls, ce, locs, hx U hWs.alike f1 (fun q hq => f2 q hq (fun z hz => nomatch hz)), hce, hO.vm, hcl, hWs, hall, hf⟩⟩
  refine st1 _ ?_
  show Steps p.tables e below (T1.setTop { method := m, pc := pc + 3, locals := ls, stack := .ref T.heap.size :: rest, locked := none }) _
  jvm_step X₁.here [X₁.here.top, hexec, d3', Value.category]
  exact X₁.ldcString hexec (own := own) (text := text) (index := is) (a := sa) hown' hstr'.1 hstr'.2
    (g := { method := m, pc := pc + 4, locals := ls, stack := .ref T.heap.size :: .ref T.heap.size :: rest, locked := none }) rfl d4' _ hsteps
/-- 'throw new E("text")', the text by a wide index -/
theorem vx_throwSW {cc : ByteArray} {pc : Nat} (hexec : p.tables.exec = Jvm.exec) (hb : c.code = cc) (hl : l.stackTraces = false) {own cls text : String} {names : List String} {ik is ic mc ms sa : Nat} {A : Nat → Prop}
    (hown : s.vm.findClass own = some m.cls) (hcls : Bundle.fit cls = true) (hnames : ∀ n ∈ names, Bundle.fit n = true)
    (hk : (Cond.classLink own ik cls).before args s = true) (hini : (Cond.initialized cls).before args s = true) (hstr : vk_R own is text sa s) (hat : ∀ w ∈ vx_atS own ic cls names, w.before args s = true)
    (hgood : ∀ w ∈ Cond.classLink own ik cls :: Cond.initialized cls :: vx_atS own ic cls names, vx_ot w = true)
    (hU : vx_Zq Bundle.tN "UNASSIGNED_STACK" Bundle.steD A s s.heap) (hN : vx_Zq Bundle.tN "SUPPRESSED_SENTINEL" Bundle.listD A s s.heap) (hS : va_S A s.heap H locs) (hsize : ls.size = c.maxLocals)
    (d0 : decode cc pc = .ok (.new ik, 3)) (d3 : decode cc (pc + 3) = .ok (.dup, 1)) (d4 : decode cc (pc + 4) = .ok (.ldc_w is, 3)) (d7 : decode cc (pc + 7) = .ok (.invokespecial ic, 3)) (d10 : decode cc (pc + 10) = .ok (.athrow, 1))
    (hout : ∀ x ∈ c.exceptionTable.toList, covers x (pc + 10) = false)
    (hRframes : names.length + 3 < R.frames) (hRlocals : (rest.map fun v => v.category).sum + (13 * (names.length + 1) + 43) ≤ R.locals) (hRcells : cells + 1 ≤ R.cells) (hRslots : slots + 6 ≤ R.slots) (hlocks : meth.locks = false)
    (hx : ∀ t : State, s.vm.Alike t.vm → H.size ≤ t.heap.size → (∀ q : Nat, q < H.size → t.heap[q]? = H[q]?) → XC cls s t)
    (hf : ∀ z ∈ locs, free z.base) (hc : cells + 1 ≤ mc) (hs : slots + 6 ≤ ms) :
    W p l e R s m args below meth c H locs cells slots (vx_MQ below Qc XC args s mc ms free) (F0 m pc ls rest) := by
  intro T hT X
  have htr : e.platform.stackTraces = false := (show e.platform.stackTraces = l.stackTraces by rw [X.admits.platform]).trans hl
  have Y := vx_rebase X (R' := { frames := R.frames, locals := R.locals, cells := 1, slots := 6 }) (Nat.le_refl _) (Nat.le_refl _) hRcells hRslots
  obtain ⟨s', hA⟩ : ∃ z, z = (T.setVm s.vm).setFrames (.invoking m args :: below) := ⟨_, rfl⟩
  rw [← hA] at Y
  have hvm : s'.vm = s.vm := by rw [hA]; rfl
  have hhp : s'.heap = H := by rw [hA]; exact hT
  have hW0 : s.WarmedH s'.vm := by rw [hvm]; exact State.WarmedH.refl s
  have hat' : ∀ w ∈ vx_atS own ic cls names, w.before args s' = true := fun w hw => vx_ot_at hW0 hvm.symm (hgood w (List.mem_cons_of_mem _ (List.mem_cons_of_mem _ hw))) (hat w hw)
  have hk' : (Cond.classLink own ik cls).before args s' = true := vx_ot_at hW0 hvm.symm (hgood _ List.mem_cons_self) hk
  have hini' : (Cond.initialized cls).before args s' = true := vx_ot_at hW0 hvm.symm (hgood _ (List.mem_cons_of_mem _ List.mem_cons_self)) hini
  have hU' : vx_Zq Bundle.tN "UNASSIGNED_STACK" Bundle.steD A s' s'.heap := by rw [hhp]; exact vx_Zq.moved hW0.alike (hU.kept hS.2.1)
  have hN' : vx_Zq Bundle.tN "SUPPRESSED_SENTINEL" Bundle.listD A s' s'.heap := by rw [hhp]; exact vx_Zq.moved hW0.alike (hN.kept hS.2.1)
  have h : ∀ w ∈ Bundle.ownAtoms own ic cls names, w.before args s' = true := vx_own hat' (vx_isRefq hU'.1) (vx_isRefq hN'.1) hU'.2.word hN'.2.word
  have hown' : s'.vm.findClass own = some m.cls := by rw [hvm]; exact hown
  have hins : (Cond.instantiable cls 6).before args s' = true := h _ (by simp [Bundle.ownAtoms])
  obtain ⟨vm₁, cX, kX, hfX, hkX, -, -, X₁, st1⟩ := Y.newCold hexec (own := own) (C := cls) (index := ik) (n := 6) hown' hk' hins hini'
    (g := F0 m pc ls rest) rfl (by rw [hb]; exact d0) (Nat.le_refl _) (Nat.le_refl _)
  generalize hT1 : (T.setVm vm₁).pushCell { cls := cX, slots := kX.instanceTypes.map defaultValue, vm := .none } = T1 at X₁ st1
  have hcat : (Value.ref T.heap.size).category = 1 := rfl
  have hcellA : T1.heap[T.heap.size]? = some (freshCell cX kX) := by rw [← hT1]; exact State.heap_pushCell_size _ _
  have d3' : decode c.code (pc + 3) = .ok (.dup, 1) := by rw [hb]; exact d3
  have d4' : decode c.code (pc + 4) = .ok (.ldc_w is, 3) := by rw [hb]; exact d4
  have hstr' : vk_R own is text sa s' := vk_R.warm hW0 hstr
  obtain ⟨U, hsteps, hrun, hend, hW, hsame, ce, hce, hO⟩ := X₁.ctorThrowS hexec htr (own := own) (cls := cls) (names := names) (ic := ic) hown' hcls hnames h (fun x hx => nomatch hx) hfX hkX hcellA (by rw [hhp, hT]; exact Nat.le_refl _) (msg := .ref sa) rfl
    (g := { method := m, pc := pc + 7, locals := ls, stack := .ref sa :: .ref T.heap.size :: .ref T.heap.size :: rest, locked := none }) rfl hsize rfl rfl (rest := rest) rfl
    (by rw [hb]; exact d7) (by rw [hb]; exact d10) hout hRframes (by simp only [List.map_cons, List.sum_cons, hcat]; omega) hlocks
  obtain ⟨f1, f2⟩ := vx_frame hsame
  rw [hhp] at f1 f2
  have hWs : s.WarmedH U.vm := State.WarmedH.trans hW0 hW
  have hcl : s.vm.findClass cls = some ce.cls := by
    have h9 := hO.cls
    rw [hvm] at h9
    exact h9
  have hall : s.sameButNew ({ U with vm := s.vm } : State) locs mc ms := by
    subst hA
    obtain ⟨e1, e2⟩ := hsame
    rw [State.setFrames_setFrames] at e1
    have h2 : (T.setVm s.vm).sameButNew ({ U with vm := s.vm } : State) [] (0 + 1) (0 + 6) := ⟨e1, e2⟩
    have h3 := X.same.trans h2
    rw [List.append_nil] at h3
    exact h3.mono hc hs
  refine ⟨U, ?_, .threw T.heap.size, hrun, hend, Or.inr ⟨T.heap.size, rfl, cls, ce, locs, hx U hWs.alike f1 (fun q hq => f2 q hq (fun z hz => nomatch hz)), hce, hO.vm, hcl, hWs, hall, hf⟩⟩
  refine st1 _ ?_
  show Steps p.tables e below (T1.setTop { method := m, pc := pc + 3, locals := ls, stack := .ref T.heap.size :: rest, locked := none }) _
  jvm_step X₁.here [X₁.here.top, hexec, d3', Value.category]
  exact X₁.ldcStringW hexec (own := own) (text := text) (index := is) (a := sa) hown' hstr'.1 hstr'.2
    (g := { method := m, pc := pc + 4, locals := ls, stack := .ref T.heap.size :: .ref T.heap.size :: rest, locked := none }) rfl d4' _ hsteps
end Ends
section Bodies
variable {l : Launch}
theorem vx_ofW {y : MethodName} {ws ws' : List Cond} {rm : Room} {Pc : Array Value → State → Prop} {Qc : Array Value → State → Outcome → State → Prop} {XC : String → State → State → Prop} {mc ms : Nat} {free : Addr → Prop} {cc : ByteArray} {maxL : Nat} {ret : Option FieldType}
    (hy : plainName y.cls = true) (hw : ws = Cond.code y cc maxL ret :: ws')
    (body : ∀ p e s m args below meth c s₁, BodyLoose p l y (headSpec ws rm) cc maxL ret e s m args below meth c s₁ → c.maxLocals = maxL → (∀ x ∈ c.exceptionTable.toList, False) → Pc args s →
      W p l e (headSpec ws rm).room s m args below meth c s.heap [] 0 0 (vx_MQ below Qc XC args s mc ms free) (entryFrame m args maxL)) : vx_Met l y ws rm Pc Qc XC mc ms free := by
  refine MetFree.of_bodyS (code := cc) (maxLocals := maxL) (ret := ret) hy ?_ ?_
  · intro args s m h hn
    obtain ⟨meth, c, h1, h2, h3, h4, h5, h6, -, -⟩ := Cond.code_spec hn (atoms_spec (ws := ws) h _ (by rw [hw]; exact List.mem_cons_self))
    exact ⟨meth, c, h1, h2, h3, h4, h5, h6⟩
  · intro p e s m args below meth c s₁ B hml hP _
    have hh0 : s₁.heap = s.heap := by rw [B.state]; rfl
    have ht : ∀ x ∈ c.exceptionTable.toList, False := by
      obtain ⟨meth9, c9, h1, h2, -, -, -, -, h7, -⟩ := Cond.code_spec B.named (atoms_spec (ws := ws) B.pre _ (by rw [hw]; exact List.mem_cons_self))
      cases Option.some.inj (h1.symm.trans B.method)
      cases Option.some.inj (h2.symm.trans (Stand.of_body B).code)
      intro x hx
      rw [Array.isEmpty_iff.mp h7] at hx
      cases hx
    obtain ⟨t, a1, o, b1, b2, b3⟩ := body p e s m args below meth c s₁ B hml ht hP s₁ hh0 (Stand.of_body B)
    exact ⟨t, o, a1, b1, b2, b3⟩
/-- the table of a body with handlers -/
theorem vx_table {p : Program} {x y : MethodName} {S : Spec} {cc bytes : ByteArray} {maxL maxL' : Nat} {ret ret' : Option FieldType} {e : Env} {s s₁ : State} {m : MethodId} {args : Array Value} {below : List Frame} {meth : Method} {c : Code} {hh : List (Nat × Nat × Nat × Nat)}
    (B : BodyLoose p l y S cc maxL ret e s m args below meth c s₁) (h : (Cond.codeWith y bytes maxL' ret' hh).before args s = true) : c.exceptionTable.toList = tableOf hh := by
  obtain ⟨m9, meth9, c9, hn9, h1, h2, -, -, h6, -⟩ := Cond.codeWith_spec h
  cases Option.some.inj (hn9.symm.trans B.named)
  cases Option.some.inj (h1.symm.trans B.method)
  cases Option.some.inj (h2.symm.trans (Stand.of_body B).code)
  rw [← h6, table_eq]
end Bodies
end VXA
/-! ===== END ===== -/
/-! ===== BEGIN a static call of a method with an exception table ===== -/
section VXS
variable {p : Program} {l : Launch} {e : Env} {R : Room} {s : State} {m : MethodId} {args : Array Value} {below : List Frame} {meth : Method} {c : Code} {T : State} {H : Heap} {locs : List Loc} {cells slots : Nat}
abbrev vx_CSW (R : Room) (s : State) (args : Array Value) (own : String) (index : Nat) (y : MethodName) (bytes : ByteArray) (maxL : Nat) (ret : Option FieldType) (hh : List (Nat × Nat × Nat × Nat)) (ws : List Cond) (rm : Room) (mc ms n : Nat) : Prop :=
  (rm.cells = mc ∧ rm.slots = ms ∧ rm.frames + 1 ≤ R.frames ∧ 8 + (maxL + 11) + rm.locals ≤ R.locals ∧ (∀ w ∈ ws, ∀ (a' : Array Value) (U : State), s.WarmedH U.vm → w.before a' U = true) ∧ Cond.codeWith y bytes maxL ret hh ∈ ws) ∧
  (Cond.codeWith y bytes maxL ret hh).before args s = true ∧ (Cond.initialized y.cls).before args s = true ∧ (y.cls ≠ "java/lang/invoke/MethodHandle" ∧ y.cls ≠ "java/lang/invoke/VarHandle") ∧
  (∀ sig, parseMethodDescriptor y.desc = some sig → n = sig.parameters.length) ∧ (Cond.methodLink own index y).before args s = true ∧ (Cond.static y).before args s = true
theorem vx_cwSW {own : String} {index maxL mc ms : Nat} {y : MethodName} {bytes : ByteArray} {ret : Option FieldType} {hh : List (Nat × Nat × Nat × Nat)} {Ts ws ws' : List Cond} {rm : Room} (n : Nat) (ht : ∀ w ∈ Ts, w.before args s = true) (hT : GoodIn Ts (va_wsS own index y ws)) (hw : ws = Cond.codeWith y bytes maxL ret hh :: ws') (hrc : rm.cells = mc) (hrs : rm.slots = ms)
    (hd : y.cls ≠ "java/lang/invoke/MethodHandle" ∧ y.cls ≠ "java/lang/invoke/VarHandle" ∧ (parseMethodDescriptor y.desc).map (fun d => d.parameters.length) = some n) (hR : rm.frames + 1 ≤ R.frames ∧ 8 + (maxL + 11) + rm.locals ≤ R.locals) :
    vx_CSW R s args own index y bytes maxL ret hh ws rm mc ms n := by
  have ok : ∀ w ∈ va_wsS own index y ws, w.before args s = true := fun w h => ht w (hT w h).1
  have hG : GoodIn Ts ws := fun w h => hT w (by unfold va_wsS; exact List.mem_append_right _ h)
  have hc : Cond.codeWith y bytes maxL ret hh ∈ ws := by rw [hw]; exact List.mem_cons_self
  refine ⟨⟨hrc, hrs, hR.1, hR.2, pay_in ht hG, hc⟩, ht _ (hG _ hc).1, ok _ (by simp [va_wsS]), ⟨hd.1, hd.2.1⟩, fun sig h => ?_, ok _ (by simp [va_wsS]), ok _ (by simp [va_wsS])⟩
  have h2 := hd.2.2
  rw [h] at h2
  exact (Option.some.inj h2).symm
theorem vx_callSW (X : Stand p l e R s m args below meth c T locs cells slots) (hexec : p.tables.exec = Jvm.exec) {own : String} {index : Nat} {y : MethodName} {bytes : ByteArray} {maxL : Nat} {ret : Option FieldType} {hh : List (Nat × Nat × Nat × Nat)}
    (hown : s.vm.findClass own = some m.cls) (hlink : (Cond.methodLink own index y).before args s = true) (hstat : (Cond.static y).before args s = true) (hinit : (Cond.initialized y.cls).before args s = true)
    (hcode : (Cond.codeWith y bytes maxL ret hh).before args s = true) (hy : y.cls ≠ "java/lang/invoke/MethodHandle" ∧ y.cls ≠ "java/lang/invoke/VarHandle")
    {W9 : Nat} {Pre : Pt → Array Value → Prop} {Post : Pt → Array Value → Option Value → Pt → Prop} (hK : Back l R p e below s args y 3 W9 Pre Post)
    {g : JFrame} (hg : g.method = m) (hsize : g.locals.size = c.maxLocals) {argsL rest : List Value} (hlen : ∀ sig, parseMethodDescriptor y.desc = some sig → argsL.length = sig.parameters.length)
    (hstack : g.stack = argsL.reverse ++ rest) (hW : 2 * g.monitorRoom + (rest.map fun v => v.category).sum ≤ W9) (hdg : decode c.code g.pc = .ok (.invokestatic index, 3))
    (hpre : ∀ vm₁, s.WarmedH vm₁ → Pre ⟨T.setVm vm₁, locs, cells, slots⟩ argsL.toArray) :
    ∃ (v : Option Value) (vm₁ : Vm) (B : Pt), s.WarmedH vm₁ ∧ Stand p l e R s m args below meth c B.U B.locs B.cells B.slots ∧ Post ⟨T.setVm vm₁, locs, cells, slots⟩ argsL.toArray v B ∧
      ∀ target, Steps p.tables e below (B.U.setTop { g with pc := g.pc + 3, stack := v.toList ++ rest }) target → Steps p.tables e below (T.setTop g) target := by
  obtain ⟨mk, methM, cM, hnamed, hmethM, -, -, -, -, -, -, hsigM⟩ := Cond.codeWith_spec hcode
  have hstatic : methM.isStatic = true := Cond.static_spec hnamed hmethM hstat
  obtain ⟨kP, hkP, -⟩ := className_of_methodNamed hnamed
  have hinitP : kP.init = .initialized := Cond.initialized_spec (findClass_of_methodNamed hnamed) hkP hinit
  obtain ⟨vm₁, X₁, hstep₁⟩ := X.invokestatic hexec hown hlink hnamed hmethM hstatic hkP hinitP hy (g := g) hg (argsL := argsL) (rest := rest) (hlen _ hsigM) hstack hdg
  obtain ⟨v, B, X', hpost, hsteps⟩ := hK m meth c ⟨T.setVm vm₁, locs, cells, slots⟩ { g with stack := rest } (.invokestatic index) mk argsL.toArray X₁ hg hsize hdg hW (X₁.named hnamed) (hpre vm₁ X₁.warmed)
  exact ⟨v, vm₁, B, X₁.warmed, X', hpost, fun target h => hstep₁ _ fun acts => by rw [doInvoke_state]; exact hsteps.trans h⟩
theorem vx_runSW {y : MethodName} {bytes cc : ByteArray} {maxL nL mc ms n index : Nat} {ret : Option FieldType} {hh : List (Nat × Nat × Nat × Nat)} {ws : List Cond} {rm : Room} {Pc : Array Value → State → Prop} {Qc : Array Value → State → Outcome → State → Prop} {free : Addr → Prop} {Ts : List Cond} {own : String} {As rest : List Value} {g : JFrame}
    (S : CallFix p m c cc nL s args Ts own) (hM : Met l y ws rm Pc Qc mc ms free) (cw : vx_CSW R s args own index y bytes maxL ret hh ws rm mc ms n) (hp : PreS s H Pc As)
    (hg : g.method = m) (hn : As.length = n) (hsize : g.locals.size = nL) (hstack : g.stack = As.reverse ++ rest) (hW : 2 * g.monitorRoom + (rest.map fun v => v.category).sum ≤ 8) (hdg : decode cc g.pc = .ok (.invokestatic index, 3)) (hf : cells + mc ≤ R.cells ∧ slots + ms ≤ R.slots) :
    va_Run p l e R s m args below meth c H locs cells slots mc ms g rest (Qc As.toArray) (free) := by
  obtain ⟨⟨hrc, hrs, hfr, hlo, hws, hcw⟩, hcode, hini, hy, hlen, hl, hstt⟩ := cw
  have hK : Back l R p e below s args y 3 8 (PreOf R mc ms Pc) (PostOf Qc mc ms free) := va_backW (hh := hh) (bytes := bytes) (maxL := maxL) (ret := ret) hM hp.1 hrc hrs hfr hlo hws hcw (fun a' U hW => word_at hW (Or.inl (by first | rfl | simp [Cond.onTables, Cond.keeps, Cond.steady])) hini)
  obtain ⟨hx, hb, hml, ho, -⟩ := S
  intro T hT X
  obtain ⟨v, vm₁, ⟨U', l2, c2, s2⟩, hW₁, X', ⟨g', mk, t, L, e1, e2, hq, h1, hL, h2, h3⟩, st⟩ := vx_callSW X hx (hh := hh) (bytes := bytes) (maxL := maxL) (ret := ret) ho hl hstt hini hcode hy hK hg (hsize.trans hml.symm) (argsL := As) (rest := rest) (fun sig h => hn.trans (hlen sig h)) hstack hW (by rw [hb]; exact hdg)
    (fun vm₁ hW₁ => ⟨hf.1, hf.2, hp.2 (T.setVm vm₁) hT hW₁⟩)
  dsimp only [Pt.U, Pt.locs, Pt.cells, Pt.slots] at X' e1 e2 h1 h2 h3 st
  subst h1; subst h2; subst h3
  exact ⟨v, (T.setVm vm₁).calling g' mk As.toArray, t, U', L, hT, X', hL, e1, e2, hq, st⟩
/-- not caught here, past rows that name other classes: it goes on to the caller -/
theorem vx_outP {p : Program} {l : Launch} {e : Env} {R : Room} {s : State} {m : MethodId} {args : Array Value} {below : List Frame} {meth : Method} {c : Code} {H : Heap} {locs : List Loc} {cells slots : Nat} {free : Addr → Prop} {ls : Array Slot} {rest : List Value} {Qc : Array Value → State → Outcome → State → Prop} {XC : String → State → State → Prop}
    {pc : Nat} {own E : String} {ce : Cell} {q : Addr} {mc ms : Nat} (hown : s.vm.findClass own = some m.cls) (hlocks : meth.locks = false)
    (hpass : ∀ z ∈ c.exceptionTable.toList, covers z pc = false ∨ (z.catchType ≠ 0 ∧ ∃ nm : String, (Cond.classLink own z.catchType nm).before args s = true ∧ va_Nc E nm s)) (hcell : H[q]? = some ce) (hv : ce.vm = .none) (hcl : s.vm.findClass E = some ce.cls)
    (hx : ∀ t : State, t.heap = H → s.vm.Alike t.vm → XC E s t) (hf : ∀ z ∈ locs, free z.base) (hc : cells ≤ mc) (hs : slots ≤ ms) :
    vx_W p l e R s m args below meth c H locs cells slots (vx_MQ below Qc XC args s mc ms free) (F0 m pc ls rest) q := by
  intro T hT X
  have hpl : e.platform.magicAccessors = ({} : Platform).magicAccessors := by rw [X.admits.platform]
  obtain ⟨vm', hW', X', st⟩ := X.outThrough hlocks q (g := F0 m pc ls rest) rfl rfl rfl (cell := ce) (by rw [hT]; exact hcell) (by rw [hv]; rfl)
    (by obtain ⟨k9, h9, -⟩ := Vm.findClass_spec hcl; exact ⟨k9, h9⟩) (fun z hz => by
      rcases hpass z hz with h | ⟨hz0, nm, hl1, hn1⟩
      · exact Or.inl h
      · obtain ⟨c6, hc6, hcl6⟩ := Cond.classLink_spec hown hl1 e.platform hpl
        obtain ⟨a8, b8, h1, h2, h3⟩ := hn1
        cases Option.some.inj (h1.symm.trans hcl)
        cases Option.some.inj (h2.symm.trans hc6)
        exact Or.inr ⟨hz0, _, hcl6, h3⟩)
  obtain ⟨g₀, hfr⟩ := X'.frames_eq
  have hcell9 : ((T.setVm vm').setFrames (.throwing q :: below)).heap[q]? = some ce := by
    show T.heap[q]? = some ce
    rw [hT]; exact hcell
  have hend : Ended ((T.setVm vm').setFrames (.throwing q :: below)) below (.threw q) := State.frames_setFrames _ (State.cur_lt_of_frames hfr)
  refine ⟨(T.setVm vm').setFrames (.throwing q :: below), ?_, .threw q, X'.here.running, hend, Or.inr ⟨q, rfl, E, ce, locs, hx _ hT (X'.ends _).1.alike, hcell9, hv, hcl, (X'.ends _).1, (X'.ends _).2.mono hc hs, hf⟩⟩
  rw [X.pushThrowing_eq]
  exact st
/-- a thing of a world lies in the heap -/
theorem vx_lt {D : va_G} {cl : List vw_C} {ws : va_W} {H1 : Heap} (h : va_P D cl ws H1) {k : Nat} {q : Nat × va_E} (hk : ws[k]? = some q) : q.1 < H1.size := (h k q hk).lt
end VXS
/-! ===== END ===== -/
/-! ===== BEGIN methods with a table of their own: called by a name, returning or throwing ===== -/
section VXH
/-! vx_backW, vx_callVX, vx_callSX, vx_callVW, vx_runVW, vx_runVX, vx_runSX, vx_ofWH follow the same proofs as their sisters above (Free/Laws.lean, Shelf42/LK1.lean); vx_outP calls Shelf42/NT130.lean (outThrough). -/
section
variable {l : Launch} {R : Room} {p : Program} {e : Env} {below : List Frame} {s : State} {sargs : Array Value} {y : MethodName} {len W9 : Nat}
theorem vx_backW {ws : List Cond} {rm : Room} {Pc : Array Value → State → Prop} {Qc : Array Value → State → Outcome → State → Prop} {XC : String → State → State → Prop} {mc ms : Nat} {free : Addr → Prop} {bytes : ByteArray} {maxL : Nat} {ret : Option FieldType} {hh : List (Nat × Nat × Nat × Nat)}
    (hM : vx_Met l y ws rm Pc Qc XC mc ms free) (hblind : FrameBlind Pc) (hrc : rm.cells = mc) (hrs : rm.slots = ms)
    (hframes : rm.frames + 1 ≤ R.frames) (hlocals : W9 + (maxL + 11) + rm.locals ≤ R.locals)
    (hws : ∀ w ∈ ws, ∀ a' U, s.WarmedH U.vm → w.before a' U = true) (hcode : Cond.codeWith y bytes maxL ret hh ∈ ws) (hinit : ∀ a' U, s.WarmedH U.vm → (Cond.initialized y.cls).before a' U = true) :
    vx_Back l R p e below s sargs y len W9 (PreOf R mc ms Pc) (PostOf Qc mc ms free) (vx_Post XC mc ms free) := by
  intro m meth c A g ig mk a X hg hsize hdg hW hn hp
  have h1 : (headSpec ws rm).pre.before a A.U = true := atoms_intro fun w hw => hws w hw _ _ X.warmed
  have h2 : (Cond.codeWith y bytes maxL ret hh).before a A.U = true := hws _ hcode _ _ X.warmed
  have h3 : (Cond.initialized y.cls).before a A.U = true := hinit _ _ X.warmed
  have h4 : A.cells + (headSpec ws rm).room.cells ≤ R.cells := by rw [show (headSpec ws rm).room.cells = mc from hrc]; exact hp.1
  have h5 : A.slots + (headSpec ws rm).room.slots ≤ R.slots := by rw [show (headSpec ws rm).room.slots = ms from hrs]; exact hp.2.1
  have hPc : Pc a (A.U.calling g mk a) := hblind _ _ _ _ hp.2.2
  obtain ⟨U, Ls, c0, s0⟩ := A
  dsimp only [Pt.U, Pt.locs, Pt.cells, Pt.slots] at h1 h2 h3 h4 h5 X hn hPc ⊢
  obtain ⟨m9, methY, cY, hn9, hmY, hcY, -, hlY, -⟩ := Cond.codeWith_spec h2
  cases Option.some.inj (hn9.symm.trans hn)
  obtain ⟨kY, hkY, -⟩ := className_of_methodNamed hn
  have hinitY : kY.init = .initialized := Cond.initialized_spec (findClass_of_methodNamed hn) hkY h3
  have h : At U g.method c below := by rw [hg]; exact X.here
  have hlocals9 : W9 + (maxL + 11) + (headSpec ws rm).room.locals ≤ R.locals := hlocals
  have happ : (headSpec ws rm).appliesLoose y e.platform (U.calling g mk a) = true :=
    Spec.appliesLoose_calling (g := g) h hdg hn hkY hinitY
      (X.room_calling (g := g) (R' := (headSpec ws rm).room) hsize hmY hcY hframes (by rw [hlY]; omega) h4 h5) h1
  obtain ⟨mid, hmid⟩ := h.above
  have hfr : (U.setTop g).frames = (.java g :: mid) ++ below := by rw [State.frames_setTop' g h.top, hmid]; rfl
  obtain ⟨o, s₂, hsteps, -, hend, hq⟩ := Steps.callFree hM p X.admits X.cas X.clock (acts := []) hfr happ hPc trivial
  have hq' : vx_Q Qc XC mc ms free a (U.calling g mk a) o s₂ := hq
  rw [State.frames_setTop' g h.top] at hend
  obtain ⟨g₀, hg0⟩ := Option.isSome_iff_exists.mp h.top
  obtain ⟨r, hr⟩ := State.topJava?_eq_some.mp hg0
  have hr' : (({ U with heap := s₂.heap, slotsUsed := s₂.slotsUsed } : State).setVm s₂.vm).frames = .java g₀ :: r := hr
  rcases hq' with ⟨hqc, L, hfe, hL⟩ | ⟨q, rfl, E, ce, L, hx, hce, hcv, hcl, hW₂, hsm, hL⟩
  · obtain ⟨⟨v, rfl⟩, hW₂, e2, q2, q3, q4, q5, q6⟩ := id hfe
    have e3 : s₂ = ({ (U.calling g mk a).setFrames s₂.frames with heap := s₂.heap, slotsUsed := s₂.slotsUsed } : State).setVm s₂.vm := by
      have : s₂ = ({ s₂ with vm := (U.calling g mk a).vm } : State).setVm s₂.vm := rfl
      rw [e2] at this
      exact this
    obtain ⟨c₂, i₂, len₂, hc₂, hd₂, hf₂⟩ := hend
    have hW' : U.WarmedH s₂.vm := hW₂
    have hcc : c₂ = c := by
      have h1 : s₂.code? g.method = U.code? g.method := by
        rw [State.code?_eq, State.code?_eq, hW'.alike.method?]
      exact Option.some.inj (hc₂.symm.trans (h1.trans h.code))
    subst hcc
    have hlen : len₂ = len := by rw [hdg] at hd₂; cases hd₂; rfl
    subst hlen
    have hs₂ : s₂ = (({ U with heap := s₂.heap, slotsUsed := s₂.slotsUsed } : State).setVm s₂.vm).setTop { g with pc := g.pc + len₂, stack := v.toList ++ g.stack } := by
      refine e3.trans ?_
      rw [hf₂, State.calling_eq h.top, State.setFrames_setFrames, State.setTop_of_frames _ hr', hr]
      rfl
    have hsame : U.sameButNew ({ U with heap := s₂.heap, slotsUsed := s₂.slotsUsed } : State) L mc ms := by
      refine ⟨?_, q2, q3, q4, q5, q6⟩
      obtain ⟨t, ht, -⟩ := State.frames_cons hr
      show ({ U with heap := s₂.heap, slotsUsed := s₂.slotsUsed } : State) = { U.setFrames U.frames with heap := s₂.heap, slotsUsed := s₂.slotsUsed }
      rw [State.setFrames_self ht]
    subst hg
    refine Or.inl ⟨v, ⟨(({ U with heap := s₂.heap, slotsUsed := s₂.slotsUsed } : State).setVm s₂.vm), Ls ++ L, c0 + mc, s0 + ms⟩,
      ⟨X.admits, X.cas, X.clock, X.frames, X.room, X.hears, X.method, X.code, (X.here.setHeapUsed s₂.heap s₂.slotsUsed).setVm hW'.alike, X.tail, State.WarmedH.trans X.warmed hW', X.limits, X.bytes, X.same.trans (hsame.setVm s.vm)⟩,
      ⟨g, mk, s₂, L, rfl, rfl, hqc, rfl, hL, rfl, rfl⟩, ?_⟩
    show Steps p.tables e below _ ((({ U with heap := s₂.heap, slotsUsed := s₂.slotsUsed } : State).setVm s₂.vm).setTop { g with pc := g.pc + len₂, stack := v.toList ++ g.stack })
    rw [← hs₂]
    exact hsteps
  · obtain ⟨e2, q2, q3, q4, q5, q6⟩ := id hsm
    have e3 : s₂ = ({ (U.calling g mk a).setFrames s₂.frames with heap := s₂.heap, slotsUsed := s₂.slotsUsed } : State).setVm s₂.vm := by
      have : s₂ = ({ s₂ with vm := (U.calling g mk a).vm } : State).setVm s₂.vm := rfl
      rw [e2] at this
      exact this
    have hf₂ : s₂.frames = .throwing q :: .java g :: U.frames.tail := hend
    have hW' : U.WarmedH s₂.vm := hW₂
    have hs₂ : s₂ = ((({ U with heap := s₂.heap, slotsUsed := s₂.slotsUsed } : State).setVm s₂.vm).setTop g).pushFrame (.throwing q) := by
      refine e3.trans ?_
      rw [hf₂, State.calling_eq h.top, State.setFrames_setFrames, State.pushFrame, State.frames_setTop _ hr', State.setTop_of_frames _ hr', State.setFrames_setFrames, hr]
      rfl
    have hsame : U.sameButNew ({ U with heap := s₂.heap, slotsUsed := s₂.slotsUsed } : State) L mc ms := by
      refine ⟨?_, q2, q3, q4, q5, q6⟩
      obtain ⟨t, ht, -⟩ := State.frames_cons hr
      show ({ U with heap := s₂.heap, slotsUsed := s₂.slotsUsed } : State) = { U.setFrames U.frames with heap := s₂.heap, slotsUsed := s₂.slotsUsed }
      rw [State.setFrames_self ht]
    subst hg
    refine Or.inr ⟨q, ⟨(({ U with heap := s₂.heap, slotsUsed := s₂.slotsUsed } : State).setVm s₂.vm), Ls ++ L, c0 + mc, s0 + ms⟩,
      ⟨X.admits, X.cas, X.clock, X.frames, X.room, X.hears, X.method, X.code, (X.here.setHeapUsed s₂.heap s₂.slotsUsed).setVm hW'.alike, X.tail, State.WarmedH.trans X.warmed hW', X.limits, X.bytes, X.same.trans (hsame.setVm s.vm)⟩,
      ⟨g, mk, s₂, L, E, ce, rfl, rfl, hx, hce, hcv, hcl, rfl, hL, rfl, rfl⟩, ?_⟩
    show Steps p.tables e below _ (((({ U with heap := s₂.heap, slotsUsed := s₂.slotsUsed } : State).setVm s₂.vm).setTop g).pushFrame (.throwing q))
    rw [← hs₂]
    exact hsteps
end
variable {p : Program} {l : Launch} {e : Env} {R : Room} {s : State} {m : MethodId} {args : Array Value} {below : List Frame} {meth : Method} {c : Code} {T : State} {H : Heap} {locs : List Loc} {cells slots : Nat}
theorem vx_callVX (X : Stand p l e R s m args below meth c T locs cells slots) (hexec : p.tables.exec = Jvm.exec) {own C : String} {index : Nat} {y : MethodName} {bytes : ByteArray} {maxL : Nat} {ret : Option FieldType} {hh : List (Nat × Nat × Nat × Nat)}
    (hown : s.vm.findClass own = some m.cls) (hlink : (Cond.methodLink own index y).before args s = true) (hinst : (Cond.instanceMethod y).before args s = true) (hsel : (Cond.selects C y y).before args s = true)
    (hcode : (Cond.codeWith y bytes maxL ret hh).before args s = true) (hy : y.cls ≠ "java/lang/invoke/MethodHandle" ∧ y.cls ≠ "java/lang/invoke/VarHandle")
    {W9 : Nat} {Pre : Pt → Array Value → Prop} {Post : Pt → Array Value → Option Value → Pt → Prop} {PostX : Pt → Array Value → Addr → Pt → Prop} (hK : vx_Back l R p e below s args y 3 W9 Pre Post PostX)
    {b : Addr} {cellB : Cell} (hcell : T.heap[b]? = some cellB) (hobj : cellB.vm.isStatics = false) (hcls : s.vm.findClass C = some cellB.cls)
    {g : JFrame} (hg : g.method = m) (hsize : g.locals.size = c.maxLocals) {argsL rest : List Value} (hlen : ∀ sig, parseMethodDescriptor y.desc = some sig → argsL.length = sig.parameters.length)
    (hstack : g.stack = argsL.reverse ++ .ref b :: rest) (hW : 2 * g.monitorRoom + (rest.map fun v => v.category).sum ≤ W9) (hdg : decode c.code g.pc = .ok (.invokevirtual index, 3))
    (hpre : ∀ vm₁, s.WarmedH vm₁ → Pre ⟨T.setVm vm₁, locs, cells, slots⟩ (Value.ref b :: argsL).toArray) :
    (∃ (v : Option Value) (vm₁ : Vm) (B : Pt), s.WarmedH vm₁ ∧ Stand p l e R s m args below meth c B.U B.locs B.cells B.slots ∧ Post ⟨T.setVm vm₁, locs, cells, slots⟩ (Value.ref b :: argsL).toArray v B ∧
      ∀ target, Steps p.tables e below (B.U.setTop { g with pc := g.pc + 3, stack := v.toList ++ rest }) target → Steps p.tables e below (T.setTop g) target) ∨
    (∃ (q : Addr) (vm₁ : Vm) (B : Pt), s.WarmedH vm₁ ∧ Stand p l e R s m args below meth c B.U B.locs B.cells B.slots ∧ PostX ⟨T.setVm vm₁, locs, cells, slots⟩ (Value.ref b :: argsL).toArray q B ∧
      Steps p.tables e below (T.setTop g) ((B.U.setTop { g with stack := rest }).pushFrame (.throwing q))) := by
  obtain ⟨mk, methM, hnamed, hmethM, hstM, habM⟩ := Cond.instanceMethod_spec hinst
  obtain ⟨m8, methM', cM, hn8, hmethM', -, -, -, -, -, -, hsigM⟩ := Cond.codeWith_spec hcode
  cases Option.some.inj (hn8.symm.trans hnamed)
  cases hmethM.symm.trans hmethM'
  obtain ⟨c2, r2, m2, q1, q2, q3, q4, kP, hkP, hkPi⟩ := Cond.selects_spec hsel
  cases hcls.symm.trans q1
  cases (State.methodFound?_of_named hnamed hy).symm.trans q2
  cases hnamed.symm.trans q3
  have hselP : selectMethod e.platform s.vm cellB.cls mk = .method mk := by rw [Launch.admits_selectMethod X.admits]; exact q4
  obtain ⟨vm₁, X₁, hstep₁⟩ := X.invokevirtual hexec hown hlink hnamed hmethM hstM hkP hkPi hy (a := b) (cell := cellB) hcell
    (fun z h => by rw [h] at hobj; cases hobj) hselP hmethM habM hkP hkPi (g := g) hg (argsL := argsL) (rest := rest) (hlen _ hsigM) hstack hdg
  rcases hK m meth c ⟨T.setVm vm₁, locs, cells, slots⟩ { g with stack := rest } (.invokevirtual index) mk (Value.ref b :: argsL).toArray X₁ hg hsize hdg hW (X₁.named hnamed) (hpre vm₁ X₁.warmed) with ⟨v, B, X', hpost, hsteps⟩ | ⟨q, B, X', hpost, hsteps⟩
  · exact Or.inl ⟨v, vm₁, B, X₁.warmed, X', hpost, fun target h => hstep₁ _ fun acts => by rw [doInvoke_state]; exact hsteps.trans h⟩
  · exact Or.inr ⟨q, vm₁, B, X₁.warmed, X', hpost, hstep₁ _ fun acts => by rw [doInvoke_state]; exact hsteps⟩
theorem vx_callSX (X : Stand p l e R s m args below meth c T locs cells slots) (hexec : p.tables.exec = Jvm.exec) {own : String} {index : Nat} {y : MethodName} {bytes : ByteArray} {maxL : Nat} {ret : Option FieldType} {hh : List (Nat × Nat × Nat × Nat)}
    (hown : s.vm.findClass own = some m.cls) (hlink : (Cond.methodLink own index y).before args s = true) (hstat : (Cond.static y).before args s = true) (hinit : (Cond.initialized y.cls).before args s = true)
    (hcode : (Cond.codeWith y bytes maxL ret hh).before args s = true) (hy : y.cls ≠ "java/lang/invoke/MethodHandle" ∧ y.cls ≠ "java/lang/invoke/VarHandle")
    {W9 : Nat} {Pre : Pt → Array Value → Prop} {Post : Pt → Array Value → Option Value → Pt → Prop} {PostX : Pt → Array Value → Addr → Pt → Prop} (hK : vx_Back l R p e below s args y 3 W9 Pre Post PostX)
    {g : JFrame} (hg : g.method = m) (hsize : g.locals.size = c.maxLocals) {argsL rest : List Value} (hlen : ∀ sig, parseMethodDescriptor y.desc = some sig → argsL.length = sig.parameters.length)
    (hstack : g.stack = argsL.reverse ++ rest) (hW : 2 * g.monitorRoom + (rest.map fun v => v.category).sum ≤ W9) (hdg : decode c.code g.pc = .ok (.invokestatic index, 3))
    (hpre : ∀ vm₁, s.WarmedH vm₁ → Pre ⟨T.setVm vm₁, locs, cells, slots⟩ argsL.toArray) :
    (∃ (v : Option Value) (vm₁ : Vm) (B : Pt), s.WarmedH vm₁ ∧ Stand p l e R s m args below meth c B.U B.locs B.cells B.slots ∧ Post ⟨T.setVm vm₁, locs, cells, slots⟩ argsL.toArray v B ∧
      ∀ target, Steps p.tables e below (B.U.setTop { g with pc := g.pc + 3, stack := v.toList ++ rest }) target → Steps p.tables e below (T.setTop g) target) ∨
    (∃ (q : Addr) (vm₁ : Vm) (B : Pt), s.WarmedH vm₁ ∧ Stand p l e R s m args below meth c B.U B.locs B.cells B.slots ∧ PostX ⟨T.setVm vm₁, locs, cells, slots⟩ argsL.toArray q B ∧
      Steps p.tables e below (T.setTop g) ((B.U.setTop { g with stack := rest }).pushFrame (.throwing q))) := by
  obtain ⟨mk, methM, cM, hnamed, hmethM, -, -, -, -, -, -, hsigM⟩ := Cond.codeWith_spec hcode
  have hstatic : methM.isStatic = true := Cond.static_spec hnamed hmethM hstat
  obtain ⟨kP, hkP, -⟩ := className_of_methodNamed hnamed
  have hinitP : kP.init = .initialized := Cond.initialized_spec (findClass_of_methodNamed hnamed) hkP hinit
  obtain ⟨vm₁, X₁, hstep₁⟩ := X.invokestatic hexec hown hlink hnamed hmethM hstatic hkP hinitP hy (g := g) hg (argsL := argsL) (rest := rest) (hlen _ hsigM) hstack hdg
  rcases hK m meth c ⟨T.setVm vm₁, locs, cells, slots⟩ { g with stack := rest } (.invokestatic index) mk argsL.toArray X₁ hg hsize hdg hW (X₁.named hnamed) (hpre vm₁ X₁.warmed) with ⟨v, B, X', hpost, hsteps⟩ | ⟨q, B, X', hpost, hsteps⟩
  · exact Or.inl ⟨v, vm₁, B, X₁.warmed, X', hpost, fun target h => hstep₁ _ fun acts => by rw [doInvoke_state]; exact hsteps.trans h⟩
  · exact Or.inr ⟨q, vm₁, B, X₁.warmed, X', hpost, hstep₁ _ fun acts => by rw [doInvoke_state]; exact hsteps⟩
theorem vx_callVW (X : Stand p l e R s m args below meth c T locs cells slots) (hexec : p.tables.exec = Jvm.exec) {own C : String} {index : Nat} {y : MethodName} {bytes : ByteArray} {maxL : Nat} {ret : Option FieldType} {hh : List (Nat × Nat × Nat × Nat)}
    (hown : s.vm.findClass own = some m.cls) (hlink : (Cond.methodLink own index y).before args s = true) (hinst : (Cond.instanceMethod y).before args s = true) (hsel : (Cond.selects C y y).before args s = true)
    (hcode : (Cond.codeWith y bytes maxL ret hh).before args s = true) (hy : y.cls ≠ "java/lang/invoke/MethodHandle" ∧ y.cls ≠ "java/lang/invoke/VarHandle")
    {W9 : Nat} {Pre : Pt → Array Value → Prop} {Post : Pt → Array Value → Option Value → Pt → Prop} (hK : Back l R p e below s args y 3 W9 Pre Post)
    {b : Addr} {cellB : Cell} (hcell : T.heap[b]? = some cellB) (hobj : cellB.vm.isStatics = false) (hcls : s.vm.findClass C = some cellB.cls)
    {g : JFrame} (hg : g.method = m) (hsize : g.locals.size = c.maxLocals) {argsL rest : List Value} (hlen : ∀ sig, parseMethodDescriptor y.desc = some sig → argsL.length = sig.parameters.length)
    (hstack : g.stack = argsL.reverse ++ .ref b :: rest) (hW : 2 * g.monitorRoom + (rest.map fun v => v.category).sum ≤ W9) (hdg : decode c.code g.pc = .ok (.invokevirtual index, 3))
    (hpre : ∀ vm₁, s.WarmedH vm₁ → Pre ⟨T.setVm vm₁, locs, cells, slots⟩ (Value.ref b :: argsL).toArray) :
    ∃ (v : Option Value) (vm₁ : Vm) (B : Pt), s.WarmedH vm₁ ∧ Stand p l e R s m args below meth c B.U B.locs B.cells B.slots ∧ Post ⟨T.setVm vm₁, locs, cells, slots⟩ (Value.ref b :: argsL).toArray v B ∧
      ∀ target, Steps p.tables e below (B.U.setTop { g with pc := g.pc + 3, stack := v.toList ++ rest }) target → Steps p.tables e below (T.setTop g) target := by
  obtain ⟨mk, methM, hnamed, hmethM, hstM, habM⟩ := Cond.instanceMethod_spec hinst
  obtain ⟨m8, methM', cM, hn8, hmethM', -, -, -, -, -, -, hsigM⟩ := Cond.codeWith_spec hcode
  cases Option.some.inj (hn8.symm.trans hnamed)
  cases hmethM.symm.trans hmethM'
  obtain ⟨c2, r2, m2, q1, q2, q3, q4, kP, hkP, hkPi⟩ := Cond.selects_spec hsel
  cases hcls.symm.trans q1
  cases (State.methodFound?_of_named hnamed hy).symm.trans q2
  cases hnamed.symm.trans q3
  have hselP : selectMethod e.platform s.vm cellB.cls mk = .method mk := by rw [Launch.admits_selectMethod X.admits]; exact q4
  obtain ⟨vm₁, X₁, hstep₁⟩ := X.invokevirtual hexec hown hlink hnamed hmethM hstM hkP hkPi hy (a := b) (cell := cellB) hcell
    (fun z h => by rw [h] at hobj; cases hobj) hselP hmethM habM hkP hkPi (g := g) hg (argsL := argsL) (rest := rest) (hlen _ hsigM) hstack hdg
  obtain ⟨v, B, X', hpost, hsteps⟩ := hK m meth c ⟨T.setVm vm₁, locs, cells, slots⟩ { g with stack := rest } (.invokevirtual index) mk (Value.ref b :: argsL).toArray X₁ hg hsize hdg hW (X₁.named hnamed) (hpre vm₁ X₁.warmed)
  exact ⟨v, vm₁, B, X₁.warmed, X', hpost, fun target h => hstep₁ _ fun acts => by rw [doInvoke_state]; exact hsteps.trans h⟩
abbrev vx_CVW (R : Room) (s : State) (args : Array Value) (own C : String) (index : Nat) (y : MethodName) (bytes : ByteArray) (maxL : Nat) (ret : Option FieldType) (hh : List (Nat × Nat × Nat × Nat)) (ws : List Cond) (rm : Room) (mc ms n : Nat) : Prop :=
  (rm.cells = mc ∧ rm.slots = ms ∧ rm.frames + 1 ≤ R.frames ∧ 8 + (maxL + 11) + rm.locals ≤ R.locals ∧ (∀ w ∈ ws, ∀ (a' : Array Value) (U : State), s.WarmedH U.vm → w.before a' U = true) ∧ Cond.codeWith y bytes maxL ret hh ∈ ws) ∧
  (Cond.codeWith y bytes maxL ret hh).before args s = true ∧ (Cond.initialized y.cls).before args s = true ∧ (y.cls ≠ "java/lang/invoke/MethodHandle" ∧ y.cls ≠ "java/lang/invoke/VarHandle") ∧
  (∀ sig, parseMethodDescriptor y.desc = some sig → n = sig.parameters.length) ∧ (Cond.methodLink own index y).before args s = true ∧ (Cond.instanceMethod y).before args s = true ∧ (Cond.selects C y y).before args s = true
theorem vx_cwVW {own C : String} {index maxL mc ms : Nat} {y : MethodName} {bytes : ByteArray} {ret : Option FieldType} {hh : List (Nat × Nat × Nat × Nat)} {Ts ws ws' : List Cond} {rm : Room} (n : Nat) (ht : ∀ w ∈ Ts, w.before args s = true) (hT : GoodIn Ts (wsV own index C y ws)) (hw : ws = Cond.codeWith y bytes maxL ret hh :: ws') (hrc : rm.cells = mc) (hrs : rm.slots = ms)
    (hd : y.cls = C ∧ y.cls ≠ "java/lang/invoke/MethodHandle" ∧ y.cls ≠ "java/lang/invoke/VarHandle" ∧ (parseMethodDescriptor y.desc).map (fun d => d.parameters.length) = some n) (hR : rm.frames + 1 ≤ R.frames ∧ 8 + (maxL + 11) + rm.locals ≤ R.locals) :
    vx_CVW R s args own C index y bytes maxL ret hh ws rm mc ms n := by
  obtain ⟨hC, hd⟩ := hd
  subst hC
  have ok : ∀ w ∈ wsV own index y.cls y ws, w.before args s = true := fun w h => ht w (hT w h).1
  have hG : GoodIn Ts ws := fun w h => hT w (by unfold wsV; exact List.mem_append_right _ h)
  have hc : Cond.codeWith y bytes maxL ret hh ∈ ws := by rw [hw]; exact List.mem_cons_self
  refine ⟨⟨hrc, hrs, hR.1, hR.2, pay_in ht hG, hc⟩, ht _ (hG _ hc).1, ok _ (by simp [wsV]), ⟨hd.1, hd.2.1⟩, fun sig h => ?_, ok _ (by simp [wsV]), ok _ (by simp [wsV]), ok _ (by simp [wsV])⟩
  have h2 := hd.2.2
  rw [h] at h2
  exact (Option.some.inj h2).symm
theorem vx_runVW {y : MethodName} {bytes cc : ByteArray} {maxL nL mc ms n index : Nat} {ret : Option FieldType} {hh : List (Nat × Nat × Nat × Nat)} {ws : List Cond} {rm : Room} {Pc : Array Value → State → Prop} {Qc : Array Value → State → Outcome → State → Prop} {free : Addr → Prop} {Ts : List Cond} {own C : String} {b : Addr} {As rest : List Value} {g : JFrame}
    (S : CallFix p m c cc nL s args Ts own) (hM : Met l y ws rm Pc Qc mc ms free) (cw : vx_CVW R s args own C index y bytes maxL ret hh ws rm mc ms n) (hp : PreV s H C b Pc As)
    (hg : g.method = m) (hn : As.length = n) (hsize : g.locals.size = nL) (hstack : g.stack = As.reverse ++ .ref b :: rest) (hW : 2 * g.monitorRoom + (rest.map fun v => v.category).sum ≤ 8) (hdg : decode cc g.pc = .ok (.invokevirtual index, 3)) (hf : cells + mc ≤ R.cells ∧ slots + ms ≤ R.slots) :
    va_Run p l e R s m args below meth c H locs cells slots mc ms g rest (Qc (Value.ref b :: As).toArray) free := by
  obtain ⟨⟨hrc, hrs, hfr, hlo, hws, hcw⟩, hcode, hini, hy, hlen, hl, hin, hse⟩ := cw
  have hK : Back l R p e below s args y 3 8 (PreOf R mc ms Pc) (PostOf Qc mc ms free) := va_backW (hh := hh) (bytes := bytes) (maxL := maxL) (ret := ret) hM hp.1 hrc hrs hfr hlo hws hcw (fun a' U hW => word_at hW (Or.inl (by first | rfl | simp [Cond.onTables, Cond.keeps, Cond.steady])) hini)
  obtain ⟨hx, hb, hml, ho, -⟩ := S
  obtain ⟨-, ⟨cellB, hcB, hoB, hclB⟩, hPc⟩ := hp
  intro T hT X
  obtain ⟨v, vm₁, ⟨U', l2, c2, s2⟩, hW₁, X', ⟨g', mk, t, L, e1, e2, hq, h1, hL, h2, h3⟩, st⟩ := vx_callVW X hx (C := C) (hh := hh) (bytes := bytes) (maxL := maxL) (ret := ret) ho hl hin hse hcode hy hK (by rw [hT]; exact hcB) hoB hclB hg (hsize.trans hml.symm) (argsL := As) (rest := rest) (fun sig h => hn.trans (hlen sig h)) hstack hW (by rw [hb]; exact hdg)
    (fun vm₁ hW₁ => ⟨hf.1, hf.2, hPc (T.setVm vm₁) hT hW₁⟩)
  dsimp only [Pt.U, Pt.locs, Pt.cells, Pt.slots] at X' e1 e2 h1 h2 h3 st
  subst h1; subst h2; subst h3
  exact ⟨v, (T.setVm vm₁).calling g' mk (Value.ref b :: As).toArray, t, U', L, hT, X', hL, e1, e2, hq, st⟩
section
variable {y : MethodName} {bytes cc : ByteArray} {maxL nL mc ms n index : Nat} {ret : Option FieldType} {ws : List Cond} {rm : Room} {Pc : Array Value → State → Prop} {Qc : Array Value → State → Outcome → State → Prop} {XC : String → State → State → Prop} {free : Addr → Prop} {Ts : List Cond} {own C : String} {b : Addr} {As rest : List Value} {g : JFrame}
theorem vx_runVX {hh : List (Nat × Nat × Nat × Nat)} (S : CallFix p m c cc nL s args Ts own) (hM : vx_Met l y ws rm Pc Qc XC mc ms free) (cw : vx_CVW R s args own C index y bytes maxL ret hh ws rm mc ms n) (hp : PreV s H C b Pc As)
    (hg : g.method = m) (hn : As.length = n) (hsize : g.locals.size = nL) (hstack : g.stack = As.reverse ++ .ref b :: rest) (hW : 2 * g.monitorRoom + (rest.map fun v => v.category).sum ≤ 8) (hdg : decode cc g.pc = .ok (.invokevirtual index, 3)) (hf : cells + mc ≤ R.cells ∧ slots + ms ≤ R.slots) :
    vx_Run p l e R s m args below meth c H locs cells slots mc ms g rest (Qc (Value.ref b :: As).toArray) XC free := by
  obtain ⟨⟨hrc, hrs, hfr, hlo, hws, hcw⟩, hcode, hini, hy, hlen, hl, hin, hse⟩ := cw
  have hK : vx_Back l R p e below s args y 3 8 (PreOf R mc ms Pc) (PostOf Qc mc ms free) (vx_Post XC mc ms free) := vx_backW (hh := hh) (bytes := bytes) (maxL := maxL) (ret := ret) hM hp.1 hrc hrs hfr hlo hws hcw (fun a' U hW => word_at hW (Or.inl (by first | rfl | simp [Cond.onTables, Cond.keeps, Cond.steady])) hini)
  obtain ⟨hx, hb, hml, ho, -⟩ := S
  obtain ⟨-, ⟨cellB, hcB, hoB, hclB⟩, hPc⟩ := hp
  intro T hT X
  rcases vx_callVX X hx (C := C) (hh := hh) (bytes := bytes) (maxL := maxL) (ret := ret) ho hl hin hse hcode hy hK (by rw [hT]; exact hcB) hoB hclB hg (hsize.trans hml.symm) (argsL := As) (rest := rest) (fun sig h => hn.trans (hlen sig h)) hstack hW (by rw [hb]; exact hdg)
    (fun vm₁ hW₁ => ⟨hf.1, hf.2, hPc (T.setVm vm₁) hT hW₁⟩) with ⟨v, vm₁, ⟨U', l2, c2, s2⟩, hW₁, X', ⟨g', mk, t, L, e1, e2, hq, h1, hL, h2, h3⟩, st⟩ | ⟨q, vm₁, ⟨U', l2, c2, s2⟩, hW₁, X', ⟨g', mk, t, L, E, ce, e1, e2, hq, hce, hcv, hcl, h1, hL, h2, h3⟩, st⟩
  · dsimp only [Pt.U, Pt.locs, Pt.cells, Pt.slots] at X' e1 e2 h1 h2 h3 st
    subst h1; subst h2; subst h3
    exact Or.inl ⟨v, (T.setVm vm₁).calling g' mk (Value.ref b :: As).toArray, t, U', L, hT, X', hL, e1, e2, hq, st⟩
  · dsimp only [Pt.U, Pt.locs, Pt.cells, Pt.slots] at X' e1 e2 h1 h2 h3 st hcl
    subst h1; subst h2; subst h3
    exact Or.inr ⟨q, (T.setVm vm₁).calling g' mk (Value.ref b :: As).toArray, t, U', L, E, ce, hT, X', hL, e1, e2, hq, hce, hcv, vx_cls hW₁ hcl, st⟩
theorem vx_runSX {hh : List (Nat × Nat × Nat × Nat)} (S : CallFix p m c cc nL s args Ts own) (hM : vx_Met l y ws rm Pc Qc XC mc ms free) (cw : vx_CSW R s args own index y bytes maxL ret hh ws rm mc ms n) (hp : PreS s H Pc As)
    (hg : g.method = m) (hn : As.length = n) (hsize : g.locals.size = nL) (hstack : g.stack = As.reverse ++ rest) (hW : 2 * g.monitorRoom + (rest.map fun v => v.category).sum ≤ 8) (hdg : decode cc g.pc = .ok (.invokestatic index, 3)) (hf : cells + mc ≤ R.cells ∧ slots + ms ≤ R.slots) :
    vx_Run p l e R s m args below meth c H locs cells slots mc ms g rest (Qc As.toArray) XC free := by
  obtain ⟨⟨hrc, hrs, hfr, hlo, hws, hcw⟩, hcode, hini, hy, hlen, hl, hstt⟩ := cw
  have hK : vx_Back l R p e below s args y 3 8 (PreOf R mc ms Pc) (PostOf Qc mc ms free) (vx_Post XC mc ms free) := vx_backW (hh := hh) (bytes := bytes) (maxL := maxL) (ret := ret) hM hp.1 hrc hrs hfr hlo hws hcw (fun a' U hW => word_at hW (Or.inl (by first | rfl | simp [Cond.onTables, Cond.keeps, Cond.steady])) hini)
  obtain ⟨hx, hb, hml, ho, -⟩ := S
  intro T hT X
  rcases vx_callSX X hx (hh := hh) (bytes := bytes) (maxL := maxL) (ret := ret) ho hl hstt hini hcode hy hK hg (hsize.trans hml.symm) (argsL := As) (rest := rest) (fun sig h => hn.trans (hlen sig h)) hstack hW (by rw [hb]; exact hdg)
    (fun vm₁ hW₁ => ⟨hf.1, hf.2, hp.2 (T.setVm vm₁) hT hW₁⟩) with ⟨v, vm₁, ⟨U', l2, c2, s2⟩, hW₁, X', ⟨g', mk, t, L, e1, e2, hq, h1, hL, h2, h3⟩, st⟩ | ⟨q, vm₁, ⟨U', l2, c2, s2⟩, hW₁, X', ⟨g', mk, t, L, E, ce, e1, e2, hq, hce, hcv, hcl, h1, hL, h2, h3⟩, st⟩
  · dsimp only [Pt.U, Pt.locs, Pt.cells, Pt.slots] at X' e1 e2 h1 h2 h3 st
    subst h1; subst h2; subst h3
    exact Or.inl ⟨v, (T.setVm vm₁).calling g' mk As.toArray, t, U', L, hT, X', hL, e1, e2, hq, st⟩
  · dsimp only [Pt.U, Pt.locs, Pt.cells, Pt.slots] at X' e1 e2 h1 h2 h3 st hcl
    subst h1; subst h2; subst h3
    exact Or.inr ⟨q, (T.setVm vm₁).calling g' mk As.toArray, t, U', L, E, ce, hT, X', hL, e1, e2, hq, hce, hcv, vx_cls hW₁ hcl, st⟩
end
end VXH
theorem vx_ofWH {l : Launch} {y : MethodName} {ws ws' : List Cond} {rm : Room} {Pc : Array Value → State → Prop} {Qc : Array Value → State → Outcome → State → Prop} {XC : String → State → State → Prop} {mc ms : Nat} {free : Addr → Prop} {cc : ByteArray} {maxL : Nat} {ret : Option FieldType} {hh : List (Nat × Nat × Nat × Nat)}
    (hy : plainName y.cls = true) (hw : ws = Cond.codeWith y cc maxL ret hh :: ws')
    (body : ∀ p e s m args below meth c s₁, BodyLoose p l y (headSpec ws rm) cc maxL ret e s m args below meth c s₁ → c.maxLocals = maxL → Pc args s →
      W p l e (headSpec ws rm).room s m args below meth c s.heap [] 0 0 (vx_MQ below Qc XC args s mc ms free) (entryFrame m args maxL)) : vx_Met l y ws rm Pc Qc XC mc ms free := by
  refine MetFree.of_bodyS (code := cc) (maxLocals := maxL) (ret := ret) hy ?_ ?_
  · intro args s m h hn
    obtain ⟨m9, meth, c, hn9, h1, h2, h3, h4, -, h5, h6, -⟩ := Cond.codeWith_spec (atoms_spec (ws := ws) h _ (by rw [hw]; exact List.mem_cons_self))
    cases hn.symm.trans hn9
    exact ⟨meth, c, h1, h2, h3, h4, h5, h6⟩
  · intro p e s m args below meth c s₁ B hml hP _
    have hh0 : s₁.heap = s.heap := by rw [B.state]; rfl
    obtain ⟨t, a1, o, b1, b2, b3⟩ := body p e s m args below meth c s₁ B hml hP s₁ hh0 (Stand.of_body B)
    exact ⟨t, o, a1, b1, b2, b3⟩
/-! ===== END ===== -/

/-! ===== BEGIN printed: names, fields, word lists, decode rows ===== -/
def RX0 : String := "SerialLink$Codec"
def TX0 : u_T := fun k => match k with
  | _ => ("", "", "", false)
def tyX0 : Nat → FieldType := fun k => match k with
  | _ => .int
abbrev wsX00 : List Cond := u_ws RX0 TX0 0
theorem nmX0 : ∀ a, a < 0 → ∀ b, b < 0 → a ≠ b → (TX0 a).2.1 ≠ (TX0 b).2.1 := by decide +kernel
theorem tyX0_ok : ∀ k, k < 0 → parseFieldDescriptor (TX0 k).2.2.1 = some (tyX0 k) := by decide +kernel
abbrev cX0_checkOf : ByteArray := prog_2_method_2_code
def yX0_checkOf : MethodName := ⟨RX0, "checkOf", "(LSerialLink$Row;I)I"⟩
abbrev cX0_pack : ByteArray := prog_2_method_3_code
def yX0_pack : MethodName := ⟨RX0, "pack", "(LSerialLink$Row;LSerialLink$Row;)V"⟩
abbrev cX0_unpack : ByteArray := prog_2_method_4_code
def yX0_unpack : MethodName := ⟨RX0, "unpack", "(LSerialLink$Row;LSerialLink$Row;)V"⟩
def RX1 : String := "SerialLink$End"
def TX1 : u_T := fun k => match k with
  | 0 => ("SerialLink$End", "setup", "LSerialLink$Setup;", true)
  | 1 => ("SerialLink$End", "tally", "LSerialLink$Tally;", true)
  | 2 => ("SerialLink$End", "sender", "LSerialLink$Sender;", true)
  | 3 => ("SerialLink$End", "receiver", "LSerialLink$Receiver;", true)
  | 4 => ("SerialLink$End", "heard", "LSerialLink$Row;", true)
  | 5 => ("SerialLink$End", "overlong", "Z", false)
  | 6 => ("SerialLink$End", "body", "LSerialLink$Row;", true)
  | _ => ("SerialLink$End", "inspector", "LSerialLink$Inspector;", true)
def tyX1 : Nat → FieldType := fun k => match k with
  | 0 => .object "SerialLink$Setup"
  | 1 => .object "SerialLink$Tally"
  | 2 => .object "SerialLink$Sender"
  | 3 => .object "SerialLink$Receiver"
  | 4 => .object "SerialLink$Row"
  | 5 => .boolean
  | 6 => .object "SerialLink$Row"
  | _ => .object "SerialLink$Inspector"
abbrev wsX10 : List Cond := u_ws RX1 TX1 8
theorem nmX1 : ∀ a, a < 8 → ∀ b, b < 8 → a ≠ b → (TX1 a).2.1 ≠ (TX1 b).2.1 := by decide +kernel
theorem tyX1_ok : ∀ k, k < 8 → parseFieldDescriptor (TX1 k).2.2.1 = some (tyX1 k) := by decide +kernel
abbrev cX1_init : ByteArray := prog_3_method_1_code
def yX1_init : MethodName := ⟨RX1, "<init>", "(LSerialLink$Setup;LSerialLink$Tally;LSerialLink$Lane;)V"⟩
abbrev cX1_clear : ByteArray := prog_3_method_2_code
def yX1_clear : MethodName := ⟨RX1, "clear", "()V"⟩
abbrev cX1_forgetHeard : ByteArray := prog_3_method_3_code
def yX1_forgetHeard : MethodName := ⟨RX1, "forgetHeard", "()V"⟩
abbrev cX1_hear : ByteArray := prog_3_method_4_code
def yX1_hear : MethodName := ⟨RX1, "hear", "(IZ)V"⟩
abbrev cX1_endBody : ByteArray := prog_3_method_5_code
def yX1_endBody : MethodName := ⟨RX1, "endBody", "(Z)V"⟩
abbrev cX1_loadOfBody : ByteArray := prog_3_method_6_code
def yX1_loadOfBody : MethodName := ⟨RX1, "loadOfBody", "()I"⟩
abbrev cX1_kindOfWrong : ByteArray := prog_3_method_7_code
def yX1_kindOfWrong : MethodName := ⟨RX1, "kindOfWrong", "()I"⟩
abbrev cX1_checkHolds : ByteArray := prog_3_method_8_code
def yX1_checkHolds : MethodName := ⟨RX1, "checkHolds", "()Z"⟩
abbrev cX1_headHolds : ByteArray := prog_3_method_9_code
def yX1_headHolds : MethodName := ⟨RX1, "headHolds", "()Z"⟩
def RX2 : String := "SerialLink$Frame"
def TX2 : u_T := fun k => match k with
  | 0 => ("SerialLink$Frame", "bytes", "LSerialLink$Row;", true)
  | 1 => ("SerialLink$Frame", "sort", "I", false)
  | 2 => ("SerialLink$Frame", "number", "I", false)
  | 3 => ("SerialLink$Frame", "load", "I", false)
  | _ => ("SerialLink$Frame", "again", "Z", false)
def tyX2 : Nat → FieldType := fun k => match k with
  | 0 => .object "SerialLink$Row"
  | 1 => .int
  | 2 => .int
  | 3 => .int
  | _ => .boolean
abbrev wsX20 : List Cond := u_ws RX2 TX2 5
theorem nmX2 : ∀ a, a < 5 → ∀ b, b < 5 → a ≠ b → (TX2 a).2.1 ≠ (TX2 b).2.1 := by decide +kernel
theorem tyX2_ok : ∀ k, k < 5 → parseFieldDescriptor (TX2 k).2.2.1 = some (tyX2 k) := by decide +kernel
abbrev cX2_init : ByteArray := prog_4_method_1_code
def yX2_init : MethodName := ⟨RX2, "<init>", "()V"⟩
def RX3 : String := "SerialLink$Inspector"
def TX3 : u_T := fun k => match k with
  | 0 => ("SerialLink$Inspector", "kind", "I", false)
  | _ => ("SerialLink$Inspector", "place", "I", false)
def tyX3 : Nat → FieldType := fun k => match k with
  | 0 => .int
  | _ => .int
abbrev wsX30 : List Cond := u_ws RX3 TX3 2
theorem nmX3 : ∀ a, a < 2 → ∀ b, b < 2 → a ≠ b → (TX3 a).2.1 ≠ (TX3 b).2.1 := by decide +kernel
theorem tyX3_ok : ∀ k, k < 2 → parseFieldDescriptor (TX3 k).2.2.1 = some (tyX3 k) := by decide +kernel
abbrev cX3_init : ByteArray := prog_5_method_1_code
def yX3_init : MethodName := ⟨RX3, "<init>", "()V"⟩
abbrev cX3_clear : ByteArray := prog_5_method_2_code
def yX3_clear : MethodName := ⟨RX3, "clear", "()V"⟩
abbrev cX3_isSound : ByteArray := prog_5_method_3_code
def yX3_isSound : MethodName := ⟨RX3, "isSound", "(LSerialLink$Row;)Z"⟩
abbrev cX3_found : ByteArray := prog_5_method_4_code
def yX3_found : MethodName := ⟨RX3, "found", "(II)Z"⟩
def RX4 : String := "SerialLink$Lane"
def TX4 : u_T := fun k => match k with
  | 0 => ("SerialLink$Lane", "tally", "LSerialLink$Tally;", true)
  | 1 => ("SerialLink$Lane", "frames", "[LSerialLink$Frame;", true)
  | 2 => ("SerialLink$Lane", "body", "LSerialLink$Row;", true)
  | 3 => ("SerialLink$Lane", "firstAt", "I", false)
  | _ => ("SerialLink$Lane", "size", "I", false)
def tyX4 : Nat → FieldType := fun k => match k with
  | 0 => .object "SerialLink$Tally"
  | 1 => .array (.object "SerialLink$Frame")
  | 2 => .object "SerialLink$Row"
  | 3 => .int
  | _ => .int
abbrev wsX40 : List Cond := u_ws RX4 TX4 5
theorem nmX4 : ∀ a, a < 5 → ∀ b, b < 5 → a ≠ b → (TX4 a).2.1 ≠ (TX4 b).2.1 := by decide +kernel
theorem tyX4_ok : ∀ k, k < 5 → parseFieldDescriptor (TX4 k).2.2.1 = some (tyX4 k) := by decide +kernel
abbrev cX4_init : ByteArray := prog_6_method_1_code
def yX4_init : MethodName := ⟨RX4, "<init>", "(LSerialLink$Tally;)V"⟩
abbrev cX4_clear : ByteArray := prog_6_method_2_code
def yX4_clear : MethodName := ⟨RX4, "clear", "()V"⟩
abbrev cX4_nth : ByteArray := prog_6_method_3_code
def yX4_nth : MethodName := ⟨RX4, "nth", "(I)LSerialLink$Frame;"⟩
abbrev cX4_slot : ByteArray := prog_6_method_4_code
def yX4_slot : MethodName := ⟨RX4, "slot", "(I)LSerialLink$Frame;"⟩
abbrev cX4_dropFirst : ByteArray := prog_6_method_5_code
def yX4_dropFirst : MethodName := ⟨RX4, "dropFirst", "()V"⟩
abbrev cX4_startBody : ByteArray := prog_6_method_6_code
def yX4_startBody : MethodName := ⟨RX4, "startBody", "(II)LSerialLink$Row;"⟩
abbrev cX4_lay : ByteArray := prog_6_method_7_code
def yX4_lay : MethodName := ⟨RX4, "lay", "(Z)V"⟩
def RX5 : String := "SerialLink$Receiver"
def TX5 : u_T := fun k => match k with
  | 0 => ("SerialLink$Receiver", "setup", "LSerialLink$Setup;", true)
  | 1 => ("SerialLink$Receiver", "tally", "LSerialLink$Tally;", true)
  | 2 => ("SerialLink$Receiver", "lane", "LSerialLink$Lane;", true)
  | 3 => ("SerialLink$Receiver", "stream", "LSerialLink$Row;", true)
  | 4 => ("SerialLink$Receiver", "wants", "I", false)
  | 5 => ("SerialLink$Receiver", "heldSizes", "[I", true)
  | _ => ("SerialLink$Receiver", "heldBytes", "LSerialLink$Row;", true)
def tyX5 : Nat → FieldType := fun k => match k with
  | 0 => .object "SerialLink$Setup"
  | 1 => .object "SerialLink$Tally"
  | 2 => .object "SerialLink$Lane"
  | 3 => .object "SerialLink$Row"
  | 4 => .int
  | 5 => .array .int
  | _ => .object "SerialLink$Row"
abbrev wsX50 : List Cond := u_ws RX5 TX5 7
theorem nmX5 : ∀ a, a < 7 → ∀ b, b < 7 → a ≠ b → (TX5 a).2.1 ≠ (TX5 b).2.1 := by decide +kernel
theorem tyX5_ok : ∀ k, k < 7 → parseFieldDescriptor (TX5 k).2.2.1 = some (tyX5 k) := by decide +kernel
abbrev cX5_init : ByteArray := prog_7_method_1_code
def yX5_init : MethodName := ⟨RX5, "<init>", "(LSerialLink$Setup;LSerialLink$Tally;LSerialLink$Lane;)V"⟩
abbrev cX5_clear : ByteArray := prog_7_method_2_code
def yX5_clear : MethodName := ⟨RX5, "clear", "()V"⟩
abbrev cX5_hearData : ByteArray := prog_7_method_3_code
def yX5_hearData : MethodName := ⟨RX5, "hearData", "(ILSerialLink$Row;I)Z"⟩
abbrev cX5_hold : ByteArray := prog_7_method_4_code
def yX5_hold : MethodName := ⟨RX5, "hold", "(ILSerialLink$Row;I)V"⟩
abbrev cX5_takeHeld : ByteArray := prog_7_method_5_code
def yX5_takeHeld : MethodName := ⟨RX5, "takeHeld", "()V"⟩
abbrev cX5_layKnown : ByteArray := prog_7_method_6_code
def yX5_layKnown : MethodName := ⟨RX5, "layKnown", "()V"⟩
abbrev cX5_heldBits : ByteArray := prog_7_method_7_code
def yX5_heldBits : MethodName := ⟨RX5, "heldBits", "(I)I"⟩
abbrev cX5_heldPieces : ByteArray := prog_7_method_8_code
def yX5_heldPieces : MethodName := ⟨RX5, "heldPieces", "()I"⟩
def RX6 : String := "SerialLink$Row"
def TX6 : u_T := fun k => match k with
  | 0 => ("SerialLink$Row", "cells", "[B", true)
  | _ => ("SerialLink$Row", "length", "I", false)
def tyX6 : Nat → FieldType := fun k => match k with
  | 0 => .array .byte
  | _ => .int
abbrev wsX60 : List Cond := u_ws RX6 TX6 2
theorem nmX6 : ∀ a, a < 2 → ∀ b, b < 2 → a ≠ b → (TX6 a).2.1 ≠ (TX6 b).2.1 := by decide +kernel
theorem tyX6_ok : ∀ k, k < 2 → parseFieldDescriptor (TX6 k).2.2.1 = some (tyX6 k) := by decide +kernel
abbrev cX6_init : ByteArray := prog_8_method_1_code
def yX6_init : MethodName := ⟨RX6, "<init>", "(I)V"⟩
abbrev cX6_clear : ByteArray := prog_8_method_2_code
def yX6_clear : MethodName := ⟨RX6, "clear", "()V"⟩
abbrev cX6_cutTo : ByteArray := prog_8_method_3_code
def yX6_cutTo : MethodName := ⟨RX6, "cutTo", "(I)V"⟩
abbrev cX6_hasRoom : ByteArray := prog_8_method_4_code
def yX6_hasRoom : MethodName := ⟨RX6, "hasRoom", "(I)Z"⟩
abbrev cX6_at : ByteArray := prog_8_method_5_code
def yX6_at : MethodName := ⟨RX6, "at", "(I)I"⟩
abbrev cX6_add : ByteArray := prog_8_method_6_code
def yX6_add : MethodName := ⟨RX6, "add", "(I)Z"⟩
abbrev cX6_put : ByteArray := prog_8_method_7_code
def yX6_put : MethodName := ⟨RX6, "put", "(II)V"⟩
abbrev cX6_addPart : ByteArray := prog_8_method_8_code
def yX6_addPart : MethodName := ⟨RX6, "addPart", "(LSerialLink$Row;II)V"⟩
def RX7 : String := "SerialLink$Sender"
def TX7 : u_T := fun k => match k with
  | 0 => ("SerialLink$Sender", "setup", "LSerialLink$Setup;", true)
  | 1 => ("SerialLink$Sender", "tally", "LSerialLink$Tally;", true)
  | 2 => ("SerialLink$Sender", "lane", "LSerialLink$Lane;", true)
  | 3 => ("SerialLink$Sender", "given", "LSerialLink$Row;", true)
  | 4 => ("SerialLink$Sender", "pieced", "I", false)
  | 5 => ("SerialLink$Sender", "clock", "I", false)
  | 6 => ("SerialLink$Sender", "timer", "I", false)
  | 7 => ("SerialLink$Sender", "base", "I", false)
  | 8 => ("SerialLink$Sender", "next", "I", false)
  | 9 => ("SerialLink$Sender", "starts", "[I", true)
  | 10 => ("SerialLink$Sender", "sizes", "[I", true)
  | 11 => ("SerialLink$Sender", "timers", "[I", true)
  | _ => ("SerialLink$Sender", "kept", "[Z", true)
def tyX7 : Nat → FieldType := fun k => match k with
  | 0 => .object "SerialLink$Setup"
  | 1 => .object "SerialLink$Tally"
  | 2 => .object "SerialLink$Lane"
  | 3 => .object "SerialLink$Row"
  | 4 => .int
  | 5 => .int
  | 6 => .int
  | 7 => .int
  | 8 => .int
  | 9 => .array .int
  | 10 => .array .int
  | 11 => .array .int
  | _ => .array .boolean
abbrev wsX70 : List Cond := u_ws RX7 TX7 13
theorem nmX7 : ∀ a, a < 13 → ∀ b, b < 13 → a ≠ b → (TX7 a).2.1 ≠ (TX7 b).2.1 := by decide +kernel
theorem tyX7_ok : ∀ k, k < 13 → parseFieldDescriptor (TX7 k).2.2.1 = some (tyX7 k) := by decide +kernel
abbrev cX7_init : ByteArray := prog_9_method_1_code
def yX7_init : MethodName := ⟨RX7, "<init>", "(LSerialLink$Setup;LSerialLink$Tally;LSerialLink$Lane;)V"⟩
abbrev cX7_clear : ByteArray := prog_9_method_2_code
def yX7_clear : MethodName := ⟨RX7, "clear", "()V"⟩
abbrev cX7_passTick : ByteArray := prog_9_method_3_code
def yX7_passTick : MethodName := ⟨RX7, "passTick", "()I"⟩
abbrev cX7_layAllIfLate : ByteArray := prog_9_method_4_code
def yX7_layAllIfLate : MethodName := ⟨RX7, "layAllIfLate", "()I"⟩
abbrev cX7_layLateOnes : ByteArray := prog_9_method_5_code
def yX7_layLateOnes : MethodName := ⟨RX7, "layLateOnes", "()I"⟩
abbrev cX7_makePiece : ByteArray := prog_9_method_6_code
def yX7_makePiece : MethodName := ⟨RX7, "makePiece", "()V"⟩
abbrev cX7_layPiece : ByteArray := prog_9_method_7_code
def yX7_layPiece : MethodName := ⟨RX7, "layPiece", "(IZ)V"⟩
abbrev cX7_hearKnown : ByteArray := prog_9_method_8_code
def yX7_hearKnown : MethodName := ⟨RX7, "hearKnown", "(ILSerialLink$Row;)V"⟩
abbrev cX7_keepKnown : ByteArray := prog_9_method_9_code
def yX7_keepKnown : MethodName := ⟨RX7, "keepKnown", "(LSerialLink$Row;)V"⟩
abbrev cX7_keptPieces : ByteArray := prog_9_method_10_code
def yX7_keptPieces : MethodName := ⟨RX7, "keptPieces", "()I"⟩
def RX8 : String := "SerialLink$Setup"
def TX8 : u_T := fun k => match k with
  | 0 => ("SerialLink$Setup", "mode", "I", false)
  | 1 => ("SerialLink$Setup", "space", "I", false)
  | 2 => ("SerialLink$Setup", "window", "I", false)
  | 3 => ("SerialLink$Setup", "size", "I", false)
  | _ => ("SerialLink$Setup", "timeout", "I", false)
def tyX8 : Nat → FieldType := fun k => match k with
  | 0 => .int
  | 1 => .int
  | 2 => .int
  | 3 => .int
  | _ => .int
abbrev wsX80 : List Cond := u_ws RX8 TX8 5
theorem nmX8 : ∀ a, a < 5 → ∀ b, b < 5 → a ≠ b → (TX8 a).2.1 ≠ (TX8 b).2.1 := by decide +kernel
theorem tyX8_ok : ∀ k, k < 5 → parseFieldDescriptor (TX8 k).2.2.1 = some (tyX8 k) := by decide +kernel
abbrev cX8_init : ByteArray := prog_10_method_1_code
def yX8_init : MethodName := ⟨RX8, "<init>", "()V"⟩
abbrev cX8_canBe : ByteArray := prog_10_method_2_code
def yX8_canBe : MethodName := ⟨RX8, "canBe", "(IIIII)Z"⟩
abbrev cX8_widestWindow : ByteArray := prog_10_method_3_code
def yX8_widestWindow : MethodName := ⟨RX8, "widestWindow", "(II)I"⟩
abbrev cX8_choose : ByteArray := prog_10_method_4_code
def yX8_choose : MethodName := ⟨RX8, "choose", "(IIIII)V"⟩
abbrev cX8_eachByItself : ByteArray := prog_10_method_5_code
def yX8_eachByItself : MethodName := ⟨RX8, "eachByItself", "()Z"⟩
abbrev cX8_inRing : ByteArray := prog_10_method_6_code
def yX8_inRing : MethodName := ⟨RX8, "inRing", "(I)I"⟩
abbrev cX8_knownLoad : ByteArray := prog_10_method_7_code
def yX8_knownLoad : MethodName := ⟨RX8, "knownLoad", "()I"⟩
def RX9 : String := "SerialLink$Tally"
def TX9 : u_T := fun k => match k with
  | _ => ("SerialLink$Tally", "counts", "[I", true)
def tyX9 : Nat → FieldType := fun k => match k with
  | _ => .array .int
abbrev wsX90 : List Cond := u_ws RX9 TX9 1
theorem nmX9 : ∀ a, a < 1 → ∀ b, b < 1 → a ≠ b → (TX9 a).2.1 ≠ (TX9 b).2.1 := by decide +kernel
theorem tyX9_ok : ∀ k, k < 1 → parseFieldDescriptor (TX9 k).2.2.1 = some (tyX9 k) := by decide +kernel
abbrev cX9_init : ByteArray := prog_11_method_1_code
def yX9_init : MethodName := ⟨RX9, "<init>", "()V"⟩
abbrev cX9_clear : ByteArray := prog_11_method_2_code
def yX9_clear : MethodName := ⟨RX9, "clear", "()V"⟩
abbrev cX9_add : ByteArray := prog_11_method_3_code
def yX9_add : MethodName := ⟨RX9, "add", "(I)V"⟩
abbrev cX9_of : ByteArray := prog_11_method_4_code
def yX9_of : MethodName := ⟨RX9, "of", "(I)I"⟩
def RX10 : String := "SerialLink"
def TX10 : u_T := fun k => match k with
  | 0 => ("SerialLink", "setup", "LSerialLink$Setup;", true)
  | 1 => ("SerialLink", "tally", "LSerialLink$Tally;", true)
  | 2 => ("SerialLink", "laneThere", "LSerialLink$Lane;", true)
  | 3 => ("SerialLink", "laneBack", "LSerialLink$Lane;", true)
  | 4 => ("SerialLink", "endZero", "LSerialLink$End;", true)
  | 5 => ("SerialLink", "endOne", "LSerialLink$End;", true)
  | 6 => ("SerialLink", "tape", "LSerialLink$Row;", true)
  | 7 => ("SerialLink", "result", "LSerialLink$Row;", true)
  | _ => ("SerialLink", "inspector", "LSerialLink$Inspector;", true)
def tyX10 : Nat → FieldType := fun k => match k with
  | 0 => .object "SerialLink$Setup"
  | 1 => .object "SerialLink$Tally"
  | 2 => .object "SerialLink$Lane"
  | 3 => .object "SerialLink$Lane"
  | 4 => .object "SerialLink$End"
  | 5 => .object "SerialLink$End"
  | 6 => .object "SerialLink$Row"
  | 7 => .object "SerialLink$Row"
  | _ => .object "SerialLink$Inspector"
abbrev wsX100 : List Cond := u_ws RX10 TX10 9
theorem nmX10 : ∀ a, a < 9 → ∀ b, b < 9 → a ≠ b → (TX10 a).2.1 ≠ (TX10 b).2.1 := by decide +kernel
theorem tyX10_ok : ∀ k, k < 9 → parseFieldDescriptor (TX10 k).2.2.1 = some (tyX10 k) := by decide +kernel
abbrev cX10_init : ByteArray := prog_1_method_1_code
def yX10_init : MethodName := ⟨RX10, "<init>", "()V"⟩
abbrev cX10_open : ByteArray := prog_1_method_2_code
def yX10_open : MethodName := ⟨RX10, "open", "(IIIII)Z"⟩
abbrev cX10_feed : ByteArray := prog_1_method_3_code
def yX10_feed : MethodName := ⟨RX10, "feed", "(IIIII)I"⟩
abbrev cX10_feedNumber : ByteArray := prog_1_method_4_code
def yX10_feedNumber : MethodName := ⟨RX10, "feedNumber", "(I)V"⟩
abbrev cX10_cut : ByteArray := prog_1_method_5_code
def yX10_cut : MethodName := ⟨RX10, "cut", "(I)Z"⟩
abbrev cX10_take : ByteArray := prog_1_method_6_code
def yX10_take : MethodName := ⟨RX10, "take", "()I"⟩
abbrev cX10_give : ByteArray := prog_1_method_7_code
def yX10_give : MethodName := ⟨RX10, "give", "(I)I"⟩
abbrev cX10_tick : ByteArray := prog_1_method_8_code
def yX10_tick : MethodName := ⟨RX10, "tick", "()I"⟩
abbrev cX10_tickBoth : ByteArray := prog_1_method_9_code
def yX10_tickBoth : MethodName := ⟨RX10, "tickBoth", "()I"⟩
abbrev cX10_carry : ByteArray := prog_1_method_10_code
def yX10_carry : MethodName := ⟨RX10, "carry", "(III)I"⟩
abbrev cX10_canCarry : ByteArray := prog_1_method_11_code
def yX10_canCarry : MethodName := ⟨RX10, "canCarry", "(LSerialLink$Frame;II)Z"⟩
abbrev cX10_bring : ByteArray := prog_1_method_12_code
def yX10_bring : MethodName := ⟨RX10, "bring", "(LSerialLink$Frame;LSerialLink$End;III)V"⟩
abbrev cX10_round : ByteArray := prog_1_method_13_code
def yX10_round : MethodName := ⟨RX10, "round", "()I"⟩
abbrev cX10_noise : ByteArray := prog_1_method_14_code
def yX10_noise : MethodName := ⟨RX10, "noise", "(III)I"⟩
abbrev cX10_frame : ByteArray := prog_1_method_15_code
def yX10_frame : MethodName := ⟨RX10, "frame", "(III)I"⟩
abbrev cX10_octet : ByteArray := prog_1_method_16_code
def yX10_octet : MethodName := ⟨RX10, "octet", "(III)I"⟩
abbrev cX10_line : ByteArray := prog_1_method_17_code
def yX10_line : MethodName := ⟨RX10, "line", "(I)I"⟩
abbrev cX10_state : ByteArray := prog_1_method_18_code
def yX10_state : MethodName := ⟨RX10, "state", "(II)I"⟩
abbrev cX10_taken : ByteArray := prog_1_method_19_code
def yX10_taken : MethodName := ⟨RX10, "taken", "(II)I"⟩
abbrev cX10_count : ByteArray := prog_1_method_20_code
def yX10_count : MethodName := ⟨RX10, "count", "(I)I"⟩
abbrev cX10_stuff : ByteArray := prog_1_method_21_code
def yX10_stuff : MethodName := ⟨RX10, "stuff", "()I"⟩
abbrev cX10_unstuff : ByteArray := prog_1_method_22_code
def yX10_unstuff : MethodName := ⟨RX10, "unstuff", "()I"⟩
abbrev cX10_fault : ByteArray := prog_1_method_23_code
def yX10_fault : MethodName := ⟨RX10, "fault", "(I)I"⟩
abbrev cX10_check : ByteArray := prog_1_method_24_code
def yX10_check : MethodName := ⟨RX10, "check", "()I"⟩
abbrev cX10_out : ByteArray := prog_1_method_25_code
def yX10_out : MethodName := ⟨RX10, "out", "(I)I"⟩
abbrev cX10_endAt : ByteArray := prog_1_method_26_code
def yX10_endAt : MethodName := ⟨RX10, "endAt", "(I)LSerialLink$End;"⟩
abbrev cX10_laneAt : ByteArray := prog_1_method_27_code
def yX10_laneAt : MethodName := ⟨RX10, "laneAt", "(I)LSerialLink$Lane;"⟩
abbrev cX10_hearerOf : ByteArray := prog_1_method_28_code
def yX10_hearerOf : MethodName := ⟨RX10, "hearerOf", "(I)LSerialLink$End;"⟩
def RX11 : String := "SerialLinkModel"
def TX11 : u_T := fun k => match k with
  | 0 => ("SerialLinkModel", "thrown", "I", false)
  | 1 => ("SerialLinkModel", "tape", "[B", true)
  | 2 => ("SerialLinkModel", "taped", "I", false)
  | 3 => ("SerialLinkModel", "out", "[B", true)
  | 4 => ("SerialLinkModel", "written", "I", false)
  | 5 => ("SerialLinkModel", "halves", "[I", true)
  | 6 => ("SerialLinkModel", "faultKind", "I", false)
  | 7 => ("SerialLinkModel", "faultAt", "I", false)
  | 8 => ("SerialLinkModel", "plain", "[B", true)
  | 9 => ("SerialLinkModel", "mode", "I", false)
  | 10 => ("SerialLinkModel", "space", "I", false)
  | 11 => ("SerialLinkModel", "window", "I", false)
  | 12 => ("SerialLinkModel", "size", "I", false)
  | 13 => ("SerialLinkModel", "timeout", "I", false)
  | 14 => ("SerialLinkModel", "given", "[B", true)
  | 15 => ("SerialLinkModel", "got", "[B", true)
  | 16 => ("SerialLinkModel", "givenMany", "[I", true)
  | 17 => ("SerialLinkModel", "gotMany", "[I", true)
  | 18 => ("SerialLinkModel", "clock", "[I", true)
  | 19 => ("SerialLinkModel", "timer", "[I", true)
  | 20 => ("SerialLinkModel", "base", "[I", true)
  | 21 => ("SerialLinkModel", "next", "[I", true)
  | 22 => ("SerialLinkModel", "wants", "[I", true)
  | 23 => ("SerialLinkModel", "begins", "[I", true)
  | 24 => ("SerialLinkModel", "timers", "[I", true)
  | 25 => ("SerialLinkModel", "kept", "[Z", true)
  | 26 => ("SerialLinkModel", "held", "[Z", true)
  | 27 => ("SerialLinkModel", "heldMany", "[I", true)
  | 28 => ("SerialLinkModel", "heldBytes", "[B", true)
  | 29 => ("SerialLinkModel", "heard", "[B", true)
  | 30 => ("SerialLinkModel", "heardMany", "[I", true)
  | 31 => ("SerialLinkModel", "clean", "[Z", true)
  | 32 => ("SerialLinkModel", "lineFirst", "[I", true)
  | 33 => ("SerialLinkModel", "lineMany", "[I", true)
  | 34 => ("SerialLinkModel", "frames", "[B", true)
  | 35 => ("SerialLinkModel", "frameMany", "[I", true)
  | 36 => ("SerialLinkModel", "frameSort", "[I", true)
  | 37 => ("SerialLinkModel", "frameNumber", "[I", true)
  | 38 => ("SerialLinkModel", "frameLoad", "[I", true)
  | 39 => ("SerialLinkModel", "frameAgain", "[Z", true)
  | 40 => ("SerialLinkModel", "counts", "[I", true)
  | 41 => ("SerialLinkModel", "body", "[B", true)
  | 42 => ("SerialLinkModel", "read", "[B", true)
  | _ => ("SerialLinkModel", "moving", "[B", true)
def tyX11 : Nat → FieldType := fun k => match k with
  | 0 => .int
  | 1 => .array .byte
  | 2 => .int
  | 3 => .array .byte
  | 4 => .int
  | 5 => .array .int
  | 6 => .int
  | 7 => .int
  | 8 => .array .byte
  | 9 => .int
  | 10 => .int
  | 11 => .int
  | 12 => .int
  | 13 => .int
  | 14 => .array .byte
  | 15 => .array .byte
  | 16 => .array .int
  | 17 => .array .int
  | 18 => .array .int
  | 19 => .array .int
  | 20 => .array .int
  | 21 => .array .int
  | 22 => .array .int
  | 23 => .array .int
  | 24 => .array .int
  | 25 => .array .boolean
  | 26 => .array .boolean
  | 27 => .array .int
  | 28 => .array .byte
  | 29 => .array .byte
  | 30 => .array .int
  | 31 => .array .boolean
  | 32 => .array .int
  | 33 => .array .int
  | 34 => .array .byte
  | 35 => .array .int
  | 36 => .array .int
  | 37 => .array .int
  | 38 => .array .int
  | 39 => .array .boolean
  | 40 => .array .int
  | 41 => .array .byte
  | 42 => .array .byte
  | _ => .array .byte
abbrev wsX110 : List Cond := u_ws RX11 TX11 44
theorem nmX11 : ∀ a, a < 44 → ∀ b, b < 44 → a ≠ b → (TX11 a).2.1 ≠ (TX11 b).2.1 := by decide +kernel
theorem tyX11_ok : ∀ k, k < 44 → parseFieldDescriptor (TX11 k).2.2.1 = some (tyX11 k) := by decide +kernel
abbrev cX11_init : ByteArray := prog_13_method_1_code
def yX11_init : MethodName := ⟨RX11, "<init>", "()V"⟩
abbrev cX11_thrown : ByteArray := prog_13_method_2_code
def yX11_thrown : MethodName := ⟨RX11, "thrown", "()I"⟩
abbrev cX11_isOut : ByteArray := prog_13_method_3_code
def yX11_isOut : MethodName := ⟨RX11, "isOut", "(I)Z"⟩
abbrev cX11_feed : ByteArray := prog_13_method_4_code
def yX11_feed : MethodName := ⟨RX11, "feed", "(IIIII)I"⟩
abbrev cX11_cut : ByteArray := prog_13_method_5_code
def yX11_cut : MethodName := ⟨RX11, "cut", "(I)Z"⟩
abbrev cX11_take : ByteArray := prog_13_method_6_code
def yX11_take : MethodName := ⟨RX11, "take", "()I"⟩
abbrev cX11_checkOf : ByteArray := prog_13_method_7_code
def yX11_checkOf : MethodName := ⟨RX11, "checkOf", "([BII)I"⟩
abbrev cX11_check : ByteArray := prog_13_method_8_code
def yX11_check : MethodName := ⟨RX11, "check", "()I"⟩
abbrev cX11_stuffed : ByteArray := prog_13_method_9_code
def yX11_stuffed : MethodName := ⟨RX11, "stuffed", "([BI[BI)I"⟩
abbrev cX11_unstuffed : ByteArray := prog_13_method_10_code
def yX11_unstuffed : MethodName := ⟨RX11, "unstuffed", "([BI[B)I"⟩
abbrev cX11_faulty : ByteArray := prog_13_method_11_code
def yX11_faulty : MethodName := ⟨RX11, "faulty", "(II)I"⟩
abbrev cX11_stuff : ByteArray := prog_13_method_12_code
def yX11_stuff : MethodName := ⟨RX11, "stuff", "()I"⟩
abbrev cX11_unstuff : ByteArray := prog_13_method_13_code
def yX11_unstuff : MethodName := ⟨RX11, "unstuff", "()I"⟩
abbrev cX11_fault : ByteArray := prog_13_method_14_code
def yX11_fault : MethodName := ⟨RX11, "fault", "(I)I"⟩
abbrev cX11_out : ByteArray := prog_13_method_15_code
def yX11_out : MethodName := ⟨RX11, "out", "(I)I"⟩
abbrev cX11_first : ByteArray := prog_13_method_16_code
def yX11_first : MethodName := ⟨RX11, "first", "()V"⟩
abbrev cX11_open : ByteArray := prog_13_method_17_code
def yX11_open : MethodName := ⟨RX11, "open", "(IIIII)Z"⟩
abbrev cX11_give : ByteArray := prog_13_method_18_code
def yX11_give : MethodName := ⟨RX11, "give", "(I)I"⟩
abbrev cX11_lay : ByteArray := prog_13_method_19_code
def yX11_lay : MethodName := ⟨RX11, "lay", "(IIZ)V"⟩
abbrev cX11_layPiece : ByteArray := prog_13_method_20_code
def yX11_layPiece : MethodName := ⟨RX11, "layPiece", "(IIZ)V"⟩
abbrev cX11_knownBytes : ByteArray := prog_13_method_21_code
def yX11_knownBytes : MethodName := ⟨RX11, "knownBytes", "()I"⟩
abbrev cX11_layKnown : ByteArray := prog_13_method_22_code
def yX11_layKnown : MethodName := ⟨RX11, "layKnown", "(I)V"⟩
abbrev cX11_tickOf : ByteArray := prog_13_method_23_code
def yX11_tickOf : MethodName := ⟨RX11, "tickOf", "(I)V"⟩
abbrev cX11_ticks : ByteArray := prog_13_method_24_code
def yX11_ticks : MethodName := ⟨RX11, "ticks", "()I"⟩
abbrev cX11_tick : ByteArray := prog_13_method_25_code
def yX11_tick : MethodName := ⟨RX11, "tick", "()I"⟩
abbrev cX11_wrong : ByteArray := prog_13_method_26_code
def yX11_wrong : MethodName := ⟨RX11, "wrong", "(I)V"⟩
abbrev cX11_takes : ByteArray := prog_13_method_27_code
def yX11_takes : MethodName := ⟨RX11, "takes", "(II)V"⟩
abbrev cX11_getsAll : ByteArray := prog_13_method_28_code
def yX11_getsAll : MethodName := ⟨RX11, "getsAll", "(I[BII)Z"⟩
abbrev cX11_inOrder : ByteArray := prog_13_method_29_code
def yX11_inOrder : MethodName := ⟨RX11, "inOrder", "(III)V"⟩
abbrev cX11_byItself : ByteArray := prog_13_method_30_code
def yX11_byItself : MethodName := ⟨RX11, "byItself", "(III)V"⟩
abbrev cX11_known : ByteArray := prog_13_method_31_code
def yX11_known : MethodName := ⟨RX11, "known", "(III)V"⟩
abbrev cX11_hears : ByteArray := prog_13_method_32_code
def yX11_hears : MethodName := ⟨RX11, "hears", "(IIZ)V"⟩
abbrev cX11_isRight : ByteArray := prog_13_method_33_code
def yX11_isRight : MethodName := ⟨RX11, "isRight", "(I)Z"⟩
abbrev cX11_moves : ByteArray := prog_13_method_34_code
def yX11_moves : MethodName := ⟨RX11, "moves", "(IIII)V"⟩
abbrev cX11_leaves : ByteArray := prog_13_method_35_code
def yX11_leaves : MethodName := ⟨RX11, "leaves", "(IZ)I"⟩
abbrev cX11_carry : ByteArray := prog_13_method_36_code
def yX11_carry : MethodName := ⟨RX11, "carry", "(III)I"⟩
abbrev cX11_round : ByteArray := prog_13_method_37_code
def yX11_round : MethodName := ⟨RX11, "round", "()I"⟩
abbrev cX11_noise : ByteArray := prog_13_method_38_code
def yX11_noise : MethodName := ⟨RX11, "noise", "(III)I"⟩
abbrev cX11_frameAt : ByteArray := prog_13_method_39_code
def yX11_frameAt : MethodName := ⟨RX11, "frameAt", "(II)I"⟩
abbrev cX11_frame : ByteArray := prog_13_method_40_code
def yX11_frame : MethodName := ⟨RX11, "frame", "(III)I"⟩
abbrev cX11_octet : ByteArray := prog_13_method_41_code
def yX11_octet : MethodName := ⟨RX11, "octet", "(III)I"⟩
abbrev cX11_line : ByteArray := prog_13_method_42_code
def yX11_line : MethodName := ⟨RX11, "line", "(I)I"⟩
abbrev cX11_state : ByteArray := prog_13_method_43_code
def yX11_state : MethodName := ⟨RX11, "state", "(II)I"⟩
abbrev cX11_taken : ByteArray := prog_13_method_44_code
def yX11_taken : MethodName := ⟨RX11, "taken", "(II)I"⟩
abbrev cX11_count : ByteArray := prog_13_method_45_code
def yX11_count : MethodName := ⟨RX11, "count", "(I)I"⟩
def RJx145de : String := "java/io/Serializable"
def TJx145de : u_T := fun k => match k with
  | _ => ("", "", "", false)
def tyJx145de : Nat → FieldType := fun k => match k with
  | _ => .int
abbrev wsJx145de0 : List Cond := u_ws RJx145de TJx145de 0
theorem nmJx145de : ∀ a, a < 0 → ∀ b, b < 0 → a ≠ b → (TJx145de a).2.1 ≠ (TJx145de b).2.1 := by decide +kernel
theorem tyJx145de_ok : ∀ k, k < 0 → parseFieldDescriptor (TJx145de k).2.2.1 = some (tyJx145de k) := by decide +kernel
def RJ9 : String := "java/lang/Math"
def TJ9 : u_T := fun k => match k with
  | _ => ("", "", "", false)
def tyJ9 : Nat → FieldType := fun k => match k with
  | _ => .int
abbrev wsJ90 : List Cond := u_ws RJ9 TJ9 0
theorem nmJ9 : ∀ a, a < 0 → ∀ b, b < 0 → a ≠ b → (TJ9 a).2.1 ≠ (TJ9 b).2.1 := by decide +kernel
theorem tyJ9_ok : ∀ k, k < 0 → parseFieldDescriptor (TJ9 k).2.2.1 = some (tyJ9 k) := by decide +kernel
abbrev cJ9_floorMod_7cf53 : ByteArray := prog_16_method_50_code
def yJ9_floorMod_7cf53 : MethodName := ⟨RJ9, "floorMod", "(II)I"⟩
abbrev cJ9_max_7cf53 : ByteArray := prog_16_method_65_code
def yJ9_max_7cf53 : MethodName := ⟨RJ9, "max", "(II)I"⟩
abbrev cJ9_min_7cf53 : ByteArray := prog_16_method_69_code
def yJ9_min_7cf53 : MethodName := ⟨RJ9, "min", "(II)I"⟩
def RJ0 : String := "java/lang/String"
def TJ0 : u_T := fun k => match k with
  | _ => ("", "", "", false)
def tyJ0 : Nat → FieldType := fun k => match k with
  | _ => .int
abbrev wsJ00 : List Cond := u_ws RJ0 TJ0 0
theorem nmJ0 : ∀ a, a < 0 → ∀ b, b < 0 → a ≠ b → (TJ0 a).2.1 ≠ (TJ0 b).2.1 := by decide +kernel
theorem tyJ0_ok : ∀ k, k < 0 → parseFieldDescriptor (TJ0 k).2.2.1 = some (tyJ0 k) := by decide +kernel
def RJ7 : String := "java/util/Arrays"
def TJ7 : u_T := fun k => match k with
  | _ => ("", "", "", false)
def tyJ7 : Nat → FieldType := fun k => match k with
  | _ => .int
abbrev wsJ70 : List Cond := u_ws RJ7 TJ7 0
theorem nmJ7 : ∀ a, a < 0 → ∀ b, b < 0 → a ≠ b → (TJ7 a).2.1 ≠ (TJ7 b).2.1 := by decide +kernel
theorem tyJ7_ok : ∀ k, k < 0 → parseFieldDescriptor (TJ7 k).2.2.1 = some (tyJ7 k) := by decide +kernel
abbrev cJ7_fill_53178 : ByteArray := prog_20_method_103_code
def yJ7_fill_53178 : MethodName := ⟨RJ7, "fill", "([II)V"⟩
def RL : String := "SerialLinkLaw"
abbrev cL_give : ByteArray := method_3_code
def yL_give : MethodName := ⟨RL, "give", "(LSerialLink;I[J)I"⟩
abbrev cL_carry : ByteArray := method_4_code
def yL_carry : MethodName := ⟨RL, "carry", "(LSerialLink;III[J)I"⟩
abbrev cL_noise : ByteArray := method_5_code
def yL_noise : MethodName := ⟨RL, "noise", "(LSerialLink;III[J)I"⟩
abbrev cL_frame : ByteArray := method_6_code
def yL_frame : MethodName := ⟨RL, "frame", "(LSerialLink;III[J)I"⟩
abbrev cL_octet : ByteArray := method_7_code
def yL_octet : MethodName := ⟨RL, "octet", "(LSerialLink;III[J)I"⟩
abbrev cL_line : ByteArray := method_8_code
def yL_line : MethodName := ⟨RL, "line", "(LSerialLink;I[J)I"⟩
abbrev cL_state : ByteArray := method_9_code
def yL_state : MethodName := ⟨RL, "state", "(LSerialLink;II[J)I"⟩
abbrev cL_taken : ByteArray := method_10_code
def yL_taken : MethodName := ⟨RL, "taken", "(LSerialLink;II[J)I"⟩
abbrev cL_law : ByteArray := code
def yL_law : MethodName := ⟨RL, "law", "([I)Z"⟩
end
section
/-! ===== values, states, one step ===== -/
/-- an int; a reference (which kind of cell, which one of it) or null; a long -/
abbrev sl_V : Type := Sum Int32 (Sum (Option (Nat × Nat)) Int64)
/-- what a method answers: an int, which cell, 0 (1: null, 2: it threw) -/
abbrev sl_PL : Type := Int32 × Nat × Nat
/-- pc, locals, stack -/
abbrev sl_S : Type := Nat × List (Option sl_V) × List sl_V
/-- an instruction: its number, a constant, an index or target, its length, a table's targets -/
abbrev sl_E : Type := Nat × Int32 × Nat × Nat × List Nat
/-- a call: method, how many arguments, what comes back, its cells' kind, does it throw, the receiver's kind and 1 (0: none) -/
abbrev sl_C : Type := Nat × Nat × Nat × Nat × Nat × Nat
def sl_v (ad : Nat → Nat → Nat) (v : sl_V) : Value := match v with
  | .inl x => .int x
  | .inr (.inl none) => .null
  | .inr (.inl (some q)) => .ref (ad q.1 q.2)
  | .inr (.inr y) => .long y
def sl_c1 (v : sl_V) : Bool := match v with
  | .inr (.inr _) => false
  | _ => true
def sl_cs : List sl_V → Nat
  | [] => 0
  | v :: r => (bif sl_c1 v then 1 else 2) + sl_cs r
/-- null alone, or a cell of that kind -/
def sl_rc1 (c : Nat) (as : List sl_V) : Bool := match as with
  | .inr (.inl (some q)) :: _ => q.1 == c
  | _ => false
def sl_rc (rv : Nat) (as : List sl_V) : Bool := match rv with
  | 0 => true
  | c + 1 => sl_rc1 c as
/-- an array cell's kind of elements, by its kind -/
def sl_ak (c : Nat) : Nat := bif Nat.ble 74 c then 9 else bif Nat.ble 70 c then 2 else bif Nat.ble 50 c then 1 else match c with
  | 20 => 0 | 22 => 4 | 23 => 1 | 24 => 1 | 25 => 1 | 26 => 2 | 27 => 1 | 30 => 0 | 40 => 3 | 41 => 1 | _ => 9
section SLA
variable {M : Type} (X : sl_S → M → Option (sl_PL × M)) (pc n : Nat) (lo : List (Option sl_V)) (st : List sl_V) (m : M)
def sl_iload (j : Nat) : Option (sl_PL × M) := match lo[j]? with
  | some (some (.inl x)) => X (pc + n, lo, .inl x :: st) m
  | _ => none
def sl_aload (j : Nat) : Option (sl_PL × M) := match lo[j]? with
  | some (some (.inr (.inl r))) => X (pc + n, lo, .inr (.inl r) :: st) m
  | _ => none
def sl_istore (j : Nat) : Option (sl_PL × M) := match st with
  | .inl x :: r => X (pc + n, lo.set j (some (.inl x)), r) m
  | _ => none
def sl_astore (j : Nat) : Option (sl_PL × M) := match st with
  | .inr (.inl a) :: r => X (pc + n, lo.set j (some (.inr (.inl a))), r) m
  | _ => none
def sl_iinc (j : Nat) (k : Int32) : Option (sl_PL × M) := match lo[j]? with
  | some (some (.inl x)) => X (pc + n, lo.set j (some (.inl (x + k))), st) m
  | _ => none
def sl_bin (f : Int32 → Int32 → Int32) : Option (sl_PL × M) := match st with
  | .inl y :: .inl x :: r => X (pc + n, lo, .inl (f x y) :: r) m
  | _ => none
def sl_dv (f : Int32 → Int32 → Int32) : Option (sl_PL × M) := match st with
  | .inl y :: .inl x :: r => if y = 0 then none else X (pc + n, lo, .inl (f x y) :: r) m
  | _ => none
def sl_un (f : Int32 → sl_V) : Option (sl_PL × M) := match st with
  | .inl x :: r => X (pc + n, lo, f x :: r) m
  | _ => none
def sl_dup : Option (sl_PL × M) := match st with
  | v :: r => bif sl_c1 v then X (pc + n, lo, v :: v :: r) m else none
  | _ => none
def sl_dup2 : Option (sl_PL × M) := match st with
  | v :: w :: r => bif sl_c1 v && sl_c1 w then X (pc + n, lo, v :: w :: v :: w :: r) m else none
  | _ => none
def sl_pop : Option (sl_PL × M) := match st with
  | v :: r => bif sl_c1 v then X (pc + n, lo, r) m else none
  | _ => none
def sl_ceq (j : Nat) : Option (sl_PL × M) := match st with
  | .inl y :: .inl x :: r => if x = y then X (j, lo, r) m else X (pc + n, lo, r) m
  | _ => none
def sl_cne (j : Nat) : Option (sl_PL × M) := match st with
  | .inl y :: .inl x :: r => if x = y then X (pc + n, lo, r) m else X (j, lo, r) m
  | _ => none
def sl_clt (j : Nat) : Option (sl_PL × M) := match st with
  | .inl y :: .inl x :: r => if x < y then X (j, lo, r) m else X (pc + n, lo, r) m
  | _ => none
def sl_cge (j : Nat) : Option (sl_PL × M) := match st with
  | .inl y :: .inl x :: r => if y ≤ x then X (j, lo, r) m else X (pc + n, lo, r) m
  | _ => none
def sl_cgt (j : Nat) : Option (sl_PL × M) := match st with
  | .inl y :: .inl x :: r => if y < x then X (j, lo, r) m else X (pc + n, lo, r) m
  | _ => none
def sl_cle (j : Nat) : Option (sl_PL × M) := match st with
  | .inl y :: .inl x :: r => if x ≤ y then X (j, lo, r) m else X (pc + n, lo, r) m
  | _ => none
def sl_zeq (j : Nat) : Option (sl_PL × M) := match st with
  | .inl x :: r => if x = 0 then X (j, lo, r) m else X (pc + n, lo, r) m
  | _ => none
def sl_zne (j : Nat) : Option (sl_PL × M) := match st with
  | .inl x :: r => if x = 0 then X (pc + n, lo, r) m else X (j, lo, r) m
  | _ => none
def sl_zlt (j : Nat) : Option (sl_PL × M) := match st with
  | .inl x :: r => if x < 0 then X (j, lo, r) m else X (pc + n, lo, r) m
  | _ => none
def sl_zge (j : Nat) : Option (sl_PL × M) := match st with
  | .inl x :: r => if 0 ≤ x then X (j, lo, r) m else X (pc + n, lo, r) m
  | _ => none
def sl_zgt (j : Nat) : Option (sl_PL × M) := match st with
  | .inl x :: r => if 0 < x then X (j, lo, r) m else X (pc + n, lo, r) m
  | _ => none
def sl_zle (j : Nat) : Option (sl_PL × M) := match st with
  | .inl x :: r => if x ≤ 0 then X (j, lo, r) m else X (pc + n, lo, r) m
  | _ => none
def sl_ifn (j : Nat) : Option (sl_PL × M) := match st with
  | .inr (.inl none) :: r => X (j, lo, r) m
  | .inr (.inl (some _)) :: r => X (pc + n, lo, r) m
  | _ => none
def sl_ifnn (j : Nat) : Option (sl_PL × M) := match st with
  | .inr (.inl none) :: r => X (pc + n, lo, r) m
  | .inr (.inl (some _)) :: r => X (j, lo, r) m
  | _ => none
def sl_sw (j : Nat) (x : Int32) (r : List sl_V) : Nat → List Nat → Option (sl_PL × M)
  | _, [] => X (j, lo, r) m
  | i, t :: ts => if x = Int32.ofNat i then X (t, lo, r) m else sl_sw j x r (i + 1) ts
def sl_tsw (j : Nat) (ts : List Nat) : Option (sl_PL × M) := match st with
  | .inl x :: r => sl_sw X lo m j x r 0 ts
  | _ => none
def sl_lcmp : Option (sl_PL × M) := match st with
  | .inr (.inr y) :: .inr (.inr x) :: r => X (pc + n, lo, .inl (lg_cmp x y) :: r) m
  | _ => none
def sl_oi : Option (sl_PL × M) := match st with
  | .inr (.inl (some _)) :: r => bif Nat.ble (sl_cs r) 8 then X (pc + n, lo, r) m else none
  | _ => none
variable (rd : M → Nat → Nat → Nat → sl_V) (wr : M → Nat → Nat → Nat → sl_V → Option M) (ln : Nat → Nat → Nat)
def sl_getf (f : Option (Nat × Nat)) : Option (sl_PL × M) := match f with
  | some (ci, k) => match st with
    | .inr (.inl (some q)) :: r => bif q.1 == ci then X (pc + n, lo, rd m ci q.2 k :: r) m else none
    | _ => none
  | none => none
def sl_wrt (c i k : Nat) (v : sl_V) (r : List sl_V) : Option (sl_PL × M) := match wr m c i k v with
  | some m' => X (pc + n, lo, r) m'
  | none => none
def sl_pok (t : Nat) (v : sl_V) (z : Option (sl_PL × M)) : Option (sl_PL × M) := match t with
  | 0 => (match v with
    | .inl _ => z
    | _ => none)
  | 1 => (match v with
    | .inl x => if x = 0 ∨ x = 1 then z else none
    | _ => none)
  | 2 => (match v with
    | .inr (.inl _) => z
    | _ => none)
  | _ => none
def sl_putf (f : Option (Nat × Nat × Nat)) : Option (sl_PL × M) := match f with
  | some (ci, k, t) => match st with
    | v :: .inr (.inl (some q)) :: r => bif q.1 == ci then sl_pok t v (sl_wrt X pc n lo m wr ci q.2 k v r) else none
    | _ => none
  | none => none
/-- an array's kind of elements: 0 byte, 1 int, 2 boolean, 3 long, 4 references -/
def sl_xld (ok : Nat → Bool) : Option (sl_PL × M) := match st with
  | .inl i :: .inr (.inl (some q)) :: r => bif ok q.1 && !(q.1 == 41) then (if 0 ≤ i ∧ i.toNatClampNeg < ln q.1 q.2 then X (pc + n, lo, rd m q.1 q.2 i.toNatClampNeg :: r) m else none) else none
  | _ => none
def sl_xst (ok : Nat → sl_V → Bool) : Option (sl_PL × M) := match st with
  | v :: .inl i :: .inr (.inl (some q)) :: r => bif ok q.1 v && !(q.1 == 41) then (if 0 ≤ i ∧ i.toNatClampNeg < ln q.1 q.2 then sl_wrt X pc n lo m wr q.1 q.2 i.toNatClampNeg v r else none) else none
  | _ => none
/-- the script: its elements, its length -/
def sl_sld (sL : Nat) (sf : Nat → Int32) : Option (sl_PL × M) := match st with
  | .inl i :: .inr (.inl (some q)) :: r => bif q.1 == 41 then (if 0 ≤ i ∧ i.toNatClampNeg < sL then X (pc + n, lo, .inl (sf i.toNatClampNeg) :: r) m else none) else none
  | _ => none
def sl_sln (sL : Nat) : Option (sl_PL × M) := match st with
  | .inr (.inl (some q)) :: r => bif q.1 == 41 then X (pc + n, lo, .inl (Int32.ofNat sL) :: r) m else none
  | _ => none
def sl_alen : Option (sl_PL × M) := match st with
  | .inr (.inl (some q)) :: r => bif Nat.ble (sl_ak q.1) 4 && !(q.1 == 41) then X (pc + n, lo, .inl (Int32.ofNat (ln q.1 q.2)) :: r) m else none
  | _ => none
def sl_back (rk rc : Nat) (q : sl_PL × M) (r : List sl_V) : Option (sl_PL × M) := match rk with
  | 0 => X (pc + n, lo, r) q.2
  | 1 => X (pc + n, lo, .inl q.1.1 :: r) q.2
  | 2 => X (pc + n, lo, .inr (.inl (some (rc, q.1.2.1))) :: r) q.2
  | _ => if q.1.2.2 = 1 then X (pc + n, lo, .inr (.inl none) :: r) q.2 else X (pc + n, lo, .inr (.inl (some (rc, q.1.2.1))) :: r) q.2
def sl_call (call : Nat → List sl_V → M → Option (sl_PL × M)) (f : Option sl_C) : Option (sl_PL × M) := match f with
  | some (y, na, rk, rc, th, rv) =>
    bif sl_rc rv (st.take na).reverse && ((st.take na).all sl_c1 && (Nat.ble (sl_cs (st.drop na)) 8 && Nat.beq (st.take na).length na)) then
      (match th with
      | 0 => (call y (st.take na).reverse m).bind (fun q => sl_back X pc n lo rk rc q (st.drop na))
      | _ => (call y (st.take na).reverse m).bind (fun q => if q.1.2.2 = 2 then some ((0, 0, 2), q.2) else sl_back X pc n lo rk rc q (st.drop na)))
    else none
  | none => none
def sl_alo (f : Option ((Nat × Nat) × M)) (r : List sl_V) : Option (sl_PL × M) := match f with
  | some (q, m') => X (pc + n, lo, .inr (.inl (some q)) :: r) m'
  | none => none
def sl_newc (al : M → Nat → Int32 → Option ((Nat × Nat) × M)) (f : Option Nat) : Option (sl_PL × M) := match f with
  | some ci => sl_alo X pc n lo (al m ci 0) st
  | none => none
def sl_newa (al : M → Nat → Int32 → Option ((Nat × Nat) × M)) (t : Nat) : Option (sl_PL × M) := match st with
  | .inl x :: r => sl_alo X pc n lo (al m t x) r
  | _ => none
def sl_iret (j : Nat) : Option (sl_PL × M) := match st with
  | [.inl x] => (match j with
    | 1 => some ((x, 0, 0), m)
    | _ => if x = 0 ∨ x = 1 then some ((x, 0, 0), m) else none)
  | _ => none
def sl_aret (j : Nat) : Option (sl_PL × M) := match st with
  | [.inr (.inl (some q))] => bif q.1 == j then some ((0, q.2, 0), m) else none
  | _ => none
def sl_nret (j : Nat) : Option (sl_PL × M) := match st with
  | [.inr (.inl none)] => some ((0, 0, 1), m)
  | [.inr (.inl (some q))] => bif q.1 == j then some ((0, q.2, 0), m) else none
  | _ => none
def sl_vret : Option (sl_PL × M) := match st with
  | [] => some ((0, 0, 0), m)
  | _ => none
def sl_thr : Option (sl_PL × M) := match st with
  | [] => some ((0, 0, 2), m)
  | _ => none
end SLA
def sl_okb (c : Nat) : Bool := match sl_ak c with
  | 0 => true | 2 => true | _ => false
def sl_osi (c : Nat) (v : sl_V) : Bool := match v with
  | .inl _ => sl_ak c == 1
  | _ => false
def sl_osb (c : Nat) (v : sl_V) : Bool := match v with
  | .inl _ => sl_okb c
  | _ => false
def sl_osl (c : Nat) (v : sl_V) : Bool := match v with
  | .inr (.inr _) => sl_ak c == 3
  | _ => false
def sl_osa (c : Nat) (v : sl_V) : Bool := match v with
  | .inr (.inl (some q)) => sl_ak c == 4 && q.1 == 2
  | _ => false
section SLB
variable {M : Type} (tb : Nat → Option sl_E) (fl : Nat → Option (Nat × Nat)) (pf : Nat → Option (Nat × Nat × Nat)) (cl : Nat → Option sl_C) (nw : Nat → Option Nat) (rd : M → Nat → Nat → Nat → sl_V) (wr : M → Nat → Nat → Nat → sl_V → Option M) (al : M → Nat → Int32 → Option ((Nat × Nat) × M)) (ln : Nat → Nat → Nat) (sL : Nat) (sf : Nat → Int32) (call : Nat → List sl_V → M → Option (sl_PL × M)) (X : sl_S → M → Option (sl_PL × M))
def sl_op (k : Nat) (x : Int32) (j n : Nat) (ts : List Nat) (pc : Nat) (lo : List (Option sl_V)) (st : List sl_V) (m : M) : Option (sl_PL × M) :=
  match k with
  | 0 => sl_iload X pc n lo st m j
  | 1 => sl_aload X pc n lo st m j
  | 2 => X (pc + n, lo, .inl x :: st) m
  | 3 => sl_istore X pc n lo st m j
  | 4 => sl_astore X pc n lo st m j
  | 5 => sl_iinc X pc n lo st m j x
  | 6 => sl_bin X pc n lo st m (fun a b => a + b)
  | 7 => sl_bin X pc n lo st m (fun a b => a - b)
  | 8 => sl_bin X pc n lo st m (fun a b => a * b)
  | 9 => sl_dv X pc n lo st m (fun a b => a / b)
  | 10 => sl_dv X pc n lo st m (fun a b => a - a / b * b)
  | 11 => sl_bin X pc n lo st m (fun a b => a &&& b)
  | 12 => sl_bin X pc n lo st m (fun a b => a ||| b)
  | 13 => sl_bin X pc n lo st m (fun a b => a ^^^ b)
  | 14 => sl_bin X pc n lo st m (fun a b => a <<< (b &&& 31))
  | 15 => sl_bin X pc n lo st m (fun a b => a >>> (b &&& 31))
  | 16 => sl_bin X pc n lo st m (fun a b => (a.toUInt32 >>> (b.toUInt32 &&& Int32.toUInt32 31)).toInt32)
  | 17 => sl_un X pc n lo st m (fun a => .inl a.toInt8.toInt32)
  | 18 => sl_un X pc n lo st m (fun a => .inr (.inr a.toInt64))
  | 19 => sl_dup X pc n lo st m
  | 20 => sl_dup2 X pc n lo st m
  | 21 => sl_pop X pc n lo st m
  | 22 => sl_ceq X pc n lo st m j
  | 23 => sl_cne X pc n lo st m j
  | 24 => sl_clt X pc n lo st m j
  | 25 => sl_cge X pc n lo st m j
  | 26 => sl_cgt X pc n lo st m j
  | 27 => sl_cle X pc n lo st m j
  | 28 => sl_zeq X pc n lo st m j
  | 29 => sl_zne X pc n lo st m j
  | 30 => sl_zlt X pc n lo st m j
  | 31 => sl_zge X pc n lo st m j
  | 32 => sl_zgt X pc n lo st m j
  | 33 => sl_zle X pc n lo st m j
  | 34 => X (j, lo, st) m
  | 35 => sl_getf X pc n lo st m rd (fl j)
  | 36 => sl_putf X pc n lo st m wr (pf j)
  | 37 => sl_xld X pc n lo st m rd ln (fun c => sl_ak c == 1)
  | 38 => sl_xld X pc n lo st m rd ln sl_okb
  | 39 => sl_xld X pc n lo st m rd ln (fun c => sl_ak c == 4)
  | 40 => sl_xld X pc n lo st m rd ln (fun c => sl_ak c == 3)
  | 41 => sl_xst X pc n lo st m wr ln sl_osi
  | 42 => sl_xst X pc n lo st m wr ln sl_osb
  | 43 => sl_xst X pc n lo st m wr ln sl_osa
  | 44 => sl_xst X pc n lo st m wr ln sl_osl
  | 45 => sl_alen X pc n lo st m ln
  | 46 => sl_call X pc n lo st m call (cl j)
  | 47 => sl_iret st m j
  | 48 => sl_aret st m j
  | 49 => sl_nret st m j
  | 50 => sl_vret st m
  | 51 => X (pc + n, lo, .inr (.inl none) :: st) m
  | 52 => sl_ifn X pc n lo st m j
  | 53 => sl_ifnn X pc n lo st m j
  | 54 => sl_newc X pc n lo st m al (nw j)
  | 55 => sl_newa X pc n lo st m al j
  | 56 => sl_thr st m
  | 57 => sl_tsw X lo st m j ts
  | 58 => sl_lcmp X pc n lo st m
  | 59 => sl_oi X pc n lo st m
  | 60 => X (pc + n, lo, .inl x :: st) m
  | 61 => sl_newa X pc n lo st m al 104
  | 62 => sl_sld X pc n lo st m sL sf
  | 63 => sl_sln X pc n lo st m sL
  | _ => none
def sl_step (s : sl_S) (m : M) : Option (sl_PL × M) := match tb s.1 with
  | some (k, x, j, n, ts) => sl_op fl pf cl nw rd wr al ln sL sf call X k x j n ts s.1 s.2.1 s.2.2 m
  | none => none
variable (stop : Nat → Bool) (mask : Nat → List Bool)
def sl_run (C : sl_S → M → Option (sl_PL × M)) : Nat → sl_S → M → Option (sl_PL × M)
  | 0, _, _ => none
  | n + 1, s, m => sl_step tb fl pf cl nw rd wr al ln sL sf call (fun s' m' => bif stop s'.1 then C s' m' else sl_run C n s' m') s m
def sl_mask : List Bool → List (Option sl_V) → List (Option sl_V)
  | b :: bs, v :: vs => (bif b then v else none) :: sl_mask bs vs
  | _, _ => []
/-- from one stop to the next; what isn't wanted behind a stop is forgotten -/
def sl_B : Nat → sl_S → M → Option (sl_PL × M)
  | 0, _, _ => none
  | n + 1, s, m => sl_run tb fl pf cl nw rd wr al ln sL sf call stop (fun s' m' => sl_B n (s'.1, sl_mask (mask s'.1) s'.2.1, s'.2.2) m') 400 s m
def sl_lo (nL : Nat) (as : List sl_V) : List (Option sl_V) := as.map some ++ List.replicate (nL - as.length) none
def sl_F (nL : Nat) (as : List sl_V) (m : M) : Option (sl_PL × M) := sl_B tb fl pf cl nw rd wr al ln sL sf call stop mask 100000 (0, sl_lo nL as, []) m
end SLB
end
section
/-! ===== what a table of instructions says of the bytes ===== -/
def sl_in (k : Nat) : Instr := match k with
  | 6 => .iadd
  | 7 => .isub
  | 8 => .imul
  | 9 => .idiv
  | 10 => .irem
  | 11 => .iand
  | 12 => .ior
  | 13 => .ixor
  | 14 => .ishl
  | 15 => .ishr
  | 16 => .iushr
  | 17 => .i2b
  | 18 => .i2l
  | 19 => .dup
  | 20 => .dup2
  | 21 => .pop
  | 37 => .iaload
  | 38 => .baload
  | 39 => .aaload
  | 40 => .laload
  | 41 => .iastore
  | 42 => .bastore
  | 43 => .aastore
  | 44 => .lastore
  | 45 => .arraylength
  | 47 => .ireturn
  | 48 => .areturn
  | 49 => .areturn
  | 50 => .return_
  | 51 => .aconst_null
  | 58 => .lcmp
  | 62 => .iaload
  | 63 => .arraylength
  | _ => .nop
def sl_oks (i : Instr) (k : Nat) : Bool := match i with
  | .iadd => Nat.beq k 6
  | .isub => Nat.beq k 7
  | .imul => Nat.beq k 8
  | .idiv => Nat.beq k 9
  | .irem => Nat.beq k 10
  | .iand => Nat.beq k 11
  | .ior => Nat.beq k 12
  | .ixor => Nat.beq k 13
  | .ishl => Nat.beq k 14
  | .ishr => Nat.beq k 15
  | .iushr => Nat.beq k 16
  | .i2b => Nat.beq k 17
  | .i2l => Nat.beq k 18
  | .dup => Nat.beq k 19
  | .dup2 => Nat.beq k 20
  | .pop => Nat.beq k 21
  | .iaload => Nat.beq k 37 || Nat.beq k 62
  | .baload => Nat.beq k 38
  | .aaload => Nat.beq k 39
  | .laload => Nat.beq k 40
  | .iastore => Nat.beq k 41
  | .bastore => Nat.beq k 42
  | .aastore => Nat.beq k 43
  | .lastore => Nat.beq k 44
  | .arraylength => Nat.beq k 45 || Nat.beq k 63
  | .ireturn => Nat.beq k 47
  | .areturn => Nat.beq k 48 || Nat.beq k 49
  | .return_ => Nat.beq k 50
  | .aconst_null => Nat.beq k 51
  | .lcmp => Nat.beq k 58
  | _ => false
theorem sl_oks_in {i : Instr} {k : Nat} (h : sl_oks i k = true) : i = sl_in k := by
  unfold sl_oks at h
  split at h <;> first | (cases h; done) | (simp only [Bool.or_eq_true, Nat.beq_eq] at h; first | (subst h; rfl) | (rcases h with h | h <;> (subst h; rfl)))
def sl_is1 (k : Nat) : Bool := Nat.beq k 6 || Nat.beq k 7 || Nat.beq k 8 || Nat.beq k 9 || Nat.beq k 10 || Nat.beq k 11 || Nat.beq k 12 || Nat.beq k 13 || Nat.beq k 14 || Nat.beq k 15 || Nat.beq k 16 || Nat.beq k 17 || Nat.beq k 18 || Nat.beq k 19 || Nat.beq k 20 || Nat.beq k 21 || Nat.beq k 37 || Nat.beq k 38 || Nat.beq k 39 || Nat.beq k 40 || Nat.beq k 41 || Nat.beq k 42 || Nat.beq k 43 || Nat.beq k 44 || Nat.beq k 45 || Nat.beq k 47 || Nat.beq k 48 || Nat.beq k 49 || Nat.beq k 50 || Nat.beq k 51 || Nat.beq k 58 || Nat.beq k 62 || Nat.beq k 63
def sl_is2 (k : Nat) : Bool := Nat.beq k 22 || Nat.beq k 23 || Nat.beq k 24 || Nat.beq k 25 || Nat.beq k 26 || Nat.beq k 27 || Nat.beq k 28 || Nat.beq k 29 || Nat.beq k 30 || Nat.beq k 31 || Nat.beq k 32 || Nat.beq k 33 || Nat.beq k 34 || Nat.beq k 52 || Nat.beq k 53
def sl_br (k : Nat) (off : Int) : Instr := match k with
  | 22 => .if_icmp .eq off
  | 23 => .if_icmp .ne off
  | 24 => .if_icmp .lt off
  | 25 => .if_icmp .ge off
  | 26 => .if_icmp .gt off
  | 27 => .if_icmp .le off
  | 28 => .ifCond .eq off
  | 29 => .ifCond .ne off
  | 30 => .ifCond .lt off
  | 31 => .ifCond .ge off
  | 32 => .ifCond .gt off
  | 33 => .ifCond .le off
  | 34 => .goto off
  | 52 => .ifnull off
  | 53 => .ifnonnull off
  | _ => .nop
def sl_okb2 (i : Instr) (pc k j : Nat) : Bool := match i with
  | .if_icmp .eq off => Nat.beq k 22 && decide ((pc : Int) + off = (j : Int))
  | .if_icmp .ne off => Nat.beq k 23 && decide ((pc : Int) + off = (j : Int))
  | .if_icmp .lt off => Nat.beq k 24 && decide ((pc : Int) + off = (j : Int))
  | .if_icmp .ge off => Nat.beq k 25 && decide ((pc : Int) + off = (j : Int))
  | .if_icmp .gt off => Nat.beq k 26 && decide ((pc : Int) + off = (j : Int))
  | .if_icmp .le off => Nat.beq k 27 && decide ((pc : Int) + off = (j : Int))
  | .ifCond .eq off => Nat.beq k 28 && decide ((pc : Int) + off = (j : Int))
  | .ifCond .ne off => Nat.beq k 29 && decide ((pc : Int) + off = (j : Int))
  | .ifCond .lt off => Nat.beq k 30 && decide ((pc : Int) + off = (j : Int))
  | .ifCond .ge off => Nat.beq k 31 && decide ((pc : Int) + off = (j : Int))
  | .ifCond .gt off => Nat.beq k 32 && decide ((pc : Int) + off = (j : Int))
  | .ifCond .le off => Nat.beq k 33 && decide ((pc : Int) + off = (j : Int))
  | .goto off => Nat.beq k 34 && decide ((pc : Int) + off = (j : Int))
  | .ifnull off => Nat.beq k 52 && decide ((pc : Int) + off = (j : Int))
  | .ifnonnull off => Nat.beq k 53 && decide ((pc : Int) + off = (j : Int))
  | _ => false
theorem sl_okb2_in {i : Instr} {pc k j : Nat} (h : sl_okb2 i pc k j = true) : ∃ off : Int, i = sl_br k off ∧ (pc : Int) + off = (j : Int) := by
  unfold sl_okb2 at h
  split at h <;> first | (cases h; done) | (simp only [Bool.and_eq_true, Nat.beq_eq, decide_eq_true_eq] at h; obtain ⟨h1, h2⟩ := h; subst h1; exact ⟨_, rfl, h2⟩)
def sl_okl (i : Instr) (k : Nat) (x : Int32) (j n : Nat) : Bool := match i with
  | .iload_n q => Nat.beq k 0 && (Nat.beq q.val j && Nat.beq n 1)
  | .iload q => Nat.beq k 0 && (Nat.beq q j && Nat.beq n 2)
  | .aload_n q => Nat.beq k 1 && (Nat.beq q.val j && Nat.beq n 1)
  | .aload q => Nat.beq k 1 && (Nat.beq q j && Nat.beq n 2)
  | .istore_n q => Nat.beq k 3 && (Nat.beq q.val j && Nat.beq n 1)
  | .istore q => Nat.beq k 3 && (Nat.beq q j && Nat.beq n 2)
  | .astore_n q => Nat.beq k 4 && (Nat.beq q.val j && Nat.beq n 1)
  | .astore q => Nat.beq k 4 && (Nat.beq q j && Nat.beq n 2)
  | .iinc q v => Nat.beq k 5 && (Nat.beq q j && (Nat.beq n 3 && decide (Int32.ofInt v = x)))
  | .iconst v => Nat.beq k 2 && (decide (Int32.ofInt v = x) && Nat.beq n 1)
  | .bipush v => Nat.beq k 2 && (decide ((Int8.ofInt v).toInt32 = x) && Nat.beq n 2)
  | .sipush v => Nat.beq k 2 && (decide ((Int16.ofInt v).toInt32 = x) && Nat.beq n 3)
  | _ => false
def sl_nk (t : ArrayType) : Nat := match t with
  | .byte => 100 | .int => 101 | .boolean => 102 | .long => 103 | _ => 0
def sl_okc (i : Instr) (k j n c9 : Nat) : Bool := match i with
  | .getfield q => Nat.beq k 35 && (Nat.beq q j && Nat.beq n 3)
  | .putfield q => Nat.beq k 36 && (Nat.beq q j && Nat.beq n 3)
  | .invokevirtual q => Nat.beq k 46 && (Nat.beq q j && (Nat.beq n 3 && Nat.beq c9 0))
  | .invokestatic q => Nat.beq k 46 && (Nat.beq q j && (Nat.beq n 3 && Nat.beq c9 1))
  | .invokespecial q => (Nat.beq k 46 && (Nat.beq q j && (Nat.beq n 3 && (Nat.beq c9 2 || Nat.beq c9 3)))) || (Nat.beq k 59 && (Nat.beq q j && Nat.beq n 3))
  | .new q => (Nat.beq k 54 || Nat.beq k 56) && (Nat.beq q j && Nat.beq n 3)
  | .newarray t => Nat.beq k 55 && (Nat.beq (sl_nk t) j && Nat.beq n 2)
  | .anewarray q => Nat.beq k 61 && (Nat.beq q j && Nat.beq n 3)
  | .ldc q => Nat.beq k 60 && (Nat.beq q j && Nat.beq n 2)
  | _ => false
def sl_oto (pc : Nat) : List Int → List Nat → Bool
  | [], [] => true
  | a :: r, t :: ts => decide ((pc : Int) + a = (t : Int)) && sl_oto pc r ts
  | _, _ => false
def sl_okt (i : Instr) (pc k j : Nat) (ts : List Nat) : Bool := match i with
  | .tableswitch d lo hi offs => Nat.beq k 57 && (decide (lo = 0) && (decide ((hi : Int) + 1 = ts.length) && (decide ((pc : Int) + d = (j : Int)) && (sl_oto pc offs.toList ts && decide (ts.length < 1000)))))
  | _ => false
def sl_oki (i : Instr) (pc k : Nat) (x : Int32) (j n : Nat) (ts : List Nat) (c9 : Nat) : Bool :=
  bif sl_is1 k then sl_oks i k && Nat.beq n 1 else bif sl_is2 k then sl_okb2 i pc k j && Nat.beq n 3 else bif Nat.ble k 5 then sl_okl i k x j n else bif Nat.beq k 57 then sl_okt i pc k j ts else sl_okc i k j n c9
def sl_okd (cc : ByteArray) (ck : Nat → Nat) (pc : Nat) (E : sl_E) : Bool := match decode cc pc with
  | .ok (i, n9) => Nat.beq n9 E.2.2.2.1 && sl_oki i pc E.1 E.2.1 E.2.2.1 E.2.2.2.1 E.2.2.2.2 (ck E.2.2.1)
  | _ => false
/-- every entry of a table, below N, is what the bytes say -/
def sl_okT (cc : ByteArray) (ck : Nat → Nat) (tb : Nat → Option sl_E) (N : Nat) : Bool := (List.range N).all (fun pc => match tb pc with
  | some E => sl_okd cc ck pc E
  | none => true)

theorem sl_dk {cc : ByteArray} {ck : Nat → Nat} {pc k j n : Nat} {x : Int32} {ts : List Nat} (h : sl_okd cc ck pc (k, x, j, n, ts) = true) : ∃ i, decode cc pc = .ok (i, n) ∧ sl_oki i pc k x j n ts (ck j) = true := by
  unfold sl_okd at h
  split at h
  · rename_i i n9 hd
    simp only [Bool.and_eq_true, Nat.beq_eq] at h
    obtain ⟨h1, h2⟩ := h
    subst h1
    exact ⟨i, hd, h2⟩
  · cases h
theorem sl_d1 {cc : ByteArray} {ck : Nat → Nat} {pc k j n : Nat} {x : Int32} {ts : List Nat} (h : sl_okd cc ck pc (k, x, j, n, ts) = true) (hk : sl_is1 k = true) : decode cc pc = .ok (sl_in k, 1) ∧ n = 1 := by
  obtain ⟨i, hd, hi⟩ := sl_dk h
  unfold sl_oki at hi
  rw [hk, cond_true, Bool.and_eq_true, Nat.beq_eq] at hi
  obtain ⟨h1, h2⟩ := hi
  subst h2
  exact ⟨by rw [hd, sl_oks_in h1], rfl⟩
theorem sl_d2 {cc : ByteArray} {ck : Nat → Nat} {pc k j n : Nat} {x : Int32} {ts : List Nat} (h : sl_okd cc ck pc (k, x, j, n, ts) = true) (hk : sl_is2 k = true) (hk1 : sl_is1 k = false) : ∃ off : Int, decode cc pc = .ok (sl_br k off, 3) ∧ n = 3 ∧ (pc : Int) + off = (j : Int) := by
  obtain ⟨i, hd, hi⟩ := sl_dk h
  unfold sl_oki at hi
  rw [hk1, hk, cond_false, cond_true, Bool.and_eq_true, Nat.beq_eq] at hi
  obtain ⟨h1, h2⟩ := hi
  subst h2
  obtain ⟨off, e1, e2⟩ := sl_okb2_in h1
  exact ⟨off, by rw [hd, e1], rfl, e2⟩
theorem sl_d3 {cc : ByteArray} {ck : Nat → Nat} {pc k j n : Nat} {x : Int32} {ts : List Nat} (h : sl_okd cc ck pc (k, x, j, n, ts) = true) (hk : Nat.ble k 5 = true) (hk1 : sl_is1 k = false) (hk2 : sl_is2 k = false) : ∃ i, decode cc pc = .ok (i, n) ∧ sl_okl i k x j n = true := by
  obtain ⟨i, hd, hi⟩ := sl_dk h
  unfold sl_oki at hi
  rw [hk1, hk2, hk, cond_false, cond_false, cond_true] at hi
  exact ⟨i, hd, hi⟩
theorem sl_d4 {cc : ByteArray} {ck : Nat → Nat} {pc k j n : Nat} {x : Int32} {ts : List Nat} (h : sl_okd cc ck pc (k, x, j, n, ts) = true) (hk : Nat.ble k 5 = false) (hk1 : sl_is1 k = false) (hk2 : sl_is2 k = false) (hk3 : Nat.beq k 57 = false) : ∃ i, decode cc pc = .ok (i, n) ∧ sl_okc i k j n (ck j) = true := by
  obtain ⟨i, hd, hi⟩ := sl_dk h
  unfold sl_oki at hi
  rw [hk1, hk2, hk, hk3, cond_false, cond_false, cond_false, cond_false] at hi
  exact ⟨i, hd, hi⟩
theorem sl_d5 {cc : ByteArray} {ck : Nat → Nat} {pc j n : Nat} {x : Int32} {ts : List Nat} (h : sl_okd cc ck pc (57, x, j, n, ts) = true) : ∃ i, decode cc pc = .ok (i, n) ∧ sl_okt i pc 57 j ts = true := by
  obtain ⟨i, hd, hi⟩ := sl_dk h
  exact ⟨i, hd, hi⟩
theorem sl_okT_at {cc : ByteArray} {ck : Nat → Nat} {tb : Nat → Option sl_E} {N : Nat} (h : sl_okT cc ck tb N = true) (hN : ∀ pc, N ≤ pc → tb pc = none) {pc : Nat} {E : sl_E} (ht : tb pc = some E) : sl_okd cc ck pc E = true := by
  have hlt : pc < N := by
    rcases Nat.lt_or_ge pc N with q | q
    · exact q
    · rw [hN pc q] at ht; cases ht
  have h1 := List.all_eq_true.mp h pc (List.mem_range.mpr hlt)
  rw [ht] at h1
  exact h1
/-! ===== classes, fields, words ===== -/
def sl_RX (c : Nat) : String := match c with
  | 0 => RX0
  | 1 => RX1
  | 2 => RX2
  | 3 => RX3
  | 4 => RX4
  | 5 => RX5
  | 6 => RX6
  | 7 => RX7
  | 8 => RX8
  | 9 => RX9
  | 10 => RX10
  | 11 => RX11
  | _ => ""
def sl_TX (c : Nat) : u_T := match c with
  | 0 => TX0
  | 1 => TX1
  | 2 => TX2
  | 3 => TX3
  | 4 => TX4
  | 5 => TX5
  | 6 => TX6
  | 7 => TX7
  | 8 => TX8
  | 9 => TX9
  | 10 => TX10
  | 11 => TX11
  | _ => TX0
def sl_TY (c : Nat) : Nat → FieldType := match c with
  | 0 => tyX0
  | 1 => tyX1
  | 2 => tyX2
  | 3 => tyX3
  | 4 => tyX4
  | 5 => tyX5
  | 6 => tyX6
  | 7 => tyX7
  | 8 => tyX8
  | 9 => tyX9
  | 10 => tyX10
  | 11 => tyX11
  | _ => tyX0
def sl_NX (c : Nat) : Nat := match c with
  | 0 => 0
  | 1 => 8
  | 2 => 5
  | 3 => 2
  | 4 => 5
  | 5 => 7
  | 6 => 2
  | 7 => 13
  | 8 => 5
  | 9 => 1
  | 10 => 9
  | 11 => 44
  | _ => 0
abbrev sl_cls : List vw_C := [(RX0, TX0, 0), (RX1, TX1, 8), (RX2, TX2, 5), (RX3, TX3, 2), (RX4, TX4, 5), (RX5, TX5, 7), (RX6, TX6, 2), (RX7, TX7, 13), (RX8, TX8, 5), (RX9, TX9, 1), (RX10, TX10, 9), (RX11, TX11, 44)]
abbrev sl_tys (cA : Nat → ClassId) : List (ClassId × FieldType) := [(cA 0, .byte), (cA 1, .int), (cA 2, .boolean), (cA 3, .long), (cA 4, .object "SerialLink$Frame")]
theorem sl_12 {P : Nat → Prop} (h0 : P 0) (h1 : P 1) (h2 : P 2) (h3 : P 3) (h4 : P 4) (h5 : P 5) (h6 : P 6) (h7 : P 7) (h8 : P 8) (h9 : P 9) (h10 : P 10) (h11 : P 11) {c : Nat} (hc : c < 12) : P c := by
  match c, hc with
  | 0, _ => exact h0
  | 1, _ => exact h1
  | 2, _ => exact h2
  | 3, _ => exact h3
  | 4, _ => exact h4
  | 5, _ => exact h5
  | 6, _ => exact h6
  | 7, _ => exact h7
  | 8, _ => exact h8
  | 9, _ => exact h9
  | 10, _ => exact h10
  | 11, _ => exact h11
  | n + 12, h => exact absurd h (by omega)
theorem sl_cls_at {c : Nat} (hc : c < 12) : sl_cls[c]? = some (sl_RX c, sl_TX c, sl_NX c) := sl_12 (P := fun c => sl_cls[c]? = some (sl_RX c, sl_TX c, sl_NX c)) rfl rfl rfl rfl rfl rfl rfl rfl rfl rfl rfl rfl hc
theorem sl_nm {c : Nat} (hc : c < 12) : ∀ a, a < sl_NX c → ∀ b, b < sl_NX c → a ≠ b → (sl_TX c a).2.1 ≠ (sl_TX c b).2.1 := sl_12 (P := fun c => ∀ a, a < sl_NX c → ∀ b, b < sl_NX c → a ≠ b → (sl_TX c a).2.1 ≠ (sl_TX c b).2.1) nmX0 nmX1 nmX2 nmX3 nmX4 nmX5 nmX6 nmX7 nmX8 nmX9 nmX10 nmX11 hc
theorem sl_ty {c : Nat} (hc : c < 12) : ∀ k, k < sl_NX c → parseFieldDescriptor (sl_TX c k).2.2.1 = some (sl_TY c k) := sl_12 (P := fun c => ∀ k, k < sl_NX c → parseFieldDescriptor (sl_TX c k).2.2.1 = some (sl_TY c k)) tyX0_ok tyX1_ok tyX2_ok tyX3_ok tyX4_ok tyX5_ok tyX6_ok tyX7_ok tyX8_ok tyX9_ok tyX10_ok tyX11_ok hc
theorem sl_dc0 : ∀ k, k < 0 → (TX0 k).1 = RX0 := by decide +kernel
theorem sl_dc1 : ∀ k, k < 8 → (TX1 k).1 = RX1 := by decide +kernel
theorem sl_dc2 : ∀ k, k < 5 → (TX2 k).1 = RX2 := by decide +kernel
theorem sl_dc3 : ∀ k, k < 2 → (TX3 k).1 = RX3 := by decide +kernel
theorem sl_dc4 : ∀ k, k < 5 → (TX4 k).1 = RX4 := by decide +kernel
theorem sl_dc5 : ∀ k, k < 7 → (TX5 k).1 = RX5 := by decide +kernel
theorem sl_dc6 : ∀ k, k < 2 → (TX6 k).1 = RX6 := by decide +kernel
theorem sl_dc7 : ∀ k, k < 13 → (TX7 k).1 = RX7 := by decide +kernel
theorem sl_dc8 : ∀ k, k < 5 → (TX8 k).1 = RX8 := by decide +kernel
theorem sl_dc9 : ∀ k, k < 1 → (TX9 k).1 = RX9 := by decide +kernel
theorem sl_dc10 : ∀ k, k < 9 → (TX10 k).1 = RX10 := by decide +kernel
theorem sl_dc11 : ∀ k, k < 44 → (TX11 k).1 = RX11 := by decide +kernel
theorem sl_decl {c k : Nat} (hc : c < 12) (hk : k < sl_NX c) : (sl_TX c k).1 = sl_RX c := sl_12 (P := fun c => ∀ k, k < sl_NX c → (sl_TX c k).1 = sl_RX c) sl_dc0 sl_dc1 sl_dc2 sl_dc3 sl_dc4 sl_dc5 sl_dc6 sl_dc7 sl_dc8 sl_dc9 sl_dc10 sl_dc11 hc k hk
def sl_tyk (t : FieldType) : Nat := match t with
  | .int => 0 | .boolean => 1 | .object _ => 2 | .array _ => 2 | _ => 9
def sl_GW : List Cond := lw_tbl.filter goodWord
theorem sl_gw {w : Cond} (h : w ∈ lw_tbl) (hg : goodWord w = true) : w ∈ sl_GW := List.mem_filter.mpr ⟨h, hg⟩
theorem sl_gw_at {w : Cond} (k : Nat) (h : lw_tbl[k]? = some w) (hg : goodWord w = true) : w ∈ sl_GW := sl_gw (List.mem_of_getElem? h) hg
theorem sl_gin {w1 w2 : Cond} (h : w2 ∈ sl_GW) : GoodIn (w1 :: sl_GW) (w2 :: sl_GW) := by
  intro w hw
  rcases List.mem_cons.mp hw with hw | hw
  · subst hw; exact ⟨List.mem_cons_of_mem _ h, good_of_word (List.mem_filter.mp h).2⟩
  · exact ⟨List.mem_cons_of_mem _ hw, good_of_word (List.mem_filter.mp hw).2⟩
theorem sl_uw0 : ∀ w ∈ u_ws RX0 TX0 0, w ∈ sl_GW := by
  intro w hw
  obtain ⟨k, hk, rfl⟩ := List.mem_map.mp hw
  have hk := List.mem_range.mp hk
  exact absurd hk (Nat.not_lt_zero _)
theorem sl_uw1 : ∀ w ∈ u_ws RX1 TX1 8, w ∈ sl_GW := by
  intro w hw
  obtain ⟨k, hk, rfl⟩ := List.mem_map.mp hw
  have hk := List.mem_range.mp hk
  match k, hk with
  | 0, _ => exact sl_gw_at 305 (by decide +kernel) (by decide +kernel)
  | 1, _ => exact sl_gw_at 307 (by decide +kernel) (by decide +kernel)
  | 2, _ => exact sl_gw_at 309 (by decide +kernel) (by decide +kernel)
  | 3, _ => exact sl_gw_at 311 (by decide +kernel) (by decide +kernel)
  | 4, _ => exact sl_gw_at 313 (by decide +kernel) (by decide +kernel)
  | 5, _ => exact sl_gw_at 315 (by decide +kernel) (by decide +kernel)
  | 6, _ => exact sl_gw_at 317 (by decide +kernel) (by decide +kernel)
  | 7, _ => exact sl_gw_at 319 (by decide +kernel) (by decide +kernel)
  | n + 8, h => exact absurd h (by omega)
theorem sl_uw2 : ∀ w ∈ u_ws RX2 TX2 5, w ∈ sl_GW := by
  intro w hw
  obtain ⟨k, hk, rfl⟩ := List.mem_map.mp hw
  have hk := List.mem_range.mp hk
  match k, hk with
  | 0, _ => exact sl_gw_at 157 (by decide +kernel) (by decide +kernel)
  | 1, _ => exact sl_gw_at 159 (by decide +kernel) (by decide +kernel)
  | 2, _ => exact sl_gw_at 161 (by decide +kernel) (by decide +kernel)
  | 3, _ => exact sl_gw_at 163 (by decide +kernel) (by decide +kernel)
  | 4, _ => exact sl_gw_at 165 (by decide +kernel) (by decide +kernel)
  | n + 5, h => exact absurd h (by omega)
theorem sl_uw3 : ∀ w ∈ u_ws RX3 TX3 2, w ∈ sl_GW := by
  intro w hw
  obtain ⟨k, hk, rfl⟩ := List.mem_map.mp hw
  have hk := List.mem_range.mp hk
  match k, hk with
  | 0, _ => exact sl_gw_at 203 (by decide +kernel) (by decide +kernel)
  | 1, _ => exact sl_gw_at 205 (by decide +kernel) (by decide +kernel)
  | n + 2, h => exact absurd h (by omega)
theorem sl_uw4 : ∀ w ∈ u_ws RX4 TX4 5, w ∈ sl_GW := by
  intro w hw
  obtain ⟨k, hk, rfl⟩ := List.mem_map.mp hw
  have hk := List.mem_range.mp hk
  match k, hk with
  | 0, _ => exact sl_gw_at 174 (by decide +kernel) (by decide +kernel)
  | 1, _ => exact sl_gw_at 176 (by decide +kernel) (by decide +kernel)
  | 2, _ => exact sl_gw_at 178 (by decide +kernel) (by decide +kernel)
  | 3, _ => exact sl_gw_at 180 (by decide +kernel) (by decide +kernel)
  | 4, _ => exact sl_gw_at 182 (by decide +kernel) (by decide +kernel)
  | n + 5, h => exact absurd h (by omega)
theorem sl_uw5 : ∀ w ∈ u_ws RX5 TX5 7, w ∈ sl_GW := by
  intro w hw
  obtain ⟨k, hk, rfl⟩ := List.mem_map.mp hw
  have hk := List.mem_range.mp hk
  match k, hk with
  | 0, _ => exact sl_gw_at 279 (by decide +kernel) (by decide +kernel)
  | 1, _ => exact sl_gw_at 281 (by decide +kernel) (by decide +kernel)
  | 2, _ => exact sl_gw_at 283 (by decide +kernel) (by decide +kernel)
  | 3, _ => exact sl_gw_at 285 (by decide +kernel) (by decide +kernel)
  | 4, _ => exact sl_gw_at 287 (by decide +kernel) (by decide +kernel)
  | 5, _ => exact sl_gw_at 289 (by decide +kernel) (by decide +kernel)
  | 6, _ => exact sl_gw_at 291 (by decide +kernel) (by decide +kernel)
  | n + 7, h => exact absurd h (by omega)
theorem sl_uw6 : ∀ w ∈ u_ws RX6 TX6 2, w ∈ sl_GW := by
  intro w hw
  obtain ⟨k, hk, rfl⟩ := List.mem_map.mp hw
  have hk := List.mem_range.mp hk
  match k, hk with
  | 0, _ => exact sl_gw_at 133 (by decide +kernel) (by decide +kernel)
  | 1, _ => exact sl_gw_at 135 (by decide +kernel) (by decide +kernel)
  | n + 2, h => exact absurd h (by omega)
theorem sl_uw7 : ∀ w ∈ u_ws RX7 TX7 13, w ∈ sl_GW := by
  intro w hw
  obtain ⟨k, hk, rfl⟩ := List.mem_map.mp hw
  have hk := List.mem_range.mp hk
  match k, hk with
  | 0, _ => exact sl_gw_at 234 (by decide +kernel) (by decide +kernel)
  | 1, _ => exact sl_gw_at 236 (by decide +kernel) (by decide +kernel)
  | 2, _ => exact sl_gw_at 238 (by decide +kernel) (by decide +kernel)
  | 3, _ => exact sl_gw_at 240 (by decide +kernel) (by decide +kernel)
  | 4, _ => exact sl_gw_at 242 (by decide +kernel) (by decide +kernel)
  | 5, _ => exact sl_gw_at 244 (by decide +kernel) (by decide +kernel)
  | 6, _ => exact sl_gw_at 246 (by decide +kernel) (by decide +kernel)
  | 7, _ => exact sl_gw_at 248 (by decide +kernel) (by decide +kernel)
  | 8, _ => exact sl_gw_at 250 (by decide +kernel) (by decide +kernel)
  | 9, _ => exact sl_gw_at 252 (by decide +kernel) (by decide +kernel)
  | 10, _ => exact sl_gw_at 254 (by decide +kernel) (by decide +kernel)
  | 11, _ => exact sl_gw_at 256 (by decide +kernel) (by decide +kernel)
  | 12, _ => exact sl_gw_at 258 (by decide +kernel) (by decide +kernel)
  | n + 13, h => exact absurd h (by omega)
theorem sl_uw8 : ∀ w ∈ u_ws RX8 TX8 5, w ∈ sl_GW := by
  intro w hw
  obtain ⟨k, hk, rfl⟩ := List.mem_map.mp hw
  have hk := List.mem_range.mp hk
  match k, hk with
  | 0, _ => exact sl_gw_at 88 (by decide +kernel) (by decide +kernel)
  | 1, _ => exact sl_gw_at 90 (by decide +kernel) (by decide +kernel)
  | 2, _ => exact sl_gw_at 92 (by decide +kernel) (by decide +kernel)
  | 3, _ => exact sl_gw_at 94 (by decide +kernel) (by decide +kernel)
  | 4, _ => exact sl_gw_at 96 (by decide +kernel) (by decide +kernel)
  | n + 5, h => exact absurd h (by omega)
theorem sl_uw9 : ∀ w ∈ u_ws RX9 TX9 1, w ∈ sl_GW := by
  intro w hw
  obtain ⟨k, hk, rfl⟩ := List.mem_map.mp hw
  have hk := List.mem_range.mp hk
  match k, hk with
  | 0, _ => exact sl_gw_at 106 (by decide +kernel) (by decide +kernel)
  | n + 1, h => exact absurd h (by omega)
theorem sl_uw10 : ∀ w ∈ u_ws RX10 TX10 9, w ∈ sl_GW := by
  intro w hw
  obtain ⟨k, hk, rfl⟩ := List.mem_map.mp hw
  have hk := List.mem_range.mp hk
  match k, hk with
  | 0, _ => exact sl_gw_at 335 (by decide +kernel) (by decide +kernel)
  | 1, _ => exact sl_gw_at 337 (by decide +kernel) (by decide +kernel)
  | 2, _ => exact sl_gw_at 339 (by decide +kernel) (by decide +kernel)
  | 3, _ => exact sl_gw_at 341 (by decide +kernel) (by decide +kernel)
  | 4, _ => exact sl_gw_at 343 (by decide +kernel) (by decide +kernel)
  | 5, _ => exact sl_gw_at 345 (by decide +kernel) (by decide +kernel)
  | 6, _ => exact sl_gw_at 347 (by decide +kernel) (by decide +kernel)
  | 7, _ => exact sl_gw_at 349 (by decide +kernel) (by decide +kernel)
  | 8, _ => exact sl_gw_at 351 (by decide +kernel) (by decide +kernel)
  | n + 9, h => exact absurd h (by omega)
theorem sl_uw11 : ∀ w ∈ u_ws RX11 TX11 44, w ∈ sl_GW := by
  intro w hw
  obtain ⟨k, hk, rfl⟩ := List.mem_map.mp hw
  have hk := List.mem_range.mp hk
  match k, hk with
  | 0, _ => exact sl_gw_at 863 (by decide +kernel) (by decide +kernel)
  | 1, _ => exact sl_gw_at 865 (by decide +kernel) (by decide +kernel)
  | 2, _ => exact sl_gw_at 867 (by decide +kernel) (by decide +kernel)
  | 3, _ => exact sl_gw_at 869 (by decide +kernel) (by decide +kernel)
  | 4, _ => exact sl_gw_at 871 (by decide +kernel) (by decide +kernel)
  | 5, _ => exact sl_gw_at 873 (by decide +kernel) (by decide +kernel)
  | 6, _ => exact sl_gw_at 875 (by decide +kernel) (by decide +kernel)
  | 7, _ => exact sl_gw_at 877 (by decide +kernel) (by decide +kernel)
  | 8, _ => exact sl_gw_at 879 (by decide +kernel) (by decide +kernel)
  | 9, _ => exact sl_gw_at 881 (by decide +kernel) (by decide +kernel)
  | 10, _ => exact sl_gw_at 883 (by decide +kernel) (by decide +kernel)
  | 11, _ => exact sl_gw_at 885 (by decide +kernel) (by decide +kernel)
  | 12, _ => exact sl_gw_at 887 (by decide +kernel) (by decide +kernel)
  | 13, _ => exact sl_gw_at 889 (by decide +kernel) (by decide +kernel)
  | 14, _ => exact sl_gw_at 891 (by decide +kernel) (by decide +kernel)
  | 15, _ => exact sl_gw_at 893 (by decide +kernel) (by decide +kernel)
  | 16, _ => exact sl_gw_at 895 (by decide +kernel) (by decide +kernel)
  | 17, _ => exact sl_gw_at 897 (by decide +kernel) (by decide +kernel)
  | 18, _ => exact sl_gw_at 899 (by decide +kernel) (by decide +kernel)
  | 19, _ => exact sl_gw_at 901 (by decide +kernel) (by decide +kernel)
  | 20, _ => exact sl_gw_at 903 (by decide +kernel) (by decide +kernel)
  | 21, _ => exact sl_gw_at 905 (by decide +kernel) (by decide +kernel)
  | 22, _ => exact sl_gw_at 907 (by decide +kernel) (by decide +kernel)
  | 23, _ => exact sl_gw_at 909 (by decide +kernel) (by decide +kernel)
  | 24, _ => exact sl_gw_at 911 (by decide +kernel) (by decide +kernel)
  | 25, _ => exact sl_gw_at 913 (by decide +kernel) (by decide +kernel)
  | 26, _ => exact sl_gw_at 915 (by decide +kernel) (by decide +kernel)
  | 27, _ => exact sl_gw_at 917 (by decide +kernel) (by decide +kernel)
  | 28, _ => exact sl_gw_at 919 (by decide +kernel) (by decide +kernel)
  | 29, _ => exact sl_gw_at 921 (by decide +kernel) (by decide +kernel)
  | 30, _ => exact sl_gw_at 923 (by decide +kernel) (by decide +kernel)
  | 31, _ => exact sl_gw_at 925 (by decide +kernel) (by decide +kernel)
  | 32, _ => exact sl_gw_at 927 (by decide +kernel) (by decide +kernel)
  | 33, _ => exact sl_gw_at 929 (by decide +kernel) (by decide +kernel)
  | 34, _ => exact sl_gw_at 931 (by decide +kernel) (by decide +kernel)
  | 35, _ => exact sl_gw_at 933 (by decide +kernel) (by decide +kernel)
  | 36, _ => exact sl_gw_at 935 (by decide +kernel) (by decide +kernel)
  | 37, _ => exact sl_gw_at 937 (by decide +kernel) (by decide +kernel)
  | 38, _ => exact sl_gw_at 939 (by decide +kernel) (by decide +kernel)
  | 39, _ => exact sl_gw_at 941 (by decide +kernel) (by decide +kernel)
  | 40, _ => exact sl_gw_at 943 (by decide +kernel) (by decide +kernel)
  | 41, _ => exact sl_gw_at 945 (by decide +kernel) (by decide +kernel)
  | 42, _ => exact sl_gw_at 947 (by decide +kernel) (by decide +kernel)
  | 43, _ => exact sl_gw_at 949 (by decide +kernel) (by decide +kernel)
  | n + 44, h => exact absurd h (by omega)
theorem sl_uw {c : Nat} (hc : c < 12) : ∀ w ∈ u_ws (sl_RX c) (sl_TX c) (sl_NX c), w ∈ sl_GW := sl_12 (P := fun c => ∀ w ∈ u_ws (sl_RX c) (sl_TX c) (sl_NX c), w ∈ sl_GW) sl_uw0 sl_uw1 sl_uw2 sl_uw3 sl_uw4 sl_uw5 sl_uw6 sl_uw7 sl_uw8 sl_uw9 sl_uw10 sl_uw11 hc
/-! ===== values and locals ===== -/
theorem sl_cat (ad : Nat → Nat → Nat) {v : sl_V} (h : sl_c1 v = true) : (sl_v ad v).category = 1 := by
  rcases v with x | (_ | q) | y
  · rfl
  · rfl
  · rfl
  · cases h
theorem sl_csum (ad : Nat → Nat → Nat) : ∀ st : List sl_V, ((st.map (sl_v ad)).map fun v => v.category).sum = sl_cs st
  | [] => rfl
  | v :: r => by
    have ih := sl_csum ad r
    rcases v with x | (_ | q) | y <;> simp only [List.map_cons, List.sum_cons, ih] <;> rfl
def sl_lh (ad : Nat → Nat → Nat) (ls : Array Slot) (nL : Nat) (lo : List (Option sl_V)) : Prop := ls.size = nL ∧ lv_wf ls ∧ ∀ (i : Nat) (v : sl_V), lo[i]? = some (some v) → ls[i]? = some (.val (sl_v ad v)) ∧ sl_c1 v = true
def sl_lv (ad : Nat → Nat → Nat) (lo : List (Option sl_V)) : List (Nat × Value) := (List.range lo.length).filterMap (fun i => (lo[i]?.join).map (fun v => (i, sl_v ad v)))
theorem sl_lv_mem {ad : Nat → Nat → Nat} {lo : List (Option sl_V)} {i : Nat} {w : Value} : (i, w) ∈ sl_lv ad lo ↔ ∃ v, lo[i]? = some (some v) ∧ w = sl_v ad v := by
  unfold sl_lv
  simp only [List.mem_filterMap, List.mem_range, Option.map_eq_some_iff]
  constructor
  · rintro ⟨a, -, v, hv, he⟩
    cases he
    refine ⟨v, ?_, rfl⟩
    cases h : lo[i]? with
    | none => rw [h] at hv; cases hv
    | some o => rw [h] at hv; cases o with
      | none => cases hv
      | some z => cases hv; rfl
  · rintro ⟨v, hv, rfl⟩
    exact ⟨i, (List.getElem?_eq_some_iff.mp hv).1, v, by rw [hv]; rfl, rfl⟩
theorem sl_lh_has {ad : Nat → Nat → Nat} {ls : Array Slot} {nL : Nat} {lo : List (Option sl_V)} (h : sl_lh ad ls nL lo) : lv_has ls nL (sl_lv ad lo) := by
  refine ⟨h.1, h.2.1, fun q hq => ?_⟩
  obtain ⟨v, h1, h2⟩ := sl_lv_mem.mp hq
  rw [h2]
  exact (h.2.2 _ _ h1).1
theorem sl_lh_set {ad : Nat → Nat → Nat} {ls ls1 : Array Slot} {nL : Nat} {lo : List (Option sl_V)} (h : sl_lh ad ls nL lo) {j : Nat} {v : sl_V} (hv : sl_c1 v = true)
    (h1 : lv_has ls1 nL ((j, sl_v ad v) :: (sl_lv ad lo).filter (fun q => !(q.1 == j) && !(q.1 + 1 == j && q.2.category == 2)))) : sl_lh ad ls1 nL (lo.set j (some v)) := by
  refine ⟨h1.1, h1.2.1, fun i w hw => ?_⟩
  by_cases hij : i = j
  · subst hij
    have hl : i < lo.length := by
      have := (List.getElem?_eq_some_iff.mp hw).1
      rwa [List.length_set] at this
    rw [List.getElem?_set_self hl] at hw
    cases hw
    exact ⟨h1.2.2 (i, sl_v ad v) List.mem_cons_self, hv⟩
  · rw [List.getElem?_set_ne (fun q => hij q.symm)] at hw
    have hc := (h.2.2 i w hw).2
    refine ⟨h1.2.2 (i, sl_v ad w) (List.mem_cons_of_mem _ (List.mem_filter.mpr ⟨sl_lv_mem.mpr ⟨w, hw, rfl⟩, ?_⟩)), hc⟩
    simp [hij, sl_cat ad hc]
theorem sl_lh_get {ad : Nat → Nat → Nat} {ls : Array Slot} {nL : Nat} {lo : List (Option sl_V)} (h : sl_lh ad ls nL lo) {i : Nat} {v : sl_V} (hv : lo[i]? = some (some v)) : ls[i]? = some (.val (sl_v ad v)) := (h.2.2 i v hv).1
theorem sl_lh_lt {ad : Nat → Nat → Nat} {ls : Array Slot} {nL : Nat} {lo : List (Option sl_V)} (h : sl_lh ad ls nL lo) {i : Nat} {v : sl_V} (hv : lo[i]? = some (some v)) : i < nL := by
  have := lv_lt (sl_lh_get h hv)
  rwa [h.1] at this
theorem sl_lh_weak {ad : Nat → Nat → Nat} {ls : Array Slot} {nL : Nat} {lo lo1 : List (Option sl_V)} (h : sl_lh ad ls nL lo) (hw : ∀ (i : Nat) (v : sl_V), lo1[i]? = some (some v) → lo[i]? = some (some v)) : sl_lh ad ls nL lo1 := ⟨h.1, h.2.1, fun i v hv => h.2.2 i v (hw i v hv)⟩
theorem sl_mask_weak : ∀ (bs : List Bool) (lo : List (Option sl_V)) (i : Nat) (v : sl_V), (sl_mask bs lo)[i]? = some (some v) → lo[i]? = some (some v)
  | [], _, i, v, h => by simp [sl_mask] at h
  | _ :: _, [], i, v, h => by simp [sl_mask] at h
  | b :: bs, w :: lo, 0, v, h => by
    cases b
    · simp [sl_mask] at h
    · simpa [sl_mask] using h
  | b :: bs, w :: lo, i + 1, v, h => by
    have h1 : (sl_mask bs lo)[i]? = some (some v) := by simpa [sl_mask] using h
    simpa using sl_mask_weak bs lo i v h1
/-! ===== the heap's picture ===== -/
def sl_ob (ad : Nat → Nat → Nat) (D : va_G) (cA : Nat → ClassId) (ln : Nat → Nat → Nat) (c i : Nat) (f : Nat → sl_V) (H : Heap) : Prop :=
  (c < 12 → t_OB (ad c i) (D.1 c) (sl_NX c) (D.2 c) H (fun k => sl_v ad (f k))) ∧ (20 ≤ c → c ≠ 41 → H[ad c i]? = some (arrV (cA (sl_ak c)) (ln c i) (fun k => sl_v ad (f k))))
theorem sl_ob_kept {ad : Nat → Nat → Nat} {D : va_G} {cA : Nat → ClassId} {ln : Nat → Nat → Nat} {c i : Nat} {f : Nat → sl_V} {H H1 : Heap} (h : sl_ob ad D cA ln c i f H) (hq : H1[ad c i]? = H[ad c i]?) : sl_ob ad D cA ln c i f H1 :=
  ⟨fun hc => (h.1 hc).kept hq, fun hc h4 => hq.trans (h.2 hc h4)⟩
section SLH
variable {M : Type} (ad : Nat → Nat → Nat) (base NA : Nat) (Hb : Heap) (D : va_G) (cA : Nat → ClassId) (ln : Nat → Nat → Nat) (rd : M → Nat → Nat → Nat → sl_V) (VR : M → Nat × Nat → Prop) (cn : M → Nat)
def sl_HP (m : M) (H : Heap) : Prop := base + cn m ≤ H.size ∧ (cn m < NA → H.size = base + cn m) ∧ (∀ q : Nat, q < base → H[q]? = Hb[q]?) ∧ ∀ c i : Nat, VR m (c, i) → sl_ob ad D cA ln c i (rd m c i) H
variable (wr : M → Nat → Nat → Nat → sl_V → Option M) (al : M → Nat → Int32 → Option ((Nat × Nat) × M)) (MI : M → Prop) (sn : M → Nat)
/-- what an array keeps of a value -/
def sl_nar (c : Nat) (v : sl_V) : sl_V := match v with
  | .inl x => (match sl_ak c with
    | 0 => .inl x.toInt8.toInt32
    | 2 => .inl (x &&& 1)
    | _ => .inl x)
  | _ => v
def sl_nf (c : Nat) (v : sl_V) : sl_V := bif Nat.ble 20 c then sl_nar c v else v
/-- the laws of a memory -/
def sl_Mem : Prop :=
  (∀ (m : M) (c i k : Nat) (v : sl_V) (m1 : M), wr m c i k v = some m1 → VR m (c, i) → (∀ q, v = .inr (.inl (some q)) → VR m q) → MI m → (c < 12 ∨ 20 ≤ c) →
    MI m1 ∧ cn m1 = cn m ∧ sn m1 = sn m ∧ (∀ q, VR m1 q ↔ VR m q) ∧ base ≤ ad c i ∧ (∀ c1 i1 : Nat, VR m (c1, i1) → (c1, i1) ≠ (c, i) → rd m1 c1 i1 = rd m c1 i1) ∧ ∀ k1, (20 ≤ c → k1 < ln c i ∧ k < ln c i) → rd m1 c i k1 = if k1 = k then sl_nf c v else rd m c i k1) ∧
  (∀ (m : M) (c i k : Nat) (q : Nat × Nat), VR m (c, i) → MI m → (20 ≤ c → k < ln c i) → rd m c i k = .inr (.inl (some q)) → VR m q) ∧
  (∀ (m : M) (q r : Nat × Nat), VR m q → VR m r → ad q.1 q.2 = ad r.1 r.2 → q = r) ∧
  (∀ (m : M) (t : Nat) (x : Int32) (q : Nat × Nat) (m1 : M), al m t x = some (q, m1) → MI m →
    MI m1 ∧ cn m1 = cn m + 1 ∧ cn m < NA ∧ ad q.1 q.2 = base + cn m ∧ (∀ r, VR m1 r ↔ VR m r ∨ r = q) ∧ (∀ c i : Nat, VR m (c, i) → rd m1 c i = rd m c i) ∧
    ((t < 12 ∧ q.1 = t ∧ sn m1 = sn m + sl_NX t ∧ ∀ k, k < sl_NX t → sl_v ad (rd m1 q.1 q.2 k) = defaultValue (sl_TY t k)) ∨
     (100 ≤ t ∧ t ≤ 104 ∧ 20 ≤ q.1 ∧ q.1 ≠ 41 ∧ sl_ak q.1 + 100 = t ∧ ¬ x < 0 ∧ x.toNatClampNeg ≤ 100000 ∧ ln q.1 q.2 = x.toNatClampNeg ∧ sn m1 = sn m + x.toNatClampNeg ∧
       ∀ k, rd m1 q.1 q.2 k = (match t with
         | 103 => .inr (.inr 0)
         | 104 => .inr (.inl none)
         | _ => .inl 0))))
end SLH
end
section
/-! ===== from the small steps to the machine's ===== -/
section SLG
variable {M : Type}
def sl_G (p : Program) (l : Launch) (e : Env) (R : Room) (s : State) (mid : MethodId) (args : Array Value) (below : List Frame) (meth : Method) (c : Code) (ad : Nat → Nat → Nat) (base NA : Nat) (Hb : Heap) (D : va_G) (cA : Nat → ClassId) (ln : Nat → Nat → Nat) (rd : M → Nat → Nat → Nat → sl_V) (VR : M → Nat × Nat → Prop) (MI : M → Prop) (cn sn : M → Nat) (nL : Nat) (x : sl_PL × M) (Q : State → Prop) (m0 : M) (S : sl_S) (m : M) : Prop :=
  ∀ (H : Heap) (locs : List Loc) (ls : Array Slot), (∀ q, VR m0 q → VR m q) → cn m0 ≤ cn m → sn m0 ≤ sn m → MI m → s.heap.size ≤ H.size → sl_HP ad base NA Hb D cA ln rd VR cn m H → sl_lh ad ls nL S.2.1 →
    (∀ q, some (.inr (.inl (some q))) ∈ S.2.1 → VR m q) → (∀ q, .inr (.inl (some q)) ∈ S.2.2 → VR m q) → (∀ z ∈ locs, base ≤ z.base) →
    W p l e R s mid args below meth c H locs (cn m - cn m0) (sn m - sn m0) Q (F0 mid S.1 ls (S.2.2.map (sl_v ad)))
def sl_Cx (p : Program) (s : State) (mid : MethodId) (args : Array Value) (c : Code) (cc : ByteArray) (nL : Nat) (own : String) (D : va_G) (cA : Nat → ClassId) : Prop :=
  p.tables.exec = Jvm.exec ∧ c.code = cc ∧ c.maxLocals = nL ∧ s.vm.findClass own = some mid.cls ∧ (∀ w ∈ sl_GW, w.before args s = true) ∧ va_K D sl_cls (sl_tys cA) s
variable {p : Program} {l : Launch} {e : Env} {R : Room} {s : State} {mid : MethodId} {args : Array Value} {below : List Frame} {meth : Method} {c : Code} {ad : Nat → Nat → Nat} {base NA : Nat} {Hb : Heap} {D : va_G} {cA : Nat → ClassId} {ln : Nat → Nat → Nat} {rd : M → Nat → Nat → Nat → sl_V} {VR : M → Nat × Nat → Prop} {MI : M → Prop} {cn sn : M → Nat} {nL : Nat} {x : sl_PL × M} {Q : State → Prop} {m0 : M} {m : M}
variable {wr : M → Nat → Nat → Nat → sl_V → Option M} {al : M → Nat → Int32 → Option ((Nat × Nat) × M)} {cc : ByteArray} {ck : Nat → Nat} {own : String} {X : sl_S → M → Option (sl_PL × M)} {pc n j : Nat} {a : Int32} {ts : List Nat} {lo : List (Option sl_V)} {st : List sl_V}
theorem sl_G1 {S S1 : sl_S} (g : sl_G p l e R s mid args below meth c ad base NA Hb D cA ln rd VR MI cn sn nL x Q m0 S1 m)
    (hr : (∀ q, some (.inr (.inl (some q))) ∈ S.2.1 → VR m q) → (∀ q, .inr (.inl (some q)) ∈ S.2.2 → VR m q) → MI m → (∀ q, some (.inr (.inl (some q))) ∈ S1.2.1 → VR m q) ∧ ∀ q, .inr (.inl (some q)) ∈ S1.2.2 → VR m q)
    (hw : ∀ (H : Heap) (locs : List Loc) (ls : Array Slot) (cells slots : Nat), MI m → sl_HP ad base NA Hb D cA ln rd VR cn m H → sl_lh ad ls nL S.2.1 → (∀ q, .inr (.inl (some q)) ∈ S.2.2 → VR m q) → (∀ ls1, sl_lh ad ls1 nL S1.2.1 → W p l e R s mid args below meth c H locs cells slots Q (F0 mid S1.1 ls1 (S1.2.2.map (sl_v ad)))) → W p l e R s mid args below meth c H locs cells slots Q (F0 mid S.1 ls (S.2.2.map (sl_v ad)))) :
    sl_G p l e R s mid args below meth c ad base NA Hb D cA ln rd VR MI cn sn nL x Q m0 S m :=
  fun H locs ls a1 a2 a3 a4 a5 a6 a7 a8 a9 a10 => hw H locs ls _ _ a4 a6 a7 a9 (fun ls1 hl1 => g H locs ls1 a1 a2 a3 a4 a5 a6 hl1 (hr a8 a9 a4).1 (hr a8 a9 a4).2 a10)
/-- only the stack changed, and no new reference stands on it -/
theorem sl_G2 {lo1 : List (Option sl_V)} {pc1 : Nat} {st1 : List sl_V} (g : sl_G p l e R s mid args below meth c ad base NA Hb D cA ln rd VR MI cn sn nL x Q m0 (pc1, lo, st1) m) (hs : ∀ q, .inr (.inl (some q)) ∈ st1 → .inr (.inl (some q)) ∈ st)
    (hw : ∀ (H : Heap) (locs : List Loc) (ls : Array Slot) (cells slots : Nat), sl_HP ad base NA Hb D cA ln rd VR cn m H → sl_lh ad ls nL lo → (∀ q, .inr (.inl (some q)) ∈ st → VR m q) → W p l e R s mid args below meth c H locs cells slots Q (F0 mid pc1 ls (st1.map (sl_v ad))) → W p l e R s mid args below meth c H locs cells slots Q (F0 mid pc ls (st.map (sl_v ad)))) :
    sl_G p l e R s mid args below meth c ad base NA Hb D cA ln rd VR MI cn sn nL x Q m0 (pc, lo, st) m :=
  sl_G1 g (fun h1 h2 _ => ⟨h1, fun q hq => h2 q (hs q hq)⟩) (fun H locs ls cells slots _ h2 h3 h4 k => hw H locs ls cells slots h2 h3 h4 (k ls h3))
theorem sl_q1 {y : Int32} {r : List sl_V} : ∀ q, (.inr (.inl (some q)) : sl_V) ∈ .inl y :: r → (.inr (.inl (some q)) : sl_V) ∈ r := fun q hq => by
  rcases List.mem_cons.mp hq with hq | hq
  · cases hq
  · exact hq
theorem sl_q2 {y : sl_V} {r : List sl_V} : ∀ q, (.inr (.inl (some q)) : sl_V) ∈ r → (.inr (.inl (some q)) : sl_V) ∈ y :: r := fun q hq => List.mem_cons_of_mem _ hq
theorem sl_setv {P : sl_V → Prop} {lo : List (Option sl_V)} {j : Nat} {v : sl_V} (h : ∀ q, some q ∈ lo → P q) (hv : P v) : ∀ q, some q ∈ lo.set j (some v) → P q := by
  intro q hq
  rcases List.mem_or_eq_of_mem_set hq with hq | hq
  · exact h q hq
  · cases hq; exact hv

theorem sl_s_iload (hC : sl_Cx p s mid args c cc nL own D cA) (hd : sl_okd cc ck pc (0, a, j, n, ts) = true) (h : sl_iload X pc n lo st m j = some x) (ih : ∀ S1 m1, X S1 m1 = some x → sl_G p l e R s mid args below meth c ad base NA Hb D cA ln rd VR MI cn sn nL x Q m0 S1 m1) : sl_G p l e R s mid args below meth c ad base NA Hb D cA ln rd VR MI cn sn nL x Q m0 (pc, lo, st) m := by
  obtain ⟨hx, hb, hml, hown, hts, hK⟩ := hC
  unfold sl_iload at h
  split at h
  · rename_i v hv
    refine sl_G2 (lo1 := lo) (ih _ _ h) sl_q1 (fun H locs ls cells slots h2 h3 h4 k => ?_)
    obtain ⟨i, hi, ho⟩ := sl_d3 hd rfl rfl rfl
    unfold sl_okl at ho
    split at ho <;> first | exact Bool.noConfusion (show false = true from ho) | skip
    · simp only [Bool.and_eq_true, Nat.beq_eq] at ho
      obtain ⟨-, e1, rfl⟩ := ho
      exact lv_iload_n hx hb hi e1 (sl_lh_get h3 hv) k
    · simp only [Bool.and_eq_true, Nat.beq_eq] at ho
      obtain ⟨-, rfl, rfl⟩ := ho
      exact lv_iload hx hb hi (sl_lh_get h3 hv) k
  · cases h
theorem sl_s_aload (hC : sl_Cx p s mid args c cc nL own D cA) (hd : sl_okd cc ck pc (1, a, j, n, ts) = true) (h : sl_aload X pc n lo st m j = some x) (ih : ∀ S1 m1, X S1 m1 = some x → sl_G p l e R s mid args below meth c ad base NA Hb D cA ln rd VR MI cn sn nL x Q m0 S1 m1) : sl_G p l e R s mid args below meth c ad base NA Hb D cA ln rd VR MI cn sn nL x Q m0 (pc, lo, st) m := by
  obtain ⟨hx, hb, hml, hown, hts, hK⟩ := hC
  unfold sl_aload at h
  split at h
  · rename_i v hv
    refine sl_G1 (ih _ _ h) (fun h1 h2 _ => ⟨h1, fun q hq => ?_⟩) (fun H locs ls cells slots _ h2 h3 h4 k => ?_)
    · rcases List.mem_cons.mp hq with hq | hq
      · cases hq; exact h1 _ (List.mem_of_getElem? hv)
      · exact h2 _ hq
    · have k := k ls h3
      obtain ⟨i, hi, ho⟩ := sl_d3 hd rfl rfl rfl
      unfold sl_okl at ho
      split at ho <;> first | exact Bool.noConfusion (show false = true from ho) | skip
      · simp only [Bool.and_eq_true, Nat.beq_eq] at ho
        obtain ⟨-, e1, rfl⟩ := ho
        cases v with
        | none => exact lv_aload_nN hx hb hi e1 (sl_lh_get h3 hv) k
        | some q => exact lv_aload_n hx hb hi e1 (sl_lh_get h3 hv) k
      · simp only [Bool.and_eq_true, Nat.beq_eq] at ho
        obtain ⟨-, rfl, rfl⟩ := ho
        cases v with
        | none => exact lv_aloadN hx hb hi (sl_lh_get h3 hv) k
        | some q => exact lv_aload hx hb hi (sl_lh_get h3 hv) k
  · cases h
theorem sl_s_push (hC : sl_Cx p s mid args c cc nL own D cA) (hd : sl_okd cc ck pc (2, a, j, n, ts) = true) (h : X (pc + n, lo, .inl a :: st) m = some x) (ih : ∀ S1 m1, X S1 m1 = some x → sl_G p l e R s mid args below meth c ad base NA Hb D cA ln rd VR MI cn sn nL x Q m0 S1 m1) : sl_G p l e R s mid args below meth c ad base NA Hb D cA ln rd VR MI cn sn nL x Q m0 (pc, lo, st) m := by
  obtain ⟨hx, hb, hml, hown, hts, hK⟩ := hC
  refine sl_G2 (lo1 := lo) (ih _ _ h) sl_q1 (fun H locs ls cells slots h2 h3 h4 k => ?_)
  obtain ⟨i, hi, ho⟩ := sl_d3 hd rfl rfl rfl
  unfold sl_okl at ho
  split at ho <;> first | exact Bool.noConfusion (show false = true from ho) | skip
  · simp only [Bool.and_eq_true, Nat.beq_eq, decide_eq_true_eq] at ho
    obtain ⟨-, e1, rfl⟩ := ho
    exact lv_iconst hx hb hi e1 k
  · simp only [Bool.and_eq_true, Nat.beq_eq, decide_eq_true_eq] at ho
    obtain ⟨-, e1, rfl⟩ := ho
    exact lv_bipush hx hb hi e1 k
  · simp only [Bool.and_eq_true, Nat.beq_eq, decide_eq_true_eq] at ho
    obtain ⟨-, e1, rfl⟩ := ho
    exact lv_sipush hx hb hi e1 k
theorem sl_s_istore (hC : sl_Cx p s mid args c cc nL own D cA) (hd : sl_okd cc ck pc (3, a, j, n, ts) = true) (hj : j < nL) (h : sl_istore X pc n lo st m j = some x) (ih : ∀ S1 m1, X S1 m1 = some x → sl_G p l e R s mid args below meth c ad base NA Hb D cA ln rd VR MI cn sn nL x Q m0 S1 m1) : sl_G p l e R s mid args below meth c ad base NA Hb D cA ln rd VR MI cn sn nL x Q m0 (pc, lo, st) m := by
  obtain ⟨hx, hb, hml, hown, hts, hK⟩ := hC
  unfold sl_istore at h
  split at h
  · rename_i v r
    refine sl_G1 (ih _ _ h) (fun h1 h2 _ => ⟨fun q hq => sl_setv (P := fun v => ∀ q, v = .inr (.inl (some q)) → VR m q) (fun v hv q e => h1 q (e ▸ hv)) (fun q e => by cases e) _ hq q rfl, fun q hq => h2 q (sl_q2 q hq)⟩) (fun H locs ls cells slots _ h2 h3 h4 k => ?_)
    have hjn : j < nL := hj
    obtain ⟨i, hi, ho⟩ := sl_d3 hd rfl rfl rfl
    unfold sl_okl at ho
    split at ho <;> first | exact Bool.noConfusion (show false = true from ho) | skip
    · simp only [Bool.and_eq_true, Nat.beq_eq] at ho
      obtain ⟨-, e1, rfl⟩ := ho
      exact lv_istore_n hx hb hi e1 (sl_lh_has h3) hjn rfl (fun ls1 h9 => k ls1 (sl_lh_set h3 (v := .inl v) rfl h9))
    · simp only [Bool.and_eq_true, Nat.beq_eq] at ho
      obtain ⟨-, rfl, rfl⟩ := ho
      exact lv_istore hx hb hi (sl_lh_has h3) hjn rfl (fun ls1 h9 => k ls1 (sl_lh_set h3 (v := .inl v) rfl h9))
  · cases h
theorem sl_s_astore (hC : sl_Cx p s mid args c cc nL own D cA) (hd : sl_okd cc ck pc (4, a, j, n, ts) = true) (hj : j < nL) (h : sl_astore X pc n lo st m j = some x) (ih : ∀ S1 m1, X S1 m1 = some x → sl_G p l e R s mid args below meth c ad base NA Hb D cA ln rd VR MI cn sn nL x Q m0 S1 m1) : sl_G p l e R s mid args below meth c ad base NA Hb D cA ln rd VR MI cn sn nL x Q m0 (pc, lo, st) m := by
  obtain ⟨hx, hb, hml, hown, hts, hK⟩ := hC
  unfold sl_astore at h
  split at h
  · rename_i v r
    refine sl_G1 (ih _ _ h) (fun h1 h2 _ => ⟨fun q hq => sl_setv (P := fun v => ∀ q, v = .inr (.inl (some q)) → VR m q) (fun v hv q e => h1 q (e ▸ hv)) (fun q e => h2 q (by rw [← e]; exact List.mem_cons_self)) _ hq q rfl, fun q hq => h2 q (sl_q2 q hq)⟩) (fun H locs ls cells slots _ h2 h3 h4 k => ?_)
    have hjn : j < nL := hj
    obtain ⟨i, hi, ho⟩ := sl_d3 hd rfl rfl rfl
    unfold sl_okl at ho
    split at ho <;> first | exact Bool.noConfusion (show false = true from ho) | skip
    · simp only [Bool.and_eq_true, Nat.beq_eq] at ho
      obtain ⟨-, e1, rfl⟩ := ho
      cases v with
      | none => exact lv_astore_nN hx hb hi e1 (sl_lh_has h3) hjn rfl (fun ls1 h9 => k ls1 (sl_lh_set h3 (v := .inr (.inl none)) rfl h9))
      | some q => exact lv_astore_n hx hb hi e1 (sl_lh_has h3) hjn rfl (fun ls1 h9 => k ls1 (sl_lh_set h3 (v := .inr (.inl (some q))) rfl h9))
    · simp only [Bool.and_eq_true, Nat.beq_eq] at ho
      obtain ⟨-, rfl, rfl⟩ := ho
      cases v with
      | none => exact lv_astoreN hx hb hi (sl_lh_has h3) hjn rfl (fun ls1 h9 => k ls1 (sl_lh_set h3 (v := .inr (.inl none)) rfl h9))
      | some q => exact lv_astore hx hb hi (sl_lh_has h3) hjn rfl (fun ls1 h9 => k ls1 (sl_lh_set h3 (v := .inr (.inl (some q))) rfl h9))
  · cases h
theorem sl_s_iinc (hC : sl_Cx p s mid args c cc nL own D cA) (hd : sl_okd cc ck pc (5, a, j, n, ts) = true) (h : sl_iinc X pc n lo st m j a = some x) (ih : ∀ S1 m1, X S1 m1 = some x → sl_G p l e R s mid args below meth c ad base NA Hb D cA ln rd VR MI cn sn nL x Q m0 S1 m1) : sl_G p l e R s mid args below meth c ad base NA Hb D cA ln rd VR MI cn sn nL x Q m0 (pc, lo, st) m := by
  obtain ⟨hx, hb, hml, hown, hts, hK⟩ := hC
  unfold sl_iinc at h
  split at h
  · rename_i v hv
    refine sl_G1 (ih _ _ h) (fun h1 h2 _ => ⟨fun q hq => sl_setv (P := fun v => ∀ q, v = .inr (.inl (some q)) → VR m q) (fun v hv q e => h1 q (e ▸ hv)) (fun q e => by cases e) _ hq q rfl, h2⟩) (fun H locs ls cells slots _ h2 h3 h4 k => ?_)
    have hjn : j < nL := sl_lh_lt h3 hv
    obtain ⟨i, hi, ho⟩ := sl_d3 hd rfl rfl rfl
    unfold sl_okl at ho
    split at ho <;> first | exact Bool.noConfusion (show false = true from ho) | skip
    simp only [Bool.and_eq_true, Nat.beq_eq, decide_eq_true_eq] at ho
    obtain ⟨-, rfl, rfl, e1⟩ := ho
    obtain ⟨k9, hk9⟩ := List.getElem?_of_mem (sl_lv_mem.mpr ⟨_, hv, rfl⟩ : (_, sl_v ad (.inl v)) ∈ sl_lv ad lo)
    exact lv_iinc hx hb hi (sl_lh_has h3) hk9 (by rw [e1]) hjn rfl (fun ls1 h9 => k ls1 (sl_lh_set h3 (v := .inl (v + a)) rfl h9))
  · cases h
theorem sl_s_iadd (hC : sl_Cx p s mid args c cc nL own D cA) (hd : sl_okd cc ck pc (6, a, j, n, ts) = true) (h : sl_bin X pc n lo st m (fun a b => a + b) = some x) (ih : ∀ S1 m1, X S1 m1 = some x → sl_G p l e R s mid args below meth c ad base NA Hb D cA ln rd VR MI cn sn nL x Q m0 S1 m1) : sl_G p l e R s mid args below meth c ad base NA Hb D cA ln rd VR MI cn sn nL x Q m0 (pc, lo, st) m := by
  obtain ⟨hx, hb, hml, hown, hts, hK⟩ := hC
  unfold sl_bin at h
  split at h
  · rename_i v w r
    obtain ⟨hi, rfl⟩ := sl_d1 hd rfl
    exact sl_G2 (lo1 := lo) (ih _ _ h) (fun q hq => sl_q2 q (sl_q2 q (sl_q1 q hq))) (fun H locs ls cells slots h2 h3 h4 k => lv_iadd hx hb hi k)
  · cases h
theorem sl_s_isub (hC : sl_Cx p s mid args c cc nL own D cA) (hd : sl_okd cc ck pc (7, a, j, n, ts) = true) (h : sl_bin X pc n lo st m (fun a b => a - b) = some x) (ih : ∀ S1 m1, X S1 m1 = some x → sl_G p l e R s mid args below meth c ad base NA Hb D cA ln rd VR MI cn sn nL x Q m0 S1 m1) : sl_G p l e R s mid args below meth c ad base NA Hb D cA ln rd VR MI cn sn nL x Q m0 (pc, lo, st) m := by
  obtain ⟨hx, hb, hml, hown, hts, hK⟩ := hC
  unfold sl_bin at h
  split at h
  · rename_i v w r
    obtain ⟨hi, rfl⟩ := sl_d1 hd rfl
    exact sl_G2 (lo1 := lo) (ih _ _ h) (fun q hq => sl_q2 q (sl_q2 q (sl_q1 q hq))) (fun H locs ls cells slots h2 h3 h4 k => lv_isub hx hb hi k)
  · cases h
theorem sl_s_imul (hC : sl_Cx p s mid args c cc nL own D cA) (hd : sl_okd cc ck pc (8, a, j, n, ts) = true) (h : sl_bin X pc n lo st m (fun a b => a * b) = some x) (ih : ∀ S1 m1, X S1 m1 = some x → sl_G p l e R s mid args below meth c ad base NA Hb D cA ln rd VR MI cn sn nL x Q m0 S1 m1) : sl_G p l e R s mid args below meth c ad base NA Hb D cA ln rd VR MI cn sn nL x Q m0 (pc, lo, st) m := by
  obtain ⟨hx, hb, hml, hown, hts, hK⟩ := hC
  unfold sl_bin at h
  split at h
  · rename_i v w r
    obtain ⟨hi, rfl⟩ := sl_d1 hd rfl
    exact sl_G2 (lo1 := lo) (ih _ _ h) (fun q hq => sl_q2 q (sl_q2 q (sl_q1 q hq))) (fun H locs ls cells slots h2 h3 h4 k => lv_imul hx hb hi k)
  · cases h
theorem sl_s_iand (hC : sl_Cx p s mid args c cc nL own D cA) (hd : sl_okd cc ck pc (11, a, j, n, ts) = true) (h : sl_bin X pc n lo st m (fun a b => a &&& b) = some x) (ih : ∀ S1 m1, X S1 m1 = some x → sl_G p l e R s mid args below meth c ad base NA Hb D cA ln rd VR MI cn sn nL x Q m0 S1 m1) : sl_G p l e R s mid args below meth c ad base NA Hb D cA ln rd VR MI cn sn nL x Q m0 (pc, lo, st) m := by
  obtain ⟨hx, hb, hml, hown, hts, hK⟩ := hC
  unfold sl_bin at h
  split at h
  · rename_i v w r
    obtain ⟨hi, rfl⟩ := sl_d1 hd rfl
    exact sl_G2 (lo1 := lo) (ih _ _ h) (fun q hq => sl_q2 q (sl_q2 q (sl_q1 q hq))) (fun H locs ls cells slots h2 h3 h4 k => lv_iand hx hb hi k)
  · cases h
theorem sl_s_ior (hC : sl_Cx p s mid args c cc nL own D cA) (hd : sl_okd cc ck pc (12, a, j, n, ts) = true) (h : sl_bin X pc n lo st m (fun a b => a ||| b) = some x) (ih : ∀ S1 m1, X S1 m1 = some x → sl_G p l e R s mid args below meth c ad base NA Hb D cA ln rd VR MI cn sn nL x Q m0 S1 m1) : sl_G p l e R s mid args below meth c ad base NA Hb D cA ln rd VR MI cn sn nL x Q m0 (pc, lo, st) m := by
  obtain ⟨hx, hb, hml, hown, hts, hK⟩ := hC
  unfold sl_bin at h
  split at h
  · rename_i v w r
    obtain ⟨hi, rfl⟩ := sl_d1 hd rfl
    exact sl_G2 (lo1 := lo) (ih _ _ h) (fun q hq => sl_q2 q (sl_q2 q (sl_q1 q hq))) (fun H locs ls cells slots h2 h3 h4 k => lv_ior hx hb hi k)
  · cases h
theorem sl_s_ixor (hC : sl_Cx p s mid args c cc nL own D cA) (hd : sl_okd cc ck pc (13, a, j, n, ts) = true) (h : sl_bin X pc n lo st m (fun a b => a ^^^ b) = some x) (ih : ∀ S1 m1, X S1 m1 = some x → sl_G p l e R s mid args below meth c ad base NA Hb D cA ln rd VR MI cn sn nL x Q m0 S1 m1) : sl_G p l e R s mid args below meth c ad base NA Hb D cA ln rd VR MI cn sn nL x Q m0 (pc, lo, st) m := by
  obtain ⟨hx, hb, hml, hown, hts, hK⟩ := hC
  unfold sl_bin at h
  split at h
  · rename_i v w r
    obtain ⟨hi, rfl⟩ := sl_d1 hd rfl
    exact sl_G2 (lo1 := lo) (ih _ _ h) (fun q hq => sl_q2 q (sl_q2 q (sl_q1 q hq))) (fun H locs ls cells slots h2 h3 h4 k => lv_ixor hx hb hi k)
  · cases h
theorem sl_s_ishl (hC : sl_Cx p s mid args c cc nL own D cA) (hd : sl_okd cc ck pc (14, a, j, n, ts) = true) (h : sl_bin X pc n lo st m (fun a b => a <<< (b &&& 31)) = some x) (ih : ∀ S1 m1, X S1 m1 = some x → sl_G p l e R s mid args below meth c ad base NA Hb D cA ln rd VR MI cn sn nL x Q m0 S1 m1) : sl_G p l e R s mid args below meth c ad base NA Hb D cA ln rd VR MI cn sn nL x Q m0 (pc, lo, st) m := by
  obtain ⟨hx, hb, hml, hown, hts, hK⟩ := hC
  unfold sl_bin at h
  split at h
  · rename_i v w r
    obtain ⟨hi, rfl⟩ := sl_d1 hd rfl
    exact sl_G2 (lo1 := lo) (ih _ _ h) (fun q hq => sl_q2 q (sl_q2 q (sl_q1 q hq))) (fun H locs ls cells slots h2 h3 h4 k => lv_ishl hx hb hi k)
  · cases h
theorem sl_s_ishr (hC : sl_Cx p s mid args c cc nL own D cA) (hd : sl_okd cc ck pc (15, a, j, n, ts) = true) (h : sl_bin X pc n lo st m (fun a b => a >>> (b &&& 31)) = some x) (ih : ∀ S1 m1, X S1 m1 = some x → sl_G p l e R s mid args below meth c ad base NA Hb D cA ln rd VR MI cn sn nL x Q m0 S1 m1) : sl_G p l e R s mid args below meth c ad base NA Hb D cA ln rd VR MI cn sn nL x Q m0 (pc, lo, st) m := by
  obtain ⟨hx, hb, hml, hown, hts, hK⟩ := hC
  unfold sl_bin at h
  split at h
  · rename_i v w r
    obtain ⟨hi, rfl⟩ := sl_d1 hd rfl
    exact sl_G2 (lo1 := lo) (ih _ _ h) (fun q hq => sl_q2 q (sl_q2 q (sl_q1 q hq))) (fun H locs ls cells slots h2 h3 h4 k => lv_ishr hx hb hi k)
  · cases h
theorem sl_s_iushr (hC : sl_Cx p s mid args c cc nL own D cA) (hd : sl_okd cc ck pc (16, a, j, n, ts) = true) (h : sl_bin X pc n lo st m (fun a b => (a.toUInt32 >>> (b.toUInt32 &&& Int32.toUInt32 31)).toInt32) = some x) (ih : ∀ S1 m1, X S1 m1 = some x → sl_G p l e R s mid args below meth c ad base NA Hb D cA ln rd VR MI cn sn nL x Q m0 S1 m1) : sl_G p l e R s mid args below meth c ad base NA Hb D cA ln rd VR MI cn sn nL x Q m0 (pc, lo, st) m := by
  obtain ⟨hx, hb, hml, hown, hts, hK⟩ := hC
  unfold sl_bin at h
  split at h
  · rename_i v w r
    obtain ⟨hi, rfl⟩ := sl_d1 hd rfl
    exact sl_G2 (lo1 := lo) (ih _ _ h) (fun q hq => sl_q2 q (sl_q2 q (sl_q1 q hq))) (fun H locs ls cells slots h2 h3 h4 k => lv_iushr hx hb hi rfl k)
  · cases h
theorem sl_s_idiv (hC : sl_Cx p s mid args c cc nL own D cA) (hd : sl_okd cc ck pc (9, a, j, n, ts) = true) (h : sl_dv X pc n lo st m (fun a b => a / b) = some x) (ih : ∀ S1 m1, X S1 m1 = some x → sl_G p l e R s mid args below meth c ad base NA Hb D cA ln rd VR MI cn sn nL x Q m0 S1 m1) : sl_G p l e R s mid args below meth c ad base NA Hb D cA ln rd VR MI cn sn nL x Q m0 (pc, lo, st) m := by
  obtain ⟨hx, hb, hml, hown, hts, hK⟩ := hC
  unfold sl_dv at h
  split at h
  · rename_i v w r
    obtain ⟨hi, rfl⟩ := sl_d1 hd rfl
    split at h
    · cases h
    · rename_i hz
      exact sl_G2 (lo1 := lo) (ih _ _ h) (fun q hq => sl_q2 q (sl_q2 q (sl_q1 q hq))) (fun H locs ls cells slots h2 h3 h4 k => lv_idiv hx hb hi hz k)
  · cases h
theorem sl_s_irem (hC : sl_Cx p s mid args c cc nL own D cA) (hd : sl_okd cc ck pc (10, a, j, n, ts) = true) (h : sl_dv X pc n lo st m (fun a b => a - a / b * b) = some x) (ih : ∀ S1 m1, X S1 m1 = some x → sl_G p l e R s mid args below meth c ad base NA Hb D cA ln rd VR MI cn sn nL x Q m0 S1 m1) : sl_G p l e R s mid args below meth c ad base NA Hb D cA ln rd VR MI cn sn nL x Q m0 (pc, lo, st) m := by
  obtain ⟨hx, hb, hml, hown, hts, hK⟩ := hC
  unfold sl_dv at h
  split at h
  · rename_i v w r
    obtain ⟨hi, rfl⟩ := sl_d1 hd rfl
    split at h
    · cases h
    · rename_i hz
      exact sl_G2 (lo1 := lo) (ih _ _ h) (fun q hq => sl_q2 q (sl_q2 q (sl_q1 q hq))) (fun H locs ls cells slots h2 h3 h4 k => lv_irem hx hb hi hz k)
  · cases h
theorem sl_s_i2b (hC : sl_Cx p s mid args c cc nL own D cA) (hd : sl_okd cc ck pc (17, a, j, n, ts) = true) (h : sl_un X pc n lo st m (fun a => .inl a.toInt8.toInt32) = some x) (ih : ∀ S1 m1, X S1 m1 = some x → sl_G p l e R s mid args below meth c ad base NA Hb D cA ln rd VR MI cn sn nL x Q m0 S1 m1) : sl_G p l e R s mid args below meth c ad base NA Hb D cA ln rd VR MI cn sn nL x Q m0 (pc, lo, st) m := by
  obtain ⟨hx, hb, hml, hown, hts, hK⟩ := hC
  unfold sl_un at h
  split at h
  · rename_i v r
    obtain ⟨hi, rfl⟩ := sl_d1 hd rfl
    exact sl_G2 (lo1 := lo) (ih _ _ h) (fun q hq => sl_q2 q (by rcases List.mem_cons.mp hq with hq | hq; (· cases hq); exact hq)) (fun H locs ls cells slots h2 h3 h4 k => lv_i2b hx hb hi rfl k)
  · cases h
theorem sl_s_i2l (hC : sl_Cx p s mid args c cc nL own D cA) (hd : sl_okd cc ck pc (18, a, j, n, ts) = true) (h : sl_un X pc n lo st m (fun a => .inr (.inr a.toInt64)) = some x) (ih : ∀ S1 m1, X S1 m1 = some x → sl_G p l e R s mid args below meth c ad base NA Hb D cA ln rd VR MI cn sn nL x Q m0 S1 m1) : sl_G p l e R s mid args below meth c ad base NA Hb D cA ln rd VR MI cn sn nL x Q m0 (pc, lo, st) m := by
  obtain ⟨hx, hb, hml, hown, hts, hK⟩ := hC
  unfold sl_un at h
  split at h
  · rename_i v r
    obtain ⟨hi, rfl⟩ := sl_d1 hd rfl
    exact sl_G2 (lo1 := lo) (ih _ _ h) (fun q hq => sl_q2 q (by rcases List.mem_cons.mp hq with hq | hq; (· cases hq); exact hq)) (fun H locs ls cells slots h2 h3 h4 k => lv_i2l hx hb hi rfl k)
  · cases h
theorem sl_s_dup (hC : sl_Cx p s mid args c cc nL own D cA) (hd : sl_okd cc ck pc (19, a, j, n, ts) = true) (h : sl_dup X pc n lo st m = some x) (ih : ∀ S1 m1, X S1 m1 = some x → sl_G p l e R s mid args below meth c ad base NA Hb D cA ln rd VR MI cn sn nL x Q m0 S1 m1) : sl_G p l e R s mid args below meth c ad base NA Hb D cA ln rd VR MI cn sn nL x Q m0 (pc, lo, st) m := by
  obtain ⟨hx, hb, hml, hown, hts, hK⟩ := hC
  unfold sl_dup at h
  split at h
  · rename_i v r
    obtain ⟨hi, rfl⟩ := sl_d1 hd rfl
    cases hv : sl_c1 v with
    | false => rw [hv] at h; cases h
    | true =>
      rw [hv] at h
      exact sl_G2 (lo1 := lo) (ih _ _ h) (fun q hq => by rcases List.mem_cons.mp hq with hq | hq; (· rw [hq]; exact List.mem_cons_self); exact hq) (fun H locs ls cells slots h2 h3 h4 k => lv_dup hx hb hi (sl_cat ad hv) k)
  · cases h
theorem sl_s_dup2 (hC : sl_Cx p s mid args c cc nL own D cA) (hd : sl_okd cc ck pc (20, a, j, n, ts) = true) (h : sl_dup2 X pc n lo st m = some x) (ih : ∀ S1 m1, X S1 m1 = some x → sl_G p l e R s mid args below meth c ad base NA Hb D cA ln rd VR MI cn sn nL x Q m0 S1 m1) : sl_G p l e R s mid args below meth c ad base NA Hb D cA ln rd VR MI cn sn nL x Q m0 (pc, lo, st) m := by
  obtain ⟨hx, hb, hml, hown, hts, hK⟩ := hC
  unfold sl_dup2 at h
  split at h
  · rename_i v w r
    obtain ⟨hi, rfl⟩ := sl_d1 hd rfl
    cases hv : sl_c1 v with
    | false => rw [hv] at h; cases h
    | true =>
      cases hw : sl_c1 w with
      | false => rw [hv, hw] at h; cases h
      | true =>
        rw [hv, hw] at h
        exact sl_G2 (lo1 := lo) (ih _ _ h) (fun q hq => by
          rcases List.mem_cons.mp hq with hq | hq
          · rw [hq]; exact List.mem_cons_self
          · rcases List.mem_cons.mp hq with hq | hq
            · rw [hq]; exact List.mem_cons_of_mem _ List.mem_cons_self
            · exact hq) (fun H locs ls cells slots h2 h3 h4 k => lv_dup2_11 hx hb hi (sl_cat ad hv) (sl_cat ad hw) k)
  · cases h
theorem sl_s_pop (hC : sl_Cx p s mid args c cc nL own D cA) (hd : sl_okd cc ck pc (21, a, j, n, ts) = true) (h : sl_pop X pc n lo st m = some x) (ih : ∀ S1 m1, X S1 m1 = some x → sl_G p l e R s mid args below meth c ad base NA Hb D cA ln rd VR MI cn sn nL x Q m0 S1 m1) : sl_G p l e R s mid args below meth c ad base NA Hb D cA ln rd VR MI cn sn nL x Q m0 (pc, lo, st) m := by
  obtain ⟨hx, hb, hml, hown, hts, hK⟩ := hC
  unfold sl_pop at h
  split at h
  · rename_i v r
    obtain ⟨hi, rfl⟩ := sl_d1 hd rfl
    cases hv : sl_c1 v with
    | false => rw [hv] at h; cases h
    | true =>
      rw [hv] at h
      exact sl_G2 (lo1 := lo) (ih _ _ h) sl_q2 (fun H locs ls cells slots h2 h3 h4 k => lv_pop hx hb hi (sl_cat ad hv) k)
  · cases h
theorem sl_s_ceq (hC : sl_Cx p s mid args c cc nL own D cA) (hd : sl_okd cc ck pc (22, a, j, n, ts) = true) (h : sl_ceq X pc n lo st m j = some x) (ih : ∀ S1 m1, X S1 m1 = some x → sl_G p l e R s mid args below meth c ad base NA Hb D cA ln rd VR MI cn sn nL x Q m0 S1 m1) : sl_G p l e R s mid args below meth c ad base NA Hb D cA ln rd VR MI cn sn nL x Q m0 (pc, lo, st) m := by
  obtain ⟨hx, hb, hml, hown, hts, hK⟩ := hC
  unfold sl_ceq at h
  split at h
  · obtain ⟨off, hi, rfl, ht⟩ := sl_d2 hd rfl rfl
    split at h
    · rename_i hz
      exact sl_G2 (lo1 := lo) (ih _ _ h) (fun q hq => sl_q2 q (sl_q2 q hq)) (fun H locs ls cells slots h2 h3 h4 k => lv_icmp_eq hx hb hi ht (fun _ => k) (fun w => absurd hz w))
    · rename_i hz
      exact sl_G2 (lo1 := lo) (ih _ _ h) (fun q hq => sl_q2 q (sl_q2 q hq)) (fun H locs ls cells slots h2 h3 h4 k => lv_icmp_eq hx hb hi ht (fun w => absurd w hz) (fun _ => k))
  · cases h
theorem sl_s_cne (hC : sl_Cx p s mid args c cc nL own D cA) (hd : sl_okd cc ck pc (23, a, j, n, ts) = true) (h : sl_cne X pc n lo st m j = some x) (ih : ∀ S1 m1, X S1 m1 = some x → sl_G p l e R s mid args below meth c ad base NA Hb D cA ln rd VR MI cn sn nL x Q m0 S1 m1) : sl_G p l e R s mid args below meth c ad base NA Hb D cA ln rd VR MI cn sn nL x Q m0 (pc, lo, st) m := by
  obtain ⟨hx, hb, hml, hown, hts, hK⟩ := hC
  unfold sl_cne at h
  split at h
  · obtain ⟨off, hi, rfl, ht⟩ := sl_d2 hd rfl rfl
    split at h
    · rename_i hz
      exact sl_G2 (lo1 := lo) (ih _ _ h) (fun q hq => sl_q2 q (sl_q2 q hq)) (fun H locs ls cells slots h2 h3 h4 k => lv_icmp_ne hx hb hi ht (fun w => absurd hz w) (fun _ => k))
    · rename_i hz
      exact sl_G2 (lo1 := lo) (ih _ _ h) (fun q hq => sl_q2 q (sl_q2 q hq)) (fun H locs ls cells slots h2 h3 h4 k => lv_icmp_ne hx hb hi ht (fun _ => k) (fun w => absurd w hz))
  · cases h
theorem sl_s_clt (hC : sl_Cx p s mid args c cc nL own D cA) (hd : sl_okd cc ck pc (24, a, j, n, ts) = true) (h : sl_clt X pc n lo st m j = some x) (ih : ∀ S1 m1, X S1 m1 = some x → sl_G p l e R s mid args below meth c ad base NA Hb D cA ln rd VR MI cn sn nL x Q m0 S1 m1) : sl_G p l e R s mid args below meth c ad base NA Hb D cA ln rd VR MI cn sn nL x Q m0 (pc, lo, st) m := by
  obtain ⟨hx, hb, hml, hown, hts, hK⟩ := hC
  unfold sl_clt at h
  split at h
  · obtain ⟨off, hi, rfl, ht⟩ := sl_d2 hd rfl rfl
    split at h
    · rename_i hz
      exact sl_G2 (lo1 := lo) (ih _ _ h) (fun q hq => sl_q2 q (sl_q2 q hq)) (fun H locs ls cells slots h2 h3 h4 k => lv_icmp_lt hx hb hi ht (fun _ => k) (fun w => absurd hz w))
    · rename_i hz
      exact sl_G2 (lo1 := lo) (ih _ _ h) (fun q hq => sl_q2 q (sl_q2 q hq)) (fun H locs ls cells slots h2 h3 h4 k => lv_icmp_lt hx hb hi ht (fun w => absurd w hz) (fun _ => k))
  · cases h
theorem sl_s_cge (hC : sl_Cx p s mid args c cc nL own D cA) (hd : sl_okd cc ck pc (25, a, j, n, ts) = true) (h : sl_cge X pc n lo st m j = some x) (ih : ∀ S1 m1, X S1 m1 = some x → sl_G p l e R s mid args below meth c ad base NA Hb D cA ln rd VR MI cn sn nL x Q m0 S1 m1) : sl_G p l e R s mid args below meth c ad base NA Hb D cA ln rd VR MI cn sn nL x Q m0 (pc, lo, st) m := by
  obtain ⟨hx, hb, hml, hown, hts, hK⟩ := hC
  unfold sl_cge at h
  split at h
  · obtain ⟨off, hi, rfl, ht⟩ := sl_d2 hd rfl rfl
    split at h
    · rename_i hz
      exact sl_G2 (lo1 := lo) (ih _ _ h) (fun q hq => sl_q2 q (sl_q2 q hq)) (fun H locs ls cells slots h2 h3 h4 k => lv_icmp_ge hx hb hi ht (fun _ => k) (fun w => absurd hz w))
    · rename_i hz
      exact sl_G2 (lo1 := lo) (ih _ _ h) (fun q hq => sl_q2 q (sl_q2 q hq)) (fun H locs ls cells slots h2 h3 h4 k => lv_icmp_ge hx hb hi ht (fun w => absurd w hz) (fun _ => k))
  · cases h
theorem sl_s_cgt (hC : sl_Cx p s mid args c cc nL own D cA) (hd : sl_okd cc ck pc (26, a, j, n, ts) = true) (h : sl_cgt X pc n lo st m j = some x) (ih : ∀ S1 m1, X S1 m1 = some x → sl_G p l e R s mid args below meth c ad base NA Hb D cA ln rd VR MI cn sn nL x Q m0 S1 m1) : sl_G p l e R s mid args below meth c ad base NA Hb D cA ln rd VR MI cn sn nL x Q m0 (pc, lo, st) m := by
  obtain ⟨hx, hb, hml, hown, hts, hK⟩ := hC
  unfold sl_cgt at h
  split at h
  · obtain ⟨off, hi, rfl, ht⟩ := sl_d2 hd rfl rfl
    split at h
    · rename_i hz
      exact sl_G2 (lo1 := lo) (ih _ _ h) (fun q hq => sl_q2 q (sl_q2 q hq)) (fun H locs ls cells slots h2 h3 h4 k => lv_icmp_gt hx hb hi ht (fun _ => k) (fun w => absurd hz w))
    · rename_i hz
      exact sl_G2 (lo1 := lo) (ih _ _ h) (fun q hq => sl_q2 q (sl_q2 q hq)) (fun H locs ls cells slots h2 h3 h4 k => lv_icmp_gt hx hb hi ht (fun w => absurd w hz) (fun _ => k))
  · cases h
theorem sl_s_cle (hC : sl_Cx p s mid args c cc nL own D cA) (hd : sl_okd cc ck pc (27, a, j, n, ts) = true) (h : sl_cle X pc n lo st m j = some x) (ih : ∀ S1 m1, X S1 m1 = some x → sl_G p l e R s mid args below meth c ad base NA Hb D cA ln rd VR MI cn sn nL x Q m0 S1 m1) : sl_G p l e R s mid args below meth c ad base NA Hb D cA ln rd VR MI cn sn nL x Q m0 (pc, lo, st) m := by
  obtain ⟨hx, hb, hml, hown, hts, hK⟩ := hC
  unfold sl_cle at h
  split at h
  · obtain ⟨off, hi, rfl, ht⟩ := sl_d2 hd rfl rfl
    split at h
    · rename_i hz
      exact sl_G2 (lo1 := lo) (ih _ _ h) (fun q hq => sl_q2 q (sl_q2 q hq)) (fun H locs ls cells slots h2 h3 h4 k => lv_icmp_le hx hb hi ht (fun _ => k) (fun w => absurd hz w))
    · rename_i hz
      exact sl_G2 (lo1 := lo) (ih _ _ h) (fun q hq => sl_q2 q (sl_q2 q hq)) (fun H locs ls cells slots h2 h3 h4 k => lv_icmp_le hx hb hi ht (fun w => absurd w hz) (fun _ => k))
  · cases h
theorem sl_s_zeq (hC : sl_Cx p s mid args c cc nL own D cA) (hd : sl_okd cc ck pc (28, a, j, n, ts) = true) (h : sl_zeq X pc n lo st m j = some x) (ih : ∀ S1 m1, X S1 m1 = some x → sl_G p l e R s mid args below meth c ad base NA Hb D cA ln rd VR MI cn sn nL x Q m0 S1 m1) : sl_G p l e R s mid args below meth c ad base NA Hb D cA ln rd VR MI cn sn nL x Q m0 (pc, lo, st) m := by
  obtain ⟨hx, hb, hml, hown, hts, hK⟩ := hC
  unfold sl_zeq at h
  split at h
  · obtain ⟨off, hi, rfl, ht⟩ := sl_d2 hd rfl rfl
    split at h
    · rename_i hz
      exact sl_G2 (lo1 := lo) (ih _ _ h) (sl_q2) (fun H locs ls cells slots h2 h3 h4 k => lv_if_eq hx hb hi ht (fun _ => k) (fun w => absurd hz w))
    · rename_i hz
      exact sl_G2 (lo1 := lo) (ih _ _ h) (sl_q2) (fun H locs ls cells slots h2 h3 h4 k => lv_if_eq hx hb hi ht (fun w => absurd w hz) (fun _ => k))
  · cases h
theorem sl_s_zne (hC : sl_Cx p s mid args c cc nL own D cA) (hd : sl_okd cc ck pc (29, a, j, n, ts) = true) (h : sl_zne X pc n lo st m j = some x) (ih : ∀ S1 m1, X S1 m1 = some x → sl_G p l e R s mid args below meth c ad base NA Hb D cA ln rd VR MI cn sn nL x Q m0 S1 m1) : sl_G p l e R s mid args below meth c ad base NA Hb D cA ln rd VR MI cn sn nL x Q m0 (pc, lo, st) m := by
  obtain ⟨hx, hb, hml, hown, hts, hK⟩ := hC
  unfold sl_zne at h
  split at h
  · obtain ⟨off, hi, rfl, ht⟩ := sl_d2 hd rfl rfl
    split at h
    · rename_i hz
      exact sl_G2 (lo1 := lo) (ih _ _ h) (sl_q2) (fun H locs ls cells slots h2 h3 h4 k => lv_if_ne hx hb hi ht (fun w => absurd hz w) (fun _ => k))
    · rename_i hz
      exact sl_G2 (lo1 := lo) (ih _ _ h) (sl_q2) (fun H locs ls cells slots h2 h3 h4 k => lv_if_ne hx hb hi ht (fun _ => k) (fun w => absurd w hz))
  · cases h
theorem sl_s_zlt (hC : sl_Cx p s mid args c cc nL own D cA) (hd : sl_okd cc ck pc (30, a, j, n, ts) = true) (h : sl_zlt X pc n lo st m j = some x) (ih : ∀ S1 m1, X S1 m1 = some x → sl_G p l e R s mid args below meth c ad base NA Hb D cA ln rd VR MI cn sn nL x Q m0 S1 m1) : sl_G p l e R s mid args below meth c ad base NA Hb D cA ln rd VR MI cn sn nL x Q m0 (pc, lo, st) m := by
  obtain ⟨hx, hb, hml, hown, hts, hK⟩ := hC
  unfold sl_zlt at h
  split at h
  · obtain ⟨off, hi, rfl, ht⟩ := sl_d2 hd rfl rfl
    split at h
    · rename_i hz
      exact sl_G2 (lo1 := lo) (ih _ _ h) (sl_q2) (fun H locs ls cells slots h2 h3 h4 k => lv_if_lt hx hb hi ht (fun _ => k) (fun w => absurd hz w))
    · rename_i hz
      exact sl_G2 (lo1 := lo) (ih _ _ h) (sl_q2) (fun H locs ls cells slots h2 h3 h4 k => lv_if_lt hx hb hi ht (fun w => absurd w hz) (fun _ => k))
  · cases h
theorem sl_s_zge (hC : sl_Cx p s mid args c cc nL own D cA) (hd : sl_okd cc ck pc (31, a, j, n, ts) = true) (h : sl_zge X pc n lo st m j = some x) (ih : ∀ S1 m1, X S1 m1 = some x → sl_G p l e R s mid args below meth c ad base NA Hb D cA ln rd VR MI cn sn nL x Q m0 S1 m1) : sl_G p l e R s mid args below meth c ad base NA Hb D cA ln rd VR MI cn sn nL x Q m0 (pc, lo, st) m := by
  obtain ⟨hx, hb, hml, hown, hts, hK⟩ := hC
  unfold sl_zge at h
  split at h
  · obtain ⟨off, hi, rfl, ht⟩ := sl_d2 hd rfl rfl
    split at h
    · rename_i hz
      exact sl_G2 (lo1 := lo) (ih _ _ h) (sl_q2) (fun H locs ls cells slots h2 h3 h4 k => lv_if_ge hx hb hi ht (fun _ => k) (fun w => absurd hz w))
    · rename_i hz
      exact sl_G2 (lo1 := lo) (ih _ _ h) (sl_q2) (fun H locs ls cells slots h2 h3 h4 k => lv_if_ge hx hb hi ht (fun w => absurd w hz) (fun _ => k))
  · cases h
theorem sl_s_zgt (hC : sl_Cx p s mid args c cc nL own D cA) (hd : sl_okd cc ck pc (32, a, j, n, ts) = true) (h : sl_zgt X pc n lo st m j = some x) (ih : ∀ S1 m1, X S1 m1 = some x → sl_G p l e R s mid args below meth c ad base NA Hb D cA ln rd VR MI cn sn nL x Q m0 S1 m1) : sl_G p l e R s mid args below meth c ad base NA Hb D cA ln rd VR MI cn sn nL x Q m0 (pc, lo, st) m := by
  obtain ⟨hx, hb, hml, hown, hts, hK⟩ := hC
  unfold sl_zgt at h
  split at h
  · obtain ⟨off, hi, rfl, ht⟩ := sl_d2 hd rfl rfl
    split at h
    · rename_i hz
      exact sl_G2 (lo1 := lo) (ih _ _ h) (sl_q2) (fun H locs ls cells slots h2 h3 h4 k => lv_if_gt hx hb hi ht (fun _ => k) (fun w => absurd hz w))
    · rename_i hz
      exact sl_G2 (lo1 := lo) (ih _ _ h) (sl_q2) (fun H locs ls cells slots h2 h3 h4 k => lv_if_gt hx hb hi ht (fun w => absurd w hz) (fun _ => k))
  · cases h
theorem sl_s_zle (hC : sl_Cx p s mid args c cc nL own D cA) (hd : sl_okd cc ck pc (33, a, j, n, ts) = true) (h : sl_zle X pc n lo st m j = some x) (ih : ∀ S1 m1, X S1 m1 = some x → sl_G p l e R s mid args below meth c ad base NA Hb D cA ln rd VR MI cn sn nL x Q m0 S1 m1) : sl_G p l e R s mid args below meth c ad base NA Hb D cA ln rd VR MI cn sn nL x Q m0 (pc, lo, st) m := by
  obtain ⟨hx, hb, hml, hown, hts, hK⟩ := hC
  unfold sl_zle at h
  split at h
  · obtain ⟨off, hi, rfl, ht⟩ := sl_d2 hd rfl rfl
    split at h
    · rename_i hz
      exact sl_G2 (lo1 := lo) (ih _ _ h) (sl_q2) (fun H locs ls cells slots h2 h3 h4 k => lv_if_le hx hb hi ht (fun _ => k) (fun w => absurd hz w))
    · rename_i hz
      exact sl_G2 (lo1 := lo) (ih _ _ h) (sl_q2) (fun H locs ls cells slots h2 h3 h4 k => lv_if_le hx hb hi ht (fun w => absurd w hz) (fun _ => k))
  · cases h
theorem sl_s_goto (hC : sl_Cx p s mid args c cc nL own D cA) (hd : sl_okd cc ck pc (34, a, j, n, ts) = true) (h : X (j, lo, st) m = some x) (ih : ∀ S1 m1, X S1 m1 = some x → sl_G p l e R s mid args below meth c ad base NA Hb D cA ln rd VR MI cn sn nL x Q m0 S1 m1) : sl_G p l e R s mid args below meth c ad base NA Hb D cA ln rd VR MI cn sn nL x Q m0 (pc, lo, st) m := by
  obtain ⟨hx, hb, hml, hown, hts, hK⟩ := hC
  obtain ⟨off, hi, rfl, ht⟩ := sl_d2 hd rfl rfl
  exact sl_G2 (lo1 := lo) (ih _ _ h) (fun q hq => hq) (fun H locs ls cells slots h2 h3 h4 k => lv_goto hx hb hi ht k)
theorem sl_s_null (hC : sl_Cx p s mid args c cc nL own D cA) (hd : sl_okd cc ck pc (51, a, j, n, ts) = true) (h : X (pc + n, lo, .inr (.inl none) :: st) m = some x) (ih : ∀ S1 m1, X S1 m1 = some x → sl_G p l e R s mid args below meth c ad base NA Hb D cA ln rd VR MI cn sn nL x Q m0 S1 m1) : sl_G p l e R s mid args below meth c ad base NA Hb D cA ln rd VR MI cn sn nL x Q m0 (pc, lo, st) m := by
  obtain ⟨hx, hb, hml, hown, hts, hK⟩ := hC
  obtain ⟨hi, rfl⟩ := sl_d1 hd rfl
  exact sl_G2 (lo1 := lo) (ih _ _ h) (fun q hq => by rcases List.mem_cons.mp hq with hq | hq; (· cases hq); exact hq) (fun H locs ls cells slots h2 h3 h4 k => lv_null hx hb hi k)
theorem sl_s_ifn (hC : sl_Cx p s mid args c cc nL own D cA) (hd : sl_okd cc ck pc (52, a, j, n, ts) = true) (h : sl_ifn X pc n lo st m j = some x) (ih : ∀ S1 m1, X S1 m1 = some x → sl_G p l e R s mid args below meth c ad base NA Hb D cA ln rd VR MI cn sn nL x Q m0 S1 m1) : sl_G p l e R s mid args below meth c ad base NA Hb D cA ln rd VR MI cn sn nL x Q m0 (pc, lo, st) m := by
  obtain ⟨hx, hb, hml, hown, hts, hK⟩ := hC
  obtain ⟨off, hi, rfl, ht⟩ := sl_d2 hd rfl rfl
  unfold sl_ifn at h
  split at h
  · exact sl_G2 (lo1 := lo) (ih _ _ h) sl_q2 (fun H locs ls cells slots h2 h3 h4 k => lv_ifnullN hx hb hi ht k)
  · exact sl_G2 (lo1 := lo) (ih _ _ h) sl_q2 (fun H locs ls cells slots h2 h3 h4 k => lv_ifnull hx hb hi k)
  · cases h
theorem sl_s_ifnn (hC : sl_Cx p s mid args c cc nL own D cA) (hd : sl_okd cc ck pc (53, a, j, n, ts) = true) (h : sl_ifnn X pc n lo st m j = some x) (ih : ∀ S1 m1, X S1 m1 = some x → sl_G p l e R s mid args below meth c ad base NA Hb D cA ln rd VR MI cn sn nL x Q m0 S1 m1) : sl_G p l e R s mid args below meth c ad base NA Hb D cA ln rd VR MI cn sn nL x Q m0 (pc, lo, st) m := by
  obtain ⟨hx, hb, hml, hown, hts, hK⟩ := hC
  obtain ⟨off, hi, rfl, ht⟩ := sl_d2 hd rfl rfl
  unfold sl_ifnn at h
  split at h
  · exact sl_G2 (lo1 := lo) (ih _ _ h) sl_q2 (fun H locs ls cells slots h2 h3 h4 k => lv_ifnonnullN hx hb hi k)
  · exact sl_G2 (lo1 := lo) (ih _ _ h) sl_q2 (fun H locs ls cells slots h2 h3 h4 k => lv_ifnonnull hx hb hi ht k)
  · cases h
theorem sl_s_lcmp (hC : sl_Cx p s mid args c cc nL own D cA) (hd : sl_okd cc ck pc (58, a, j, n, ts) = true) (h : sl_lcmp X pc n lo st m = some x) (ih : ∀ S1 m1, X S1 m1 = some x → sl_G p l e R s mid args below meth c ad base NA Hb D cA ln rd VR MI cn sn nL x Q m0 S1 m1) : sl_G p l e R s mid args below meth c ad base NA Hb D cA ln rd VR MI cn sn nL x Q m0 (pc, lo, st) m := by
  obtain ⟨hx, hb, hml, hown, hts, hK⟩ := hC
  obtain ⟨hi, rfl⟩ := sl_d1 hd rfl
  unfold sl_lcmp at h
  split at h
  · exact sl_G2 (lo1 := lo) (ih _ _ h) (fun q hq => sl_q2 q (sl_q2 q (sl_q1 q hq))) (fun H locs ls cells slots h2 h3 h4 k => W.lcmp hx hb hi k)
  · cases h
theorem sl_sw_in (v : Int32) (r : List sl_V) : ∀ (ts : List Nat) (i : Nat), sl_sw X lo m j v r i ts = some x → (∃ t k, ts[k]? = some t ∧ v = Int32.ofNat (i + k) ∧ X (t, lo, r) m = some x) ∨ ((∀ k, k < ts.length → v ≠ Int32.ofNat (i + k)) ∧ X (j, lo, r) m = some x)
  | [], i, h => Or.inr ⟨fun k hk => absurd hk (Nat.not_lt_zero k), h⟩
  | t :: ts, i, h => by
    unfold sl_sw at h
    split at h
    · rename_i hv
      exact Or.inl ⟨t, 0, rfl, hv, h⟩
    · rename_i hv
      rcases sl_sw_in v r ts (i + 1) h with ⟨t9, k, h1, h2, h3⟩ | ⟨h1, h2⟩
      · exact Or.inl ⟨t9, k + 1, by simpa using h1, by rw [h2]; congr 1; omega, h3⟩
      · refine Or.inr ⟨fun k hk => ?_, h2⟩
        cases k with
        | zero => exact hv
        | succ k => rw [show i + (k + 1) = i + 1 + k by omega]; exact h1 k (by simpa using hk)
theorem sl_oto_at : ∀ (offs : List Int) (ts : List Nat) (k t : Nat), sl_oto pc offs ts = true → ts[k]? = some t → ∃ off : Int, offs[k]? = some off ∧ (pc : Int) + off = (t : Int)
  | [], [], k, t, _, h => by simp at h
  | [], _ :: _, k, t, h, _ => by simp [sl_oto] at h
  | _ :: _, [], k, t, h, _ => by simp [sl_oto] at h
  | a :: r, t0 :: ts, 0, t, h, h1 => by
    simp only [sl_oto, Bool.and_eq_true, decide_eq_true_eq] at h
    simp only [List.getElem?_cons_zero, Option.some.injEq] at h1
    exact ⟨a, rfl, by rw [← h1]; exact h.1⟩
  | a :: r, t0 :: ts, k + 1, t, h, h1 => by
    simp only [sl_oto, Bool.and_eq_true, decide_eq_true_eq] at h
    simpa using sl_oto_at r ts k t h.2 (by simpa using h1)
theorem sl_s_tsw (hC : sl_Cx p s mid args c cc nL own D cA) (hd : sl_okd cc ck pc (57, a, j, n, ts) = true) (h : sl_tsw X lo st m j ts = some x) (ih : ∀ S1 m1, X S1 m1 = some x → sl_G p l e R s mid args below meth c ad base NA Hb D cA ln rd VR MI cn sn nL x Q m0 S1 m1) : sl_G p l e R s mid args below meth c ad base NA Hb D cA ln rd VR MI cn sn nL x Q m0 (pc, lo, st) m := by
  obtain ⟨hx, hb, hml, hown, hts, hK⟩ := hC
  unfold sl_tsw at h
  split at h
  · rename_i v r
    obtain ⟨i, hi, ho⟩ := sl_d5 hd
    unfold sl_okt at ho
    split at ho
    · rename_i d lo9 hi9 offs
      simp only [Bool.and_eq_true, decide_eq_true_eq] at ho
      obtain ⟨-, e0, e1, e2, e3, e4⟩ := ho
      subst e0
      rcases sl_sw_in v r ts 0 h with ⟨t, k, h1, h2, h3⟩ | ⟨h1, h2⟩
      · obtain ⟨off, h4, h5⟩ := sl_oto_at offs.toList ts k t e3 h1
        have hk : k < ts.length := (List.getElem?_eq_some_iff.mp h1).1
        have hv : v.toInt = (k : Int) := by rw [h2, Nat.zero_add]; exact nI_toInt (n := k) (by omega)
        refine sl_G2 (lo1 := lo) (ih _ _ h3) sl_q2 (fun H locs ls cells slots h6 h7 h8 kk => lv_tableIn hx hb hi (by omega) (by omega) (off := off) ?_ h5 kk)
        rw [show (v.toInt - 0).toNat = k by omega, ← Array.getElem?_toList]
        exact h4
      · refine sl_G2 (lo1 := lo) (ih _ _ h2) sl_q2 (fun H locs ls cells slots h6 h7 h8 kk => lv_tableOut hx hb hi ?_ e2 kk)
        rcases Int.lt_or_le v.toInt 0 with q | q
        · exact Or.inl q
        · refine Or.inr ?_
          rcases Int.lt_or_le hi9 v.toInt with q2 | q2
          · exact q2
          · have hlt : v.toInt.toNat < ts.length := by omega
            refine absurd ?_ (h1 v.toInt.toNat hlt)
            apply Int32.toInt_inj.mp
            rw [Nat.zero_add]
            rw [show (Int32.ofNat v.toInt.toNat).toInt = (v.toInt.toNat : Int) from nI_toInt (n := v.toInt.toNat) (by omega)]
            omega
    · exact Bool.noConfusion ho
  · cases h
theorem sl_s_oi (hC : sl_Cx p s mid args c cc nL own D cA) (hd : sl_okd cc ck pc (59, a, j, n, ts) = true) (hw : Cond.methodLink own j Lib.objectInit ∈ sl_GW ∧ Cond.instanceMethod Lib.objectInit ∈ sl_GW ∧ Cond.code Lib.objectInit ⟨#[0xb1]⟩ 1 none ∈ sl_GW) (hR : 1 ≤ R.frames ∧ 20 ≤ R.locals) (h : sl_oi X pc n lo st m = some x) (ih : ∀ S1 m1, X S1 m1 = some x → sl_G p l e R s mid args below meth c ad base NA Hb D cA ln rd VR MI cn sn nL x Q m0 S1 m1) : sl_G p l e R s mid args below meth c ad base NA Hb D cA ln rd VR MI cn sn nL x Q m0 (pc, lo, st) m := by
  obtain ⟨hx, hb, hml, hown, hts, hK⟩ := hC
  unfold sl_oi at h
  split at h
  · rename_i q r
    obtain ⟨i, hi, ho⟩ := sl_d4 hd rfl rfl rfl rfl
    cases hc : Nat.ble (sl_cs r) 8 with
    | false => rw [hc] at h; cases h
    | true =>
      rw [hc] at h
      unfold sl_okc at ho
      split at ho <;> first | exact Bool.noConfusion (show false = true from ho) | skip
      have ho : (Nat.beq _ j && Nat.beq n 3) = true := ho
      simp only [Bool.and_eq_true, Nat.beq_eq] at ho
      obtain ⟨rfl, rfl⟩ := ho
      refine sl_G2 (lo1 := lo) (ih _ _ h) sl_q2 (fun H locs ls cells slots h2 h3 h4 k => ?_)
      have hr := lv_room (m := mid) (pc := pc) (ls := ls) (rest := (Sum.inr (Sum.inl (some q)) :: r).map (sl_v ad)) (st := r.map (sl_v ad)) (by rw [sl_csum]; exact Nat.le_of_ble_eq_true hc)
      refine W.objInit hx hb hown (hts _ hw.1) (hts _ hw.2.1) (hts _ hw.2.2) rfl (h3.1.trans hml.symm) rfl hi hR.1 (by have := hr; omega) ?_
      exact W.eq rfl k
  · cases h
theorem sl_s_ldc (hC : sl_Cx p s mid args c cc nL own D cA) (hd : sl_okd cc ck pc (60, a, j, n, ts) = true) (hw : Cond.constant own j a ∈ sl_GW) (h : X (pc + n, lo, .inl a :: st) m = some x) (ih : ∀ S1 m1, X S1 m1 = some x → sl_G p l e R s mid args below meth c ad base NA Hb D cA ln rd VR MI cn sn nL x Q m0 S1 m1) : sl_G p l e R s mid args below meth c ad base NA Hb D cA ln rd VR MI cn sn nL x Q m0 (pc, lo, st) m := by
  obtain ⟨hx, hb, hml, hown, hts, hK⟩ := hC
  obtain ⟨i, hi, ho⟩ := sl_d4 hd rfl rfl rfl rfl
  unfold sl_okc at ho
  split at ho <;> first | exact Bool.noConfusion (show false = true from ho) | skip
  simp only [Bool.and_eq_true, Nat.beq_eq] at ho
  obtain ⟨-, rfl, rfl⟩ := ho
  exact sl_G2 (lo1 := lo) (ih _ _ h) sl_q1 (fun H locs ls cells slots h2 h3 h4 k => W.ldc hx hb hown (hts _ hw) rfl hi (W.eq rfl k))
/-! fields -/
theorem sl_w_getf {H : Heap} {locs : List Loc} {cells slots : Nat} {ls : Array Slot} {rest : List Value} {ci i k : Nat} (hC : sl_Cx p s mid args c cc nL own D cA) (hP : sl_HP ad base NA Hb D cA ln rd VR cn m H) (hv : VR m (ci, i)) (hci : ci < 12) (hk : k < sl_NX ci) (hlink : Cond.fieldLink own j (sl_RX ci) (sl_TX ci k).2.1 (sl_TX ci k).2.2.1 ∈ sl_GW) (hdg : decode cc pc = .ok (.getfield j, 3))
    (kk : W p l e R s mid args below meth c H locs cells slots Q (F0 mid (pc + 3) ls (sl_v ad (rd m ci i k) :: rest))) : W p l e R s mid args below meth c H locs cells slots Q (F0 mid pc ls (.ref (ad ci i) :: rest)) := by
  obtain ⟨hx, hb, hml, hown, hts, hK⟩ := hC
  obtain ⟨cell, q1, q2, q3, q4⟩ := (hP.2.2.2 ci i hv).1 hci
  obtain ⟨hS, hfc, kC, hkC, hkind⟩ := hK.1 ci _ (sl_cls_at hci)
  obtain ⟨cf, kf, fi, f, hi, hsl⟩ := hS k hk
  have hl : (sl_TX ci k).1 = sl_RX ci := sl_decl hci hk
  dsimp only at hi
  rw [hl] at hi
  refine W.getf hx hb hown (hts _ hlink) hi (u_facts hfc hkC (by have := u_lays hts (sl_uw hci) hk; rw [hl] at this; exact this) hi).1 q1 (by rw [q3]; exact fun h => by cases h) (v := sl_v ad (rd m ci i k)) ?_ rfl rfl hdg kk
  rw [hsl, q4 k hk]
theorem sl_s_getf {f : Option (Nat × Nat)} (hC : sl_Cx p s mid args c cc nL own D cA) (hM : sl_Mem ad base NA ln rd VR cn wr al MI sn) (hd : sl_okd cc ck pc (35, a, j, n, ts) = true) (hw : ∀ ci k, f = some (ci, k) → ci < 12 ∧ k < sl_NX ci ∧ Cond.fieldLink own j (sl_RX ci) (sl_TX ci k).2.1 (sl_TX ci k).2.2.1 ∈ sl_GW) (h : sl_getf X pc n lo st m rd f = some x) (ih : ∀ S1 m1, X S1 m1 = some x → sl_G p l e R s mid args below meth c ad base NA Hb D cA ln rd VR MI cn sn nL x Q m0 S1 m1) : sl_G p l e R s mid args below meth c ad base NA Hb D cA ln rd VR MI cn sn nL x Q m0 (pc, lo, st) m := by
  unfold sl_getf at h
  split at h
  · rename_i ci k
    obtain ⟨hci, hk, hlink⟩ := hw ci k rfl
    split at h
    · rename_i q r
      cases hq : (q.1 == ci) with
      | false => rw [hq] at h; cases h
      | true =>
        rw [hq] at h
        have hq := eq_of_beq hq
        obtain ⟨c9, i9⟩ := q
        dsimp only at hq
        subst hq
        obtain ⟨i, hi, ho⟩ := sl_d4 hd rfl rfl rfl rfl
        unfold sl_okc at ho
        split at ho <;> first | exact Bool.noConfusion (show false = true from ho) | skip
        simp only [Bool.and_eq_true, Nat.beq_eq] at ho
        obtain ⟨-, rfl, rfl⟩ := ho
        refine sl_G1 (ih _ _ h) (fun h1 h2 h3 => ⟨h1, fun q hq => ?_⟩) (fun H locs ls cells slots _ h2 h3 h4 kk => ?_)
        · rcases List.mem_cons.mp hq with hq | hq
          · exact hM.2.1 m c9 i9 k q (h2 _ List.mem_cons_self) h3 (fun h => absurd h (by omega)) hq.symm
          · exact h2 _ (List.mem_cons_of_mem _ hq)
        · exact sl_w_getf hC h2 (h4 _ List.mem_cons_self) hci hk hlink hi (kk ls h3)
    · cases h
  · cases h
theorem sl_HP_wr {H H1 : Heap} {ci i k : Nat} {v : sl_V} {m1 : M} (hM : sl_Mem ad base NA ln rd VR cn wr al MI sn) (hw : wr m ci i k v = some m1) (hv : VR m (ci, i)) (hq : ∀ q, v = .inr (.inl (some q)) → VR m q) (hI : MI m) (hc : ci < 12 ∨ 20 ≤ ci) (hP : sl_HP ad base NA Hb D cA ln rd VR cn m H) (hs : H1.size = H.size) (ho : ∀ q : Nat, q ≠ ad ci i → H1[q]? = H[q]?) (hn : sl_ob ad D cA ln ci i (rd m1 ci i) H1) : sl_HP ad base NA Hb D cA ln rd VR cn m1 H1 := by
  obtain ⟨w1, w2, w3, w4, w5, w6, w7⟩ := hM.1 m ci i k v m1 hw hv hq hI hc
  obtain ⟨p1, p2, p3, p4⟩ := hP
  refine ⟨by rw [w2, hs]; exact p1, by rw [w2, hs]; exact p2, fun q hq => ?_, fun c1 i1 h1 => ?_⟩
  · rw [ho q (by omega)]; exact p3 q hq
  · have h1 := (w4 _).mp h1
    by_cases he : (c1, i1) = (ci, i)
    · cases he; exact hn
    · rw [w6 c1 i1 h1 he]
      refine sl_ob_kept (p4 c1 i1 h1) (ho _ (fun hh => he (hM.2.2.1 m (c1, i1) (ci, i) h1 hv hh)))
theorem sl_w_putf {H : Heap} {locs : List Loc} {cells slots : Nat} {ls : Array Slot} {rest : List Value} {ci i k : Nat} {v : sl_V} {m1 : M} (hC : sl_Cx p s mid args c cc nL own D cA) (hM : sl_Mem ad base NA ln rd VR cn wr al MI sn) (hP : sl_HP ad base NA Hb D cA ln rd VR cn m H) (hv : VR m (ci, i)) (hq : ∀ q, v = .inr (.inl (some q)) → VR m q) (hI : MI m) (hci : ci < 12) (hk : k < sl_NX ci) (hlink : Cond.fieldLink own j (sl_RX ci) (sl_TX ci k).2.1 (sl_TX ci k).2.2.1 ∈ sl_GW)
    (hfin : (sl_TX ci k).2.2.2 = false ∨ (meth.name = "<init>" ∧ sl_RX ci = own)) (hn : narrow (sl_TY ci k) (sl_v ad v) = sl_v ad v) (hfit : fits (sl_TY ci k) (sl_v ad v) = true) (hw : wr m ci i k v = some m1) (hdg : decode cc pc = .ok (.putfield j, 3))
    (kk : ∀ (H1 : Heap) (z : Loc), z.base = ad ci i → H1.size = H.size → sl_HP ad base NA Hb D cA ln rd VR cn m1 H1 → W p l e R s mid args below meth c H1 (locs ++ [z]) cells slots Q (F0 mid (pc + 3) ls rest)) : W p l e R s mid args below meth c H locs cells slots Q (F0 mid pc ls (sl_v ad v :: .ref (ad ci i) :: rest)) := by
  obtain ⟨hx, hb, hml, hown, hts, hK⟩ := hC
  obtain ⟨cell, q1, q2, q3, q4⟩ := (hP.2.2.2 ci i hv).1 hci
  obtain ⟨hS, hfc, kC, hkC, hkind⟩ := hK.1 ci _ (sl_cls_at hci)
  obtain ⟨cf, kf, fi, f, hi, hsl⟩ := hS k hk
  have hl : (sl_TX ci k).1 = sl_RX ci := sl_decl hci hk
  have hap := va_apart (own := own) hts (sl_uw hci) (sl_TY ci) (sl_ty hci) (sl_nm hci) hK (sl_cls_at hci)
  have hd9 := sl_ty hci k hk
  have hst := (u_facts hfc hkC (u_lays hts (sl_uw hci) hk) hi).1
  have hlay := hts _ (sl_uw hci _ (u_in_lay hk))
  have w7 := (hM.1 m ci i k v m1 hw hv hq hI (Or.inl hci)).2.2.2.2.2.2
  have fin : ∀ H1 : Heap, H1[ad ci i]? = some (cell.setSlot f.slot (sl_v ad v)) → H1.size = H.size → (∀ q, q ≠ ad ci i → H1[q]? = H[q]?) → sl_HP ad base NA Hb D cA ln rd VR cn m1 H1 := by
    intro H1 e1 e2 e3
    refine sl_HP_wr hM hw hv hq hI (Or.inl hci) hP e2 e3 ⟨fun _ => ?_, fun h20 => absurd h20 (by omega)⟩
    rw [hsl] at e1
    refine t_OB.to (V := updV (fun k => sl_v ad (rd m ci i k)) k (sl_v ad v)) ⟨_, e1, q2, q3, t_set q4 hap hk _⟩ (fun k1 _ => ?_)
    rw [w7 k1 (fun h => absurd h (by omega))]
    by_cases hkk : k1 = k
    · subst hkk
      have : Nat.ble 20 ci = false := by
        cases hb9 : Nat.ble 20 ci with
        | false => rfl
        | true => exact absurd (Nat.le_of_ble_eq_true hb9) (by omega)
      simp [updV, sl_nf, this]
    · simp [updV, hkk]
  rcases hfin with hfin | ⟨hin2, hdecl⟩
  · unfold u_lay at hlay
    rw [if_neg (by rw [hfin]; decide)] at hlay
    have h6 := u_store hfc hkC hkind hlay hi hd9 hn hfit
    rw [hl] at hi
    refine W.putK hx hb (f := f) ⟨hown, hts _ hlink, ⟨_, _, _, hi⟩, hst⟩ (by rw [q2]; exact h6) q1 q3 (by rw [hsl]; exact k2_hasslot (q4 k hk)) rfl rfl hdg fun H1 e1 e2 e3 => ?_
    exact kk H1 _ rfl e2 (fin H1 e1 e2 e3)
  · cases hfl9 : (sl_TX ci k).2.2.2 with
    | false =>
      unfold u_lay at hlay
      rw [if_neg (by rw [hfl9]; decide)] at hlay
      have h6 := u_store hfc hkC hkind hlay hi hd9 hn hfit
      rw [hl] at hi
      refine W.putK hx hb (f := f) ⟨hown, hts _ hlink, ⟨_, _, _, hi⟩, hst⟩ (by rw [q2]; exact h6) q1 q3 (by rw [hsl]; exact k2_hasslot (q4 k hk)) rfl rfl hdg fun H1 e1 e2 e3 => ?_
      exact kk H1 _ rfl e2 (fin H1 e1 e2 e3)
    | true =>
      unfold u_lay at hlay
      rw [if_pos hfl9] at hlay
      have hcf : mid.cls = cf := by
        obtain ⟨_, _, c', _, _, _, -, -, hf', -, -, -, hown2, -⟩ := Cond.laysFinal_spec hlay
        have e1 : c' = cf := by have := hi.symm.trans hf'; simp at this; exact this.1.symm
        rw [hl, hdecl] at hown2
        rw [← e1]; exact Option.some.inj (hown.symm.trans hown2)
      have h6 := u_fits hfc hkC hkind (Or.inr hlay) hi hd9 hn hfit
      rw [hl] at hi
      refine W.putFinK hx hb hown (hts _ hlink) hi hst hcf hin2 (by rw [q2]; exact h6) q1 q3 (by rw [hsl]; exact k2_hasslot (q4 k hk)) rfl rfl hdg fun H1 e1 e2 e3 => ?_
      exact kk H1 _ rfl e2 (fin H1 e1 e2 e3)
theorem sl_pok_in (ad : Nat → Nat → Nat) (ty : FieldType) {t : Nat} {v : sl_V} {z : Option (sl_PL × M)} (h : sl_pok t v z = some x) (ht : sl_tyk ty = t) : narrow ty (sl_v ad v) = sl_v ad v ∧ fits ty (sl_v ad v) = true ∧ z = some x := by
  unfold sl_pok at h
  split at h
  · split at h
    · cases ty <;> first | (cases ht; done) | exact ⟨rfl, rfl, h⟩
    · cases h
  · split at h
    · split at h
      · rename_i y hy
        cases ty <;> first | (cases ht; done) | (rcases hy with rfl | rfl <;> exact ⟨rfl, rfl, h⟩)
      · cases h
    · cases h
  · split at h
    · rename_i w
      cases ty <;> first | (cases ht; done) | (cases w <;> exact ⟨rfl, rfl, h⟩)
    · cases h
  · cases h
theorem sl_c0 (c1 v1 z1 : Nat) (h : c1 = v1) : c1 - z1 = v1 - z1 := by rw [h]
theorem sl_s_putf {f : Option (Nat × Nat × Nat)} (hC : sl_Cx p s mid args c cc nL own D cA) (hM : sl_Mem ad base NA ln rd VR cn wr al MI sn) (hd : sl_okd cc ck pc (36, a, j, n, ts) = true)
    (hw : ∀ ci k t, f = some (ci, k, t) → ci < 12 ∧ k < sl_NX ci ∧ Cond.fieldLink own j (sl_RX ci) (sl_TX ci k).2.1 (sl_TX ci k).2.2.1 ∈ sl_GW ∧ ((sl_TX ci k).2.2.2 = false ∨ (meth.name = "<init>" ∧ sl_RX ci = own)) ∧ sl_tyk (sl_TY ci k) = t) (h : sl_putf X pc n lo st m wr f = some x) (ih : ∀ S1 m1, X S1 m1 = some x → sl_G p l e R s mid args below meth c ad base NA Hb D cA ln rd VR MI cn sn nL x Q m0 S1 m1) : sl_G p l e R s mid args below meth c ad base NA Hb D cA ln rd VR MI cn sn nL x Q m0 (pc, lo, st) m := by
  unfold sl_putf at h
  split at h
  · rename_i ci k t
    obtain ⟨hci, hk, hlink, hfin, htk⟩ := hw ci k t rfl
    split at h
    · rename_i v q r
      cases hq : (q.1 == ci) with
      | false => rw [hq] at h; cases h
      | true =>
        rw [hq] at h
        have hq := eq_of_beq hq
        obtain ⟨c9, i9⟩ := q
        dsimp only at hq
        subst hq
        obtain ⟨i, hi, ho⟩ := sl_d4 hd rfl rfl rfl rfl
        unfold sl_okc at ho
        split at ho <;> first | exact Bool.noConfusion (show false = true from ho) | skip
        simp only [Bool.and_eq_true, Nat.beq_eq] at ho
        obtain ⟨-, rfl, rfl⟩ := ho
        have key := sl_pok_in ad (sl_TY c9 k) h htk
        obtain ⟨hn, hfit, h⟩ := key
        unfold sl_wrt at h
        split at h
        · rename_i m1 hw1
          intro H locs ls a1 a2 a3 a4 a5 a6 a7 a8 a9 a10
          have hv9 : VR m (c9, i9) := a9 _ (List.mem_cons_of_mem _ List.mem_cons_self)
          have hq9 : ∀ q, v = .inr (.inl (some q)) → VR m q := fun q e => a9 q (by rw [← e]; exact List.mem_cons_self)
          obtain ⟨w1, w2, w3, w4, w5, w6, w7⟩ := hM.1 m c9 i9 k v m1 hw1 hv9 hq9 a4 (Or.inl hci)
          refine sl_w_putf hC hM a6 hv9 hq9 a4 hci hk hlink hfin hn hfit hw1 hi (fun H1 z hz e2 hP1 => ?_)
          have g := ih _ _ h H1 (locs ++ [z]) ls (fun q hq => (w4 q).mpr (a1 q hq)) (by omega) (by omega) w1 (by rw [e2]; exact a5) hP1 a7 (fun q hq => (w4 q).mpr (a8 q hq)) (fun q hq => (w4 q).mpr (a9 q (List.mem_cons_of_mem _ (List.mem_cons_of_mem _ hq)))) (fun z9 hz9 => by
            rcases List.mem_append.mp hz9 with hz9 | hz9
            · exact a10 z9 hz9
            · rw [List.mem_singleton.mp hz9, hz]; exact w5)
          rw [w2, w3] at g
          exact g
        · cases h
    · cases h
  · cases h
end SLG
end
section
section SLI
variable {M : Type}
variable {p : Program} {l : Launch} {e : Env} {R : Room} {s : State} {mid : MethodId} {args : Array Value} {below : List Frame} {meth : Method} {c : Code} {ad : Nat → Nat → Nat} {base NA : Nat} {Hb : Heap} {D : va_G} {cA : Nat → ClassId} {ln : Nat → Nat → Nat} {rd : M → Nat → Nat → Nat → sl_V} {VR : M → Nat × Nat → Prop} {MI : M → Prop} {cn sn : M → Nat} {nL : Nat} {x : sl_PL × M} {Q : State → Prop} {m0 : M} {m : M}
variable {wr : M → Nat → Nat → Nat → sl_V → Option M} {al : M → Nat → Int32 → Option ((Nat × Nat) × M)} {cc : ByteArray} {ck : Nat → Nat} {own : String} {X : sl_S → M → Option (sl_PL × M)} {pc n j : Nat} {a : Int32} {ts : List Nat} {lo : List (Option sl_V)} {st : List sl_V}
theorem sl_akc {c1 : Nat} (h : sl_ak c1 ≤ 4) : 20 ≤ c1 := by
  rcases Nat.lt_or_ge c1 20 with q | q
  · have h9 : ∀ k, k < 20 → sl_ak k = 9 := by decide
    rw [h9 c1 q] at h
    omega
  · exact q
theorem sl_xld_in {ok : Nat → Bool} (h : sl_xld X pc n lo st m rd ln ok = some x) : ∃ (i : Int32) (c9 i9 : Nat) (r : List sl_V), st = .inl i :: .inr (.inl (some (c9, i9))) :: r ∧ ok c9 = true ∧ c9 ≠ 41 ∧ 0 ≤ i ∧ i.toNatClampNeg < ln c9 i9 ∧ X (pc + n, lo, rd m c9 i9 i.toNatClampNeg :: r) m = some x := by
  unfold sl_xld at h
  split at h
  · rename_i i q r
    obtain ⟨c9, i9⟩ := q
    cases hq : (ok (c9, i9).1 && !((c9, i9).1 == 41)) with
    | false => rw [hq] at h; cases h
    | true =>
      rw [hq, cond_true] at h
      simp only [Bool.and_eq_true, Bool.not_eq_true', beq_eq_false_iff_ne] at hq
      split at h
      · rename_i hb
        exact ⟨i, c9, i9, r, rfl, hq.1, hq.2, hb.1, hb.2, h⟩
      · cases h
  · cases h
theorem sl_nlt {i : Int32} (h : 0 ≤ i) : ¬ i < 0 := fun q => absurd (Int32.lt_iff_toInt_lt.mp q) (by have := Int32.le_iff_toInt_le.mp h; omega)
theorem sl_inb {cI : ClassId} {N : Nat} {f : Nat → Value} {i : Int32} (h0 : 0 ≤ i) (h1 : i.toNatClampNeg < N) : ¬ (i < 0 ∨ (arrV cI N f).slots.size ≤ i.toNatClampNeg) := by
  rw [arrV_size]
  rintro (q | q)
  · exact sl_nlt h0 q
  · omega
theorem sl_ldv {rest : List sl_V} {c9 i9 : Nat} {k : Nat} {lo1 : List (Option sl_V)} (hM : sl_Mem ad base NA ln rd VR cn wr al MI sn) (hv : VR m (c9, i9)) (hI : MI m) (hk : k < ln c9 i9) (h1 : ∀ q, some (.inr (.inl (some q))) ∈ lo1 → VR m q) (h2 : ∀ q, .inr (.inl (some q)) ∈ rest → VR m q) : (∀ q, some (.inr (.inl (some q))) ∈ lo1 → VR m q) ∧ ∀ q, .inr (.inl (some q)) ∈ rd m c9 i9 k :: rest → VR m q :=
  ⟨h1, fun q hq => by
    rcases List.mem_cons.mp hq with hq | hq
    · exact hM.2.1 m c9 i9 k q hv hI (fun _ => hk) hq.symm
    · exact h2 q hq⟩
theorem sl_s_iald (hC : sl_Cx p s mid args c cc nL own D cA) (hM : sl_Mem ad base NA ln rd VR cn wr al MI sn) (hd : sl_okd cc ck pc (37, a, j, n, ts) = true) (h : sl_xld X pc n lo st m rd ln (fun c => sl_ak c == 1) = some x) (ih : ∀ S1 m1, X S1 m1 = some x → sl_G p l e R s mid args below meth c ad base NA Hb D cA ln rd VR MI cn sn nL x Q m0 S1 m1) : sl_G p l e R s mid args below meth c ad base NA Hb D cA ln rd VR MI cn sn nL x Q m0 (pc, lo, st) m := by
  obtain ⟨i, c9, i9, r, rfl, hok, h41, h0, hlt, h⟩ := sl_xld_in h
  obtain ⟨hx, hb, hml, hown, hts, hK⟩ := hC
  obtain ⟨hi, rfl⟩ := sl_d1 hd rfl
  have hak : sl_ak c9 = 1 := eq_of_beq hok
  refine sl_G1 (ih _ _ h) (fun h1 h2 h3 => sl_ldv hM (h2 _ (List.mem_cons_of_mem _ List.mem_cons_self)) h3 hlt h1 (fun q hq => h2 q (sl_q2 q (sl_q2 q hq)))) (fun H locs ls cells slots _ h2 h3 h4 k => ?_)
  have hc := (h2.2.2.2 c9 i9 (h4 _ (List.mem_cons_of_mem _ List.mem_cons_self))).2 (sl_akc (by omega)) h41
  rw [hak] at hc
  exact W.iald (v := sl_v ad (rd m c9 i9 i.toNatClampNeg)) hx hb hc ((hK.2 1 _ rfl).1 _ _) (fun q => by cases q) (sl_inb h0 hlt) (arrV_read _ _ hlt) rfl rfl hi (W.eq rfl (k ls h3))
theorem sl_s_bald (hC : sl_Cx p s mid args c cc nL own D cA) (hM : sl_Mem ad base NA ln rd VR cn wr al MI sn) (hd : sl_okd cc ck pc (38, a, j, n, ts) = true) (h : sl_xld X pc n lo st m rd ln sl_okb = some x) (ih : ∀ S1 m1, X S1 m1 = some x → sl_G p l e R s mid args below meth c ad base NA Hb D cA ln rd VR MI cn sn nL x Q m0 S1 m1) : sl_G p l e R s mid args below meth c ad base NA Hb D cA ln rd VR MI cn sn nL x Q m0 (pc, lo, st) m := by
  obtain ⟨i, c9, i9, r, rfl, hok, h41, h0, hlt, h⟩ := sl_xld_in h
  obtain ⟨hx, hb, hml, hown, hts, hK⟩ := hC
  obtain ⟨hi, rfl⟩ := sl_d1 hd rfl
  have hak : sl_ak c9 = 0 ∨ sl_ak c9 = 2 := by
    unfold sl_okb at hok
    split at hok
    · exact Or.inl (by assumption)
    · exact Or.inr (by assumption)
    · cases hok
  refine sl_G1 (ih _ _ h) (fun h1 h2 h3 => sl_ldv hM (h2 _ (List.mem_cons_of_mem _ List.mem_cons_self)) h3 hlt h1 (fun q hq => h2 q (sl_q2 q (sl_q2 q hq)))) (fun H locs ls cells slots _ h2 h3 h4 k => ?_)
  have hc := (h2.2.2.2 c9 i9 (h4 _ (List.mem_cons_of_mem _ List.mem_cons_self))).2 (sl_akc (by omega)) h41
  rcases hak with hak | hak
  · rw [hak] at hc
    exact W.bald (v := sl_v ad (rd m c9 i9 i.toNatClampNeg)) hx hb hc ((hK.2 0 _ rfl).1 _ _) (fun q => by cases q) (sl_inb h0 hlt) (arrV_read _ _ hlt) rfl rfl hi (W.eq rfl (k ls h3))
  · rw [hak] at hc
    exact W.zald (v := sl_v ad (rd m c9 i9 i.toNatClampNeg)) hx hb hc ((hK.2 2 _ rfl).1 _ _) (fun q => by cases q) (sl_inb h0 hlt) (arrV_read _ _ hlt) rfl rfl hi (W.eq rfl (k ls h3))
theorem sl_s_aald (hC : sl_Cx p s mid args c cc nL own D cA) (hM : sl_Mem ad base NA ln rd VR cn wr al MI sn) (hd : sl_okd cc ck pc (39, a, j, n, ts) = true) (h : sl_xld X pc n lo st m rd ln (fun c => sl_ak c == 4) = some x) (ih : ∀ S1 m1, X S1 m1 = some x → sl_G p l e R s mid args below meth c ad base NA Hb D cA ln rd VR MI cn sn nL x Q m0 S1 m1) : sl_G p l e R s mid args below meth c ad base NA Hb D cA ln rd VR MI cn sn nL x Q m0 (pc, lo, st) m := by
  obtain ⟨i, c9, i9, r, rfl, hok, h41, h0, hlt, h⟩ := sl_xld_in h
  obtain ⟨hx, hb, hml, hown, hts, hK⟩ := hC
  obtain ⟨hi, rfl⟩ := sl_d1 hd rfl
  have hak : sl_ak c9 = 4 := eq_of_beq hok
  refine sl_G1 (ih _ _ h) (fun h1 h2 h3 => sl_ldv hM (h2 _ (List.mem_cons_of_mem _ List.mem_cons_self)) h3 hlt h1 (fun q hq => h2 q (sl_q2 q (sl_q2 q hq)))) (fun H locs ls cells slots _ h2 h3 h4 k => ?_)
  have hc := (h2.2.2.2 c9 i9 (h4 _ (List.mem_cons_of_mem _ List.mem_cons_self))).2 (sl_akc (by omega)) h41
  rw [hak] at hc
  exact W.aald (v := sl_v ad (rd m c9 i9 i.toNatClampNeg)) hx hb hc ((hK.2 4 _ rfl).1 _ _) rfl (fun q => by cases q) (sl_inb h0 hlt) (arrV_read _ _ hlt) rfl rfl hi (W.eq rfl (k ls h3))
theorem sl_s_lald (hC : sl_Cx p s mid args c cc nL own D cA) (hM : sl_Mem ad base NA ln rd VR cn wr al MI sn) (hd : sl_okd cc ck pc (40, a, j, n, ts) = true) (h : sl_xld X pc n lo st m rd ln (fun c => sl_ak c == 3) = some x) (ih : ∀ S1 m1, X S1 m1 = some x → sl_G p l e R s mid args below meth c ad base NA Hb D cA ln rd VR MI cn sn nL x Q m0 S1 m1) : sl_G p l e R s mid args below meth c ad base NA Hb D cA ln rd VR MI cn sn nL x Q m0 (pc, lo, st) m := by
  obtain ⟨i, c9, i9, r, rfl, hok, h41, h0, hlt, h⟩ := sl_xld_in h
  obtain ⟨hx, hb, hml, hown, hts, hK⟩ := hC
  obtain ⟨hi, rfl⟩ := sl_d1 hd rfl
  have hak : sl_ak c9 = 3 := eq_of_beq hok
  refine sl_G1 (ih _ _ h) (fun h1 h2 h3 => sl_ldv hM (h2 _ (List.mem_cons_of_mem _ List.mem_cons_self)) h3 hlt h1 (fun q hq => h2 q (sl_q2 q (sl_q2 q hq)))) (fun H locs ls cells slots _ h2 h3 h4 k => ?_)
  have hc := (h2.2.2.2 c9 i9 (h4 _ (List.mem_cons_of_mem _ List.mem_cons_self))).2 (sl_akc (by omega)) h41
  rw [hak] at hc
  exact W.lald (v := sl_v ad (rd m c9 i9 i.toNatClampNeg)) hx hb hc ((hK.2 3 _ rfl).1 _ _) (fun q => by cases q) (sl_inb h0 hlt) (arrV_read _ _ hlt) rfl rfl hi (W.eq rfl (k ls h3))
theorem sl_tyt (cA : Nat → ClassId) {t : Nat} (ht : t ≤ 4) : ∃ ty, (sl_tys cA)[t]? = some (cA t, ty) := by
  match t, ht with
  | 0, _ => exact ⟨_, rfl⟩
  | 1, _ => exact ⟨_, rfl⟩
  | 2, _ => exact ⟨_, rfl⟩
  | 3, _ => exact ⟨_, rfl⟩
  | 4, _ => exact ⟨_, rfl⟩
  | n + 5, h => exact absurd h (by omega)
theorem sl_s_alen (hC : sl_Cx p s mid args c cc nL own D cA) (hM : sl_Mem ad base NA ln rd VR cn wr al MI sn) (hd : sl_okd cc ck pc (45, a, j, n, ts) = true) (h : sl_alen X pc n lo st m ln = some x) (ih : ∀ S1 m1, X S1 m1 = some x → sl_G p l e R s mid args below meth c ad base NA Hb D cA ln rd VR MI cn sn nL x Q m0 S1 m1) : sl_G p l e R s mid args below meth c ad base NA Hb D cA ln rd VR MI cn sn nL x Q m0 (pc, lo, st) m := by
  obtain ⟨hx, hb, hml, hown, hts, hK⟩ := hC
  obtain ⟨hi, rfl⟩ := sl_d1 hd rfl
  unfold sl_alen at h
  split at h
  · rename_i q r
    obtain ⟨c9, i9⟩ := q
    cases hq : (Nat.ble (sl_ak (c9, i9).1) 4 && !((c9, i9).1 == 41)) with
    | false => rw [hq] at h; cases h
    | true =>
      rw [hq, cond_true] at h
      simp only [Bool.and_eq_true, Bool.not_eq_true', beq_eq_false_iff_ne] at hq
      have hak : sl_ak c9 ≤ 4 := Nat.le_of_ble_eq_true hq.1
      refine sl_G2 (lo1 := lo) (ih _ _ h) (fun q hq => sl_q2 q (sl_q1 q hq)) (fun H locs ls cells slots h2 h3 h4 k => ?_)
      have hc := (h2.2.2.2 c9 i9 (h4 _ List.mem_cons_self)).2 (sl_akc hak) hq.2
      obtain ⟨ty, hty⟩ := sl_tyt cA hak
      exact W.alen hx hb hc ((hK.2 _ _ hty).1 _ _) (by rw [arrV_size]) rfl rfl hi (W.eq rfl k)
  · cases h
/-! stores -/
theorem sl_xst_in {ok : Nat → sl_V → Bool} (h : sl_xst X pc n lo st m wr ln ok = some x) : ∃ (v : sl_V) (i : Int32) (c9 i9 : Nat) (r : List sl_V) (m1 : M), st = v :: .inl i :: .inr (.inl (some (c9, i9))) :: r ∧ ok c9 v = true ∧ c9 ≠ 41 ∧ 0 ≤ i ∧ i.toNatClampNeg < ln c9 i9 ∧ wr m c9 i9 i.toNatClampNeg v = some m1 ∧ X (pc + n, lo, r) m1 = some x := by
  unfold sl_xst at h
  split at h
  · rename_i v i q r
    obtain ⟨c9, i9⟩ := q
    cases hq : (ok (c9, i9).1 v && !((c9, i9).1 == 41)) with
    | false => rw [hq] at h; cases h
    | true =>
      rw [hq, cond_true] at h
      simp only [Bool.and_eq_true, Bool.not_eq_true', beq_eq_false_iff_ne] at hq
      split at h
      · rename_i hb
        unfold sl_wrt at h
        split at h
        · rename_i m1 hw
          exact ⟨v, i, c9, i9, r, m1, rfl, hq.1, hq.2, hb.1, hb.2, hw, h⟩
        · cases h
      · cases h
  · cases h
theorem sl_arr_eq {cI : ClassId} {N : Nat} {f g : Nat → Value} (h : ∀ k, k < N → f k = g k) : arrV cI N f = arrV cI N g := by
  unfold arrV
  congr 1
  apply Array.ext
  · simp
  · intro k h1 h2
    simp only [Array.getElem_ofFn]
    exact h k (by simpa using h1)
theorem sl_G3 {c9 i9 k : Nat} {v : sl_V} {i : Int32} {r : List sl_V} {m1 : M} (hM : sl_Mem ad base NA ln rd VR cn wr al MI sn) (hw : wr m c9 i9 k v = some m1) (hc : 20 ≤ c9) (h41 : c9 ≠ 41) (hlt : k < ln c9 i9) (g : sl_G p l e R s mid args below meth c ad base NA Hb D cA ln rd VR MI cn sn nL x Q m0 (pc + 1, lo, r) m1)
    (hW : ∀ (H : Heap) (locs : List Loc) (ls : Array Slot) (cells slots : Nat), sl_HP ad base NA Hb D cA ln rd VR cn m H → VR m (c9, i9) → (∀ q, v = .inr (.inl (some q)) → VR m q) → H[ad c9 i9]? = some (arrV (cA (sl_ak c9)) (ln c9 i9) (fun k => sl_v ad (rd m c9 i9 k))) → (∀ H1 : Heap, H1[ad c9 i9]? = some ((arrV (cA (sl_ak c9)) (ln c9 i9) (fun k => sl_v ad (rd m c9 i9 k))).setSlot k (sl_v ad (sl_nar c9 v))) → H1.size = H.size → (∀ q : Nat, q ≠ ad c9 i9 → H1[q]? = H[q]?) → W p l e R s mid args below meth c H1 (locs ++ [⟨ad c9 i9, k⟩]) cells slots Q (F0 mid (pc + 1) ls (r.map (sl_v ad)))) →
      W p l e R s mid args below meth c H locs cells slots Q (F0 mid pc ls ((v :: .inl i :: .inr (.inl (some (c9, i9))) :: r).map (sl_v ad)))) : sl_G p l e R s mid args below meth c ad base NA Hb D cA ln rd VR MI cn sn nL x Q m0 (pc, lo, v :: .inl i :: .inr (.inl (some (c9, i9))) :: r) m := by
  intro H locs ls a1 a2 a3 a4 a5 a6 a7 a8 a9 a10
  have hv9 : VR m (c9, i9) := a9 _ (List.mem_cons_of_mem _ (List.mem_cons_of_mem _ List.mem_cons_self))
  have hq9 : ∀ q, v = .inr (.inl (some q)) → VR m q := fun q e => a9 q (by rw [← e]; exact List.mem_cons_self)
  obtain ⟨w1, w2, w3, w4, w5, w6, w7⟩ := hM.1 m c9 i9 k v m1 hw hv9 hq9 a4 (Or.inr hc)
  refine hW H locs ls _ _ a6 hv9 hq9 ((a6.2.2.2 c9 i9 hv9).2 hc h41) (fun H1 e1 e2 e3 => ?_)
  have hP1 : sl_HP ad base NA Hb D cA ln rd VR cn m1 H1 := sl_HP_wr hM hw hv9 hq9 a4 (Or.inr hc) a6 e2 e3 ⟨fun q => absurd q (by omega), fun _ _ => by
    rw [e1, arrV_store]
    congr 1
    refine sl_arr_eq (fun k1 hk1 => ?_)
    rw [w7 k1 (fun _ => ⟨hk1, hlt⟩)]
    have : Nat.ble 20 c9 = true := Nat.ble_eq.mpr hc
    by_cases hk : k1 = k
    · simp [updV, sl_nf, hk, this]
    · simp [updV, hk]⟩
  have g := g H1 (locs ++ [⟨ad c9 i9, k⟩]) ls (fun q hq => (w4 q).mpr (a1 q hq)) (by omega) (by omega) w1 (by rw [e2]; exact a5) hP1 a7 (fun q hq => (w4 q).mpr (a8 q hq)) (fun q hq => (w4 q).mpr (a9 q (List.mem_cons_of_mem _ (List.mem_cons_of_mem _ (List.mem_cons_of_mem _ hq))))) (fun z9 hz9 => by
    rcases List.mem_append.mp hz9 with hz9 | hz9
    · exact a10 z9 hz9
    · rw [List.mem_singleton.mp hz9]; exact w5)
  rw [w2, w3] at g
  exact g
theorem sl_s_iast (hC : sl_Cx p s mid args c cc nL own D cA) (hM : sl_Mem ad base NA ln rd VR cn wr al MI sn) (hd : sl_okd cc ck pc (41, a, j, n, ts) = true) (h : sl_xst X pc n lo st m wr ln sl_osi = some x) (ih : ∀ S1 m1, X S1 m1 = some x → sl_G p l e R s mid args below meth c ad base NA Hb D cA ln rd VR MI cn sn nL x Q m0 S1 m1) : sl_G p l e R s mid args below meth c ad base NA Hb D cA ln rd VR MI cn sn nL x Q m0 (pc, lo, st) m := by
  obtain ⟨v, i, c9, i9, r, m1, rfl, hok, h41, h0, hlt, hw, hz⟩ := sl_xst_in h
  obtain ⟨hx, hb, hml, hown, hts, hK⟩ := hC
  obtain ⟨hi, rfl⟩ := sl_d1 hd rfl
  unfold sl_osi at hok
  split at hok
  · rename_i y
    have hak : sl_ak c9 = 1 := eq_of_beq hok
    refine sl_G3 hM hw (sl_akc (by omega)) h41 hlt (ih _ _ hz) (fun H locs ls cells slots h2 hv hq hc kk => ?_)
    rw [hak] at hc kk
    refine W.iast hx hb hc ((hK.2 1 _ rfl).1 _ _) (fun q => by cases q) (sl_inb h0 hlt) rfl rfl hi (fun H1 e1 e2 e3 => W.eq rfl (kk H1 ?_ e2 e3))
    rw [e1]
    unfold sl_nar
    simp only [hak]
    rfl
  · cases hok
theorem sl_s_bast (hC : sl_Cx p s mid args c cc nL own D cA) (hM : sl_Mem ad base NA ln rd VR cn wr al MI sn) (hd : sl_okd cc ck pc (42, a, j, n, ts) = true) (h : sl_xst X pc n lo st m wr ln sl_osb = some x) (ih : ∀ S1 m1, X S1 m1 = some x → sl_G p l e R s mid args below meth c ad base NA Hb D cA ln rd VR MI cn sn nL x Q m0 S1 m1) : sl_G p l e R s mid args below meth c ad base NA Hb D cA ln rd VR MI cn sn nL x Q m0 (pc, lo, st) m := by
  obtain ⟨v, i, c9, i9, r, m1, rfl, hok, h41, h0, hlt, hw, hz⟩ := sl_xst_in h
  obtain ⟨hx, hb, hml, hown, hts, hK⟩ := hC
  obtain ⟨hi, rfl⟩ := sl_d1 hd rfl
  unfold sl_osb at hok
  split at hok
  · rename_i y
    have hak : sl_ak c9 = 0 ∨ sl_ak c9 = 2 := by
      unfold sl_okb at hok
      split at hok
      · exact Or.inl (by assumption)
      · exact Or.inr (by assumption)
      · cases hok
    refine sl_G3 hM hw (sl_akc (by omega)) h41 hlt (ih _ _ hz) (fun H locs ls cells slots h2 hv hq hc kk => ?_)
    rcases hak with hak | hak
    · rw [hak] at hc kk
      refine W.bast hx hb hc ((hK.2 0 _ rfl).1 _ _) (fun q => by cases q) (sl_inb h0 hlt) rfl rfl hi (fun H1 e1 e2 e3 => W.eq rfl (kk H1 ?_ e2 e3))
      rw [e1]
      unfold sl_nar
      simp only [hak]
      rfl
    · rw [hak] at hc kk
      refine W.zast hx hb hc ((hK.2 2 _ rfl).1 _ _) (fun q => by cases q) (sl_inb h0 hlt) rfl rfl hi (fun H1 e1 e2 e3 => W.eq rfl (kk H1 ?_ e2 e3))
      rw [e1]
      unfold sl_nar
      simp only [hak]
      rfl
  · cases hok
theorem sl_s_last (hC : sl_Cx p s mid args c cc nL own D cA) (hM : sl_Mem ad base NA ln rd VR cn wr al MI sn) (hd : sl_okd cc ck pc (44, a, j, n, ts) = true) (h : sl_xst X pc n lo st m wr ln sl_osl = some x) (ih : ∀ S1 m1, X S1 m1 = some x → sl_G p l e R s mid args below meth c ad base NA Hb D cA ln rd VR MI cn sn nL x Q m0 S1 m1) : sl_G p l e R s mid args below meth c ad base NA Hb D cA ln rd VR MI cn sn nL x Q m0 (pc, lo, st) m := by
  obtain ⟨v, i, c9, i9, r, m1, rfl, hok, h41, h0, hlt, hw, hz⟩ := sl_xst_in h
  obtain ⟨hx, hb, hml, hown, hts, hK⟩ := hC
  obtain ⟨hi, rfl⟩ := sl_d1 hd rfl
  unfold sl_osl at hok
  split at hok
  · rename_i y
    have hak : sl_ak c9 = 3 := eq_of_beq hok
    refine sl_G3 hM hw (sl_akc (by omega)) h41 hlt (ih _ _ hz) (fun H locs ls cells slots h2 hv hq hc kk => ?_)
    rw [hak] at hc kk
    exact W.last hx hb hc ((hK.2 3 _ rfl).1 _ _) (fun q => by cases q) (sl_inb h0 hlt) rfl rfl hi (fun H1 e1 e2 e3 => W.eq rfl (kk H1 e1 e2 e3))
  · cases hok
theorem sl_s_aast (hC : sl_Cx p s mid args c cc nL own D cA) (hM : sl_Mem ad base NA ln rd VR cn wr al MI sn) (hd : sl_okd cc ck pc (43, a, j, n, ts) = true) (h : sl_xst X pc n lo st m wr ln sl_osa = some x) (ih : ∀ S1 m1, X S1 m1 = some x → sl_G p l e R s mid args below meth c ad base NA Hb D cA ln rd VR MI cn sn nL x Q m0 S1 m1) : sl_G p l e R s mid args below meth c ad base NA Hb D cA ln rd VR MI cn sn nL x Q m0 (pc, lo, st) m := by
  obtain ⟨v, i, c9, i9, r, m1, rfl, hok, h41, h0, hlt, hw, hz⟩ := sl_xst_in h
  obtain ⟨hx, hb, hml, hown, hts, hK⟩ := hC
  obtain ⟨hi, rfl⟩ := sl_d1 hd rfl
  unfold sl_osa at hok
  split at hok
  · rename_i y
    obtain ⟨c8, i8⟩ := y
    simp only [Bool.and_eq_true, beq_iff_eq] at hok
    obtain ⟨hak, rfl⟩ := hok
    refine sl_G3 hM hw (sl_akc (by omega)) h41 hlt (ih _ _ hz) (fun H locs ls cells slots h2 hv hq hc kk => ?_)
    rw [hak] at hc kk
    obtain ⟨cellV, g1, g2, g3, -⟩ := (h2.2.2.2 2 i8 (hq _ rfl)).1 (by omega)
    have hcls := (hK.1 2 _ (sl_cls_at (c := 2) (by omega))).2
    obtain ⟨kA, comp, k1, k2, k3, -⟩ := (hK.2 4 _ rfl).2
    have hcomp : comp = D.1 2 := Option.some.inj (k3.symm.trans hcls.1)
    subst hcomp
    obtain ⟨kC, hkC, hkk⟩ := hcls.2
    exact W.aast hx hb hc (fun q h => by cases h) (fun h => by cases h) k1 k2 rfl hkC ⟨sl_nlt h0, by rw [arrV_size]; exact hlt⟩ g1 (fun q h => by rw [g3] at h; cases h) (by rw [g2]; exact hkC) (by rw [g2]; exact va_assign hcls) rfl rfl hi (fun H1 e1 e2 e3 => W.eq rfl (kk H1 e1 e2 e3))
  · cases hok

/-! making -/
theorem sl_s_newc {f : Option Nat} (hC : sl_Cx p s mid args c cc nL own D cA) (hM : sl_Mem ad base NA ln rd VR cn wr al MI sn) (hd : sl_okd cc ck pc (54, a, j, n, ts) = true) (hw : ∀ ci, f = some ci → ci < 12 ∧ Cond.classLink own j (sl_RX ci) ∈ sl_GW ∧ Cond.instantiable (sl_RX ci) (sl_NX ci) ∈ sl_GW ∧ Cond.initialized (sl_RX ci) ∈ sl_GW)
    (hmo : ∀ S1 m1, X S1 m1 = some x → cn m1 ≤ cn x.2 ∧ sn m1 ≤ sn x.2) (hR : cn x.2 - cn m0 ≤ R.cells ∧ sn x.2 - sn m0 ≤ R.slots) (h : sl_newc X pc n lo st m al f = some x) (ih : ∀ S1 m1, X S1 m1 = some x → sl_G p l e R s mid args below meth c ad base NA Hb D cA ln rd VR MI cn sn nL x Q m0 S1 m1) : sl_G p l e R s mid args below meth c ad base NA Hb D cA ln rd VR MI cn sn nL x Q m0 (pc, lo, st) m := by
  unfold sl_newc at h
  split at h
  · rename_i ci
    obtain ⟨hci, hcl, hin, hini⟩ := hw ci rfl
    unfold sl_alo at h
    split at h
    · rename_i q m1 hal
      have hmo := hmo _ _ h
      intro H locs ls a1 a2 a3 a4 a5 a6 a7 a8 a9 a10
      obtain ⟨w1, w2, w3, w4, w5, w6, w7⟩ := hM.2.2.2 m ci 0 q m1 hal a4
      rcases w7 with ⟨-, hq1, hsn, hdf⟩ | ⟨h100, -⟩
      · obtain ⟨hx, hb, hml, hown, hts, hK⟩ := id hC
        obtain ⟨i, hi, ho⟩ := sl_d4 hd rfl rfl rfl rfl
        unfold sl_okc at ho
        split at ho <;> first | exact Bool.noConfusion (show false = true from ho) | skip
        simp only [Bool.and_eq_true, Nat.beq_eq] at ho
        obtain ⟨-, rfl, rfl⟩ := ho
        have hKn := hK.1 ci _ (sl_cls_at hci)
        have hHs : H.size = base + cn m := a6.2.1 w3
        refine W.newcK hx hb hown (hts _ hcl) (hts _ hin) (hts _ hini) rfl hi (by omega) (by omega) hKn.2.1 rfl fun H1 kC hkC e1 z1 o1 => ?_
        have g := ih _ _ h H1 locs ls (fun r hr => (w5 r).mpr (Or.inl (a1 r hr))) (by omega) (by omega) w1 (by rw [z1]; omega) ⟨by rw [z1, w2]; omega, fun _ => by rw [z1, w2]; omega, fun r hr => by rw [o1 r (by omega)]; exact a6.2.2.1 r hr, fun c1 i1 hv => ?_⟩ a7 (fun r hr => (w5 r).mpr (Or.inl (a8 r hr))) (fun r hr => by
          rcases List.mem_cons.mp hr with hr | hr
          · cases hr; exact (w5 _).mpr (Or.inr rfl)
          · exact (w5 r).mpr (Or.inl (a9 r hr))) a10
        · rw [w2, hsn] at g
          rw [show cn m - cn m0 + 1 = cn m + 1 - cn m0 by omega, show sn m - sn m0 + sl_NX ci = sn m + sl_NX ci - sn m0 by omega]
          refine W.eq ?_ g
          show F0 mid (pc + 3) ls (Value.ref H.size :: st.map (sl_v ad)) = F0 mid (pc + 3) ls (Value.ref (ad q.1 q.2) :: st.map (sl_v ad))
          rw [w4, hHs]
        · rcases (w5 _).mp hv with hv | hv
          · rw [w6 c1 i1 hv]
            have hold := a6.2.2.2 c1 i1 hv
            refine ⟨fun hc => ?_, fun hc h41 => ?_⟩
            · obtain ⟨cell, q1, q2⟩ := hold.1 hc
              exact ⟨cell, by rw [o1 _ (Array.getElem?_eq_some_iff.mp q1).1]; exact q1, q2⟩
            · have q1 := hold.2 hc h41
              rw [o1 _ (Array.getElem?_eq_some_iff.mp q1).1]; exact q1
          · cases hv
            dsimp only at hq1 hdf w4
            subst hq1
            refine ⟨fun _ => ?_, fun hc => absurd hc (by omega)⟩
            rw [w4, ← hHs]
            exact (u_born (sl_TY c1) hts (sl_uw hci) hKn hkC e1 (sl_ty hci)).to (fun k hk => (hdf k hk).symm)
      · exact absurd h100 (by omega)
    · cases h
  · cases h
theorem sl_newa_fin {q : Nat × Nat} {m1 : M} {t : Nat} {v : Int32} {H H1 : Heap} (hal : al m t v = some (q, m1)) (hM : sl_Mem ad base NA ln rd VR cn wr al MI sn) (hI : MI m) (h100 : 100 ≤ t) (hP : sl_HP ad base NA Hb D cA ln rd VR cn m H) (z1 : H1.size = H.size + 1) (o1 : ∀ r : Nat, r < H.size → H1[r]? = H[r]?)
    (e1 : ∀ d : Value, (∀ k, sl_v ad (rd m1 q.1 q.2 k) = d) → H1[H.size]? = some (arrV (cA (sl_ak q.1)) (ln q.1 q.2) (fun _ => d))) : sl_HP ad base NA Hb D cA ln rd VR cn m1 H1 := by
  obtain ⟨w1, w2, w3, w4, w5, w6, w7⟩ := hM.2.2.2 m t v q m1 hal hI
  have hHs : H.size = base + cn m := hP.2.1 w3
  refine ⟨by rw [z1, w2]; omega, fun _ => by rw [z1, w2]; omega, fun r hr => by rw [o1 r (by omega)]; exact hP.2.2.1 r hr, fun c1 i1 hv => ?_⟩
  rcases (w5 _).mp hv with hv | hv
  · rw [w6 c1 i1 hv]
    have hold := hP.2.2.2 c1 i1 hv
    refine ⟨fun hc => ?_, fun hc h41 => ?_⟩
    · obtain ⟨cell, q1, q2⟩ := hold.1 hc
      exact ⟨cell, by rw [o1 _ (Array.getElem?_eq_some_iff.mp q1).1]; exact q1, q2⟩
    · have q1 := hold.2 hc h41
      rw [o1 _ (Array.getElem?_eq_some_iff.mp q1).1]; exact q1
  · rcases w7 with ⟨h12, -⟩ | ⟨-, -, hc20, -, -, -, -, -, -, hdf⟩
    · exact absurd h12 (by omega)
    · cases hv
      dsimp only at hc20 hdf w4 e1
      refine ⟨fun hc => absurd hc (by omega), fun _ _ => ?_⟩
      rw [w4, ← hHs]
      have e1 := e1 (sl_v ad (rd m1 c1 i1 0)) (fun k => by rw [hdf k, hdf 0])
      rw [e1]
      congr 2
      funext k
      rw [hdf k, hdf 0]
theorem sl_RAp {s : State} {cA : Nat → ClassId} {D : va_G} (hK : va_K D sl_cls (sl_tys cA) s) : s.vm.findClass ("[" ++ (FieldType.byte).toString) = some (cA 0) ∧ s.vm.findClass ("[" ++ (FieldType.int).toString) = some (cA 1) ∧ s.vm.findClass ("[" ++ (FieldType.boolean).toString) = some (cA 2) ∧ s.vm.findClass ("[" ++ (FieldType.long).toString) = some (cA 3) ∧ s.vm.findClass ("[" ++ (FieldType.object "SerialLink$Frame").toString) = some (cA 4) :=
  ⟨(hK.2 0 _ rfl).2, (hK.2 1 _ rfl).2, (hK.2 2 _ rfl).2, (hK.2 3 _ rfl).2, by obtain ⟨_, _, _, _, _, h⟩ := (hK.2 4 _ rfl).2; exact h⟩
theorem sl_s_newa {t : Nat} (hC : sl_Cx p s mid args c cc nL own D cA) (hM : sl_Mem ad base NA ln rd VR cn wr al MI sn) (hd : sl_okd cc ck pc (55, a, j, n, ts) = true) (hw : ∀ ty : ArrayType, sl_nk ty = j → Cond.arrayClass (newarray.typeOf ty) ∈ sl_GW) (hj : 100 ≤ j)
    (hmo : ∀ S1 m1, X S1 m1 = some x → cn m1 ≤ cn x.2 ∧ sn m1 ≤ sn x.2) (hR : cn x.2 - cn m0 ≤ R.cells ∧ sn x.2 - sn m0 ≤ R.slots) (h : sl_newa X pc n lo st m al j = some x) (ih : ∀ S1 m1, X S1 m1 = some x → sl_G p l e R s mid args below meth c ad base NA Hb D cA ln rd VR MI cn sn nL x Q m0 S1 m1) : sl_G p l e R s mid args below meth c ad base NA Hb D cA ln rd VR MI cn sn nL x Q m0 (pc, lo, st) m := by
  unfold sl_newa at h
  split at h
  · rename_i v r
    unfold sl_alo at h
    split at h
    · rename_i q m1 hal
      have hmo := hmo _ _ h
      intro H locs ls a1 a2 a3 a4 a5 a6 a7 a8 a9 a10
      obtain ⟨w1, w2, w3, w4, w5, w6, w7⟩ := hM.2.2.2 m j v q m1 hal a4
      rcases w7 with ⟨h12, -⟩ | ⟨-, h104, hc20, h41, hak, hneg, hle, hln, hsn, hdf⟩
      · exact absurd h12 (by omega)
      · obtain ⟨hx, hb, hml, hown, hts, hK⟩ := id hC
        obtain ⟨i, hi, ho⟩ := sl_d4 hd rfl rfl rfl rfl
        unfold sl_okc at ho
        split at ho <;> first | exact Bool.noConfusion (show false = true from ho) | skip
        rename_i aty
        simp only [Bool.and_eq_true, Nat.beq_eq] at ho
        obtain ⟨-, hnk, rfl⟩ := ho
        have hHs : H.size = base + cn m := a6.2.1 w3
        obtain ⟨f0, f1, f2, f3, f4⟩ := sl_RAp hK
        refine W.newa hx hb (hts _ (hw aty hnk)) rfl hi rfl hneg ?_ (by omega) (by omega) fun cA9 kA comp g1 g2 g3 => ?_
        · have : componentBytes (newarray.typeOf aty) ≤ 8 := by cases aty <;> first | decide | (simp [componentBytes, newarray.typeOf]; done) | exact Nat.le_of_ble_eq_true rfl
          calc v.toNatClampNeg * componentBytes (newarray.typeOf aty) ≤ 100000 * 8 := Nat.mul_le_mul hle this
            _ ≤ 536870912 := Nat.le_of_ble_eq_true rfl
        · have hty : cA9 = cA (sl_ak q.1) ∧ ∀ k, sl_v ad (rd m1 q.1 q.2 k) = defaultValue (newarray.typeOf aty) := by
            cases aty <;> first
              | (obtain rfl : j = 100 := hnk.symm; exact ⟨by rw [show sl_ak q.1 = 0 by omega]; exact Option.some.inj (g1.symm.trans f0), fun k => by rw [hdf k]; rfl⟩)
              | (obtain rfl : j = 101 := hnk.symm; exact ⟨by rw [show sl_ak q.1 = 1 by omega]; exact Option.some.inj (g1.symm.trans f1), fun k => by rw [hdf k]; rfl⟩)
              | (obtain rfl : j = 102 := hnk.symm; exact ⟨by rw [show sl_ak q.1 = 2 by omega]; exact Option.some.inj (g1.symm.trans f2), fun k => by rw [hdf k]; rfl⟩)
              | (obtain rfl : j = 103 := hnk.symm; exact ⟨by rw [show sl_ak q.1 = 3 by omega]; exact Option.some.inj (g1.symm.trans f3), fun k => by rw [hdf k]; rfl⟩)
              | (obtain rfl : j = 0 := hnk.symm; exact absurd hj (by omega))
          obtain ⟨rfl, hdv⟩ := hty
          rw [arrV_new]
          have g := ih _ _ h (H.push (arrV (cA (sl_ak q.1)) v.toNatClampNeg (fun _ => defaultValue (newarray.typeOf aty)))) locs ls (fun r hr => (w5 r).mpr (Or.inl (a1 r hr))) (by omega) (by omega) w1 (by rw [Array.size_push]; omega)
            (sl_newa_fin hal hM a4 hj a6 (Array.size_push _) (fun r hr => by rw [Array.getElem?_push, if_neg (Nat.ne_of_lt hr)]) (fun d hd9 => by rw [hln, ← hd9 0, hdv 0]; simp)) a7 (fun r hr => (w5 r).mpr (Or.inl (a8 r hr))) (fun r hr => by
              rcases List.mem_cons.mp hr with hr | hr
              · cases hr; exact (w5 _).mpr (Or.inr rfl)
              · exact (w5 r).mpr (Or.inl (a9 r (List.mem_cons_of_mem _ hr)))) a10
          rw [w2, hsn] at g
          rw [show cn m - cn m0 + 1 = cn m + 1 - cn m0 by omega, show sn m - sn m0 + v.toNatClampNeg = sn m + v.toNatClampNeg - sn m0 by omega]
          refine W.eq ?_ g
          show F0 mid (pc + 2) ls (Value.ref H.size :: r.map (sl_v ad)) = F0 mid (pc + 2) ls (Value.ref (ad q.1 q.2) :: r.map (sl_v ad))
          rw [w4, hHs]
    · cases h
  · cases h
theorem sl_s_anew (hC : sl_Cx p s mid args c cc nL own D cA) (hM : sl_Mem ad base NA ln rd VR cn wr al MI sn) (hd : sl_okd cc ck pc (61, a, j, n, ts) = true) (hw : Cond.classLink own j "SerialLink$Frame" ∈ sl_GW) (hov : (Cond.arrayOver (.object "SerialLink$Frame")).before args s = true)
    (hmo : ∀ S1 m1, X S1 m1 = some x → cn m1 ≤ cn x.2 ∧ sn m1 ≤ sn x.2) (hR : cn x.2 - cn m0 ≤ R.cells ∧ sn x.2 - sn m0 ≤ R.slots) (h : sl_newa X pc n lo st m al 104 = some x) (ih : ∀ S1 m1, X S1 m1 = some x → sl_G p l e R s mid args below meth c ad base NA Hb D cA ln rd VR MI cn sn nL x Q m0 S1 m1) : sl_G p l e R s mid args below meth c ad base NA Hb D cA ln rd VR MI cn sn nL x Q m0 (pc, lo, st) m := by
  unfold sl_newa at h
  split at h
  · rename_i v r
    unfold sl_alo at h
    split at h
    · rename_i q m1 hal
      have hmo := hmo _ _ h
      intro H locs ls a1 a2 a3 a4 a5 a6 a7 a8 a9 a10
      obtain ⟨w1, w2, w3, w4, w5, w6, w7⟩ := hM.2.2.2 m 104 v q m1 hal a4
      rcases w7 with ⟨h12, -⟩ | ⟨-, h104, hc20, h41, hak, hneg, hle, hln, hsn, hdf⟩
      · exact absurd h12 (by omega)
      · obtain ⟨hx, hb, hml, hown, hts, hK⟩ := id hC
        obtain ⟨i, hi, ho⟩ := sl_d4 hd rfl rfl rfl rfl
        unfold sl_okc at ho
        split at ho <;> first | exact Bool.noConfusion (show false = true from ho) | skip
        simp only [Bool.and_eq_true, Nat.beq_eq] at ho
        obtain ⟨-, rfl, rfl⟩ := ho
        have hHs : H.size = base + cn m := a6.2.1 w3
        obtain ⟨f0, f1, f2, f3, f4⟩ := sl_RAp hK
        refine W.anew hx hb hown (hts _ hw) hov rfl hi rfl hneg (by omega) (by omega) (by omega) fun cA9 kA comp g1 g2 g3 g4 => ?_
        have hty : cA9 = cA (sl_ak q.1) := by rw [show sl_ak q.1 = 4 by omega]; exact Option.some.inj (g1.symm.trans f4)
        have hdv : ∀ k, sl_v ad (rd m1 q.1 q.2 k) = .null := fun k => by rw [hdf k]; rfl
        subst hty
        rw [arrV_new]
        have g := ih _ _ h (H.push (arrV (cA (sl_ak q.1)) v.toNatClampNeg (fun _ => .null))) locs ls (fun r hr => (w5 r).mpr (Or.inl (a1 r hr))) (by omega) (by omega) w1 (by rw [Array.size_push]; omega)
          (sl_newa_fin hal hM a4 (by omega) a6 (Array.size_push _) (fun r hr => by rw [Array.getElem?_push, if_neg (Nat.ne_of_lt hr)]) (fun d hd9 => by rw [hln, ← hd9 0, hdv 0]; simp)) a7 (fun r hr => (w5 r).mpr (Or.inl (a8 r hr))) (fun r hr => by
            rcases List.mem_cons.mp hr with hr | hr
            · cases hr; exact (w5 _).mpr (Or.inr rfl)
            · exact (w5 r).mpr (Or.inl (a9 r (List.mem_cons_of_mem _ hr)))) a10
        rw [w2, hsn] at g
        rw [show cn m - cn m0 + 1 = cn m + 1 - cn m0 by omega, show sn m - sn m0 + v.toNatClampNeg = sn m + v.toNatClampNeg - sn m0 by omega]
        refine W.eq ?_ g
        show F0 mid (pc + 3) ls (Value.ref H.size :: r.map (sl_v ad)) = F0 mid (pc + 3) ls (Value.ref (ad q.1 q.2) :: r.map (sl_v ad))
        rw [w4, hHs]
    · cases h
  · cases h
end SLI
end
section
section SLK
variable {M : Type}
variable {p : Program} {l : Launch} {e : Env} {R : Room} {s : State} {mid : MethodId} {args : Array Value} {below : List Frame} {meth : Method} {c : Code} {ad : Nat → Nat → Nat} {base NA : Nat} {Hb : Heap} {D : va_G} {cA : Nat → ClassId} {ln : Nat → Nat → Nat} {rd : M → Nat → Nat → Nat → sl_V} {VR : M → Nat × Nat → Prop} {MI : M → Prop} {cn sn : M → Nat} {nL : Nat} {x : sl_PL × M} {Q : State → Prop} {m0 : M} {m : M}
variable {wr : M → Nat → Nat → Nat → sl_V → Option M} {al : M → Nat → Int32 → Option ((Nat × Nat) × M)} {cc : ByteArray} {ck : Nat → Nat} {own : String} {X : sl_S → M → Option (sl_PL × M)} {pc n j : Nat} {a : Int32} {ts : List Nat} {lo : List (Option sl_V)} {st : List sl_V}
/-! calls -/
def sl_IX : String := "java/lang/IndexOutOfBoundsException"
def sl_NW : List Cond := [.methodLinkNest RX10 11 yX8_init RX10, .methodLinkNest RX10 18 yX9_init RX10, .methodLinkNest RX10 61 yX3_init RX10, .methodLinkNest RX4 30 yX2_init RX10, .methodLinkNest RX1 25 yX3_init RX10,
  .declares (Bundle.initS "java/lang/RuntimeException"), .declares (Bundle.initS "java/lang/Exception"), .declares (Bundle.initS Bundle.tN), .castable sl_IX sl_IX]
def sl_KK (D : va_G) (cA : Nat → ClassId) (base : Nat) (U : State) : Prop := va_K D sl_cls (sl_tys cA) U ∧ va_AO "SerialLink$Frame" U ∧ (∀ w ∈ sl_NW, va_Nw w U) ∧
  vx_Zq Bundle.tN "UNASSIGNED_STACK" Bundle.steD (fun q => base ≤ q) U U.heap ∧ vx_Zq Bundle.tN "SUPPRESSED_SENTINEL" Bundle.listD (fun q => base ≤ q) U U.heap ∧ (∃ a, vk_R RX10 242 "there is no such end" a U) ∧ (∃ a, vk_R RX10 247 "there is no such line" a U)
theorem sl_nw_warm {s U : State} (hW : s.WarmedH U.vm) : ∀ w ∈ sl_NW, va_Nw w s → va_Nw w U := by
  intro w hw h
  unfold sl_NW at hw
  simp only [List.mem_cons, List.not_mem_nil, or_false] at hw
  rcases hw with rfl | rfl | rfl | rfl | rfl | rfl | rfl | rfl | rfl
  · exact va_Nw.warmM hW h
  · exact va_Nw.warmM hW h
  · exact va_Nw.warmM hW h
  · exact va_Nw.warmM hW h
  · exact va_Nw.warmM hW h
  · exact va_Nw.warmD hW h
  · exact va_Nw.warmD hW h
  · exact va_Nw.warmD hW h
  · exact va_Nw.warmC hW h
theorem sl_nw_tab : ∀ w ∈ sl_NW, w.onTables = true := by
  intro w hw
  unfold sl_NW at hw
  simp only [List.mem_cons, List.not_mem_nil, or_false] at hw
  rcases hw with rfl | rfl | rfl | rfl | rfl | rfl | rfl | rfl | rfl <;> rfl
theorem sl_KK_move {s U : State} {base : Nat} {D : va_G} {cA : Nat → ClassId} (h : sl_KK D cA base s) (hW : s.WarmedH U.vm) (hb : ∀ q : Nat, q < base → U.heap[q]? = s.heap[q]?) : sl_KK D cA base U := by
  obtain ⟨h1, h2, h3, h4, h5, ⟨a1, h6⟩, ⟨a2, h7⟩⟩ := h
  exact ⟨va_K.moved hW.alike h1, va_AO.moved hW.alike h2, fun w hw => sl_nw_warm hW w hw (h3 w hw), vx_Zq.moved hW.alike (h4.kept (fun a _ ha => hb a (Nat.not_le.mp ha))), vx_Zq.moved hW.alike (h5.kept (fun a _ ha => hb a (Nat.not_le.mp ha))), ⟨a1, vk_R.warm hW h6⟩, ⟨a2, vk_R.warm hW h7⟩⟩
theorem sl_KK_blind {base : Nat} {D : va_G} {cA : Nat → ClassId} {U : State} (g : JFrame) (mk : MethodId) (a9 : Array Value) (h : sl_KK D cA base U) : sl_KK D cA base (U.calling g mk a9) := by
  obtain ⟨h1, h2, h3, h4, h5, ⟨a1, h6⟩, ⟨a2, h7⟩⟩ := h
  exact ⟨va_K.moved (u := U) (U := U.calling g mk a9) (Vm.Alike.refl U.vm) h1, va_AO.moved (u := U) (U := U.calling g mk a9) (Vm.Alike.refl U.vm) h2, fun w hw => va_Nw.same (u := U) (U := U.calling g mk a9) (sl_nw_tab w hw) rfl (h3 w hw),
    vx_Zq.moved (u := U) (U := U.calling g mk a9) (Vm.Alike.refl U.vm) h4, vx_Zq.moved (u := U) (U := U.calling g mk a9) (Vm.Alike.refl U.vm) h5, ⟨a1, vk_R.same (u := U) (U := U.calling g mk a9) rfl h6⟩, ⟨a2, vk_R.same (u := U) (U := U.calling g mk a9) rfl h7⟩⟩
section SLJ
variable {M : Type} (ad : Nat → Nat → Nat) (base NA : Nat) (Hb : Heap) (D : va_G) (cA : Nat → ClassId) (ln : Nat → Nat → Nat) (rd : M → Nat → Nat → Nat → sl_V) (VR : M → Nat × Nat → Prop) (MI : M → Prop) (cn sn : M → Nat)
def sl_Pc (as : List sl_V) (m : M) : Array Value → State → Prop := fun v U => v = (as.map (sl_v ad)).toArray ∧ sl_HP ad base NA Hb D cA ln rd VR cn m U.heap ∧ sl_KK D cA base U
def sl_rv (rk rc : Nat) (pl : sl_PL) : Option Value := match rk with
  | 0 => none
  | 1 => some (.int pl.1)
  | 2 => some (.ref (ad rc pl.2.1))
  | _ => if pl.2.2 = 1 then some .null else some (.ref (ad rc pl.2.1))
def sl_okr (rk rc : Nat) (x : sl_PL × M) : Prop := (rk = 2 → VR x.2 (rc, x.1.2.1)) ∧ (3 ≤ rk → x.1.2.2 ≠ 1 → VR x.2 (rc, x.1.2.1))
def sl_Qc (rk rc : Nat) (m : M) (x : sl_PL × M) : Array Value → State → Outcome → State → Prop := fun _ st o t => o = .returned (sl_rv ad rk rc x.1) ∧ sl_HP ad base NA Hb D cA ln rd VR cn x.2 t.heap ∧ st.heap.size ≤ t.heap.size ∧ MI x.2 ∧ (∀ q, VR m q → VR x.2 q) ∧ sl_okr VR rk rc x
def sl_XC (m m1 : M) : String → State → State → Prop := fun E st t => E = sl_IX ∧ sl_HP ad base NA Hb D cA ln rd VR cn m1 t.heap ∧ st.heap.size ≤ t.heap.size ∧ MI m1 ∧ (∀ q, VR m q → VR m1 q)
/-- what a function's answers have at any rate -/
def sl_Cp (th : Nat) (F : List sl_V → M → Option (sl_PL × M)) : Prop := ∀ (as : List sl_V) (m : M) (x : sl_PL × M), F as m = some x → cn m ≤ cn x.2 ∧ sn m ≤ sn x.2 ∧ (th = 0 → x.1.2.2 ≠ 2)
def sl_Ct (l : Launch) (Y : MethodName) (B : ByteArray) (mL : Nat) (ret : Option FieldType) (fr lc rk rc : Nat) (F : List sl_V → M → Option (sl_PL × M)) : Prop :=
  ∀ (as : List sl_V) (m : M) (x : sl_PL × M), F as m = some x → MI m → (∀ q, .inr (.inl (some q)) ∈ as → VR m q) → as.all sl_c1 = true → as.length ≤ mL →
    (x.1.2.2 ≠ 2 → Met l Y (.code Y B mL ret :: sl_GW) { frames := fr, cells := cn x.2 - cn m, slots := sn x.2 - sn m, locals := lc } (sl_Pc ad base NA Hb D cA ln rd VR cn as m) (sl_Qc ad base NA Hb D cA ln rd VR MI cn rk rc m x) (cn x.2 - cn m) (sn x.2 - sn m) (fun q => base ≤ q)) ∧
    (x.1.2.2 = 2 → vx_Met l Y (.code Y B mL ret :: sl_GW) { frames := fr, cells := cn x.2 - cn m + 1, slots := sn x.2 - sn m + 6, locals := lc } (sl_Pc ad base NA Hb D cA ln rd VR cn as m) (fun _ _ _ _ => False) (sl_XC ad base NA Hb D cA ln rd VR MI cn m x.2) (cn x.2 - cn m + 1) (sn x.2 - sn m + 6) (fun q => base ≤ q))
end SLJ
/-- what the tables say of a call; kinds: 0 virtual, 1 static, 2 a constructor, 3 a nest mate's -/
def sl_cok (own : String) (j k9 : Nat) (Y : MethodName) (B : ByteArray) (mL : Nat) (ret : Option FieldType) (na rv fr lc rf rl : Nat) : Prop :=
  na ≤ mL ∧ Cond.code Y B mL ret ∈ sl_GW ∧ Cond.initialized Y.cls ∈ sl_GW ∧ (Y.cls ≠ "java/lang/invoke/MethodHandle" ∧ Y.cls ≠ "java/lang/invoke/VarHandle" ∧ (parseMethodDescriptor Y.desc).map (fun d => d.parameters.length) = some (if rv = 0 then na else na - 1)) ∧ (fr + 1 ≤ rf ∧ 8 + (mL + 11) + lc ≤ rl) ∧
  ((k9 = 0 ∧ Cond.methodLink own j Y ∈ sl_GW ∧ Cond.instanceMethod Y ∈ sl_GW ∧ Cond.selects Y.cls Y Y ∈ lw_tbl ∧ goodWord (Cond.selects Y.cls Y Y) = true ∧ ∃ ci, rv = ci + 1 ∧ ci < 12 ∧ sl_RX ci = Y.cls) ∨
   (k9 = 1 ∧ Cond.methodLink own j Y ∈ sl_GW ∧ Cond.static Y ∈ sl_GW ∧ rv = 0) ∨
   (k9 = 2 ∧ Cond.methodLink own j Y ∈ sl_GW ∧ Cond.instanceMethod Y ∈ sl_GW ∧ Y.name = "<init>" ∧ ret = none ∧ rv ≠ 0) ∨
   (k9 = 3 ∧ (∃ host, Cond.methodLinkNest own j Y host ∈ sl_NW) ∧ Cond.instanceMethod Y ∈ sl_GW ∧ Y.name = "<init>" ∧ ret = none ∧ rv ≠ 0))
theorem sl_pre {H : Heap} {as : List sl_V} (hKK : sl_KK D cA base s) (hP : sl_HP ad base NA Hb D cA ln rd VR cn m H) (hPs : ∀ q : Nat, q < base → H[q]? = s.heap[q]?) : FrameBlind (sl_Pc ad base NA Hb D cA ln rd VR cn as m) ∧ ∀ U : State, U.heap = H → s.WarmedH U.vm → sl_Pc ad base NA Hb D cA ln rd VR cn as m (as.map (sl_v ad)).toArray U := by
  refine ⟨fun a9 U g mk h => ⟨h.1, h.2.1, sl_KK_blind g mk a9 h.2.2⟩, fun U hU hW => ⟨rfl, by rw [hU]; exact hP, sl_KK_move hKK hW (fun q hq => by rw [hU]; exact hPs q hq)⟩⟩
theorem sl_dcall {k9 : Nat} (hd : sl_okd cc ck pc (46, a, j, n, ts) = true) (hk : ck j = k9) : n = 3 ∧ ((k9 = 0 ∧ decode cc pc = .ok (.invokevirtual j, 3)) ∨ (k9 = 1 ∧ decode cc pc = .ok (.invokestatic j, 3)) ∨ ((k9 = 2 ∨ k9 = 3) ∧ decode cc pc = .ok (.invokespecial j, 3))) := by
  obtain ⟨i, hi, ho⟩ := sl_d4 hd rfl rfl rfl rfl
  rw [hk] at ho
  unfold sl_okc at ho
  split at ho <;> first | exact Bool.noConfusion (show false = true from ho) | skip
  · simp only [Bool.and_eq_true, Nat.beq_eq] at ho
    obtain ⟨-, rfl, rfl, h0⟩ := ho
    exact ⟨rfl, Or.inl ⟨h0, hi⟩⟩
  · simp only [Bool.and_eq_true, Nat.beq_eq] at ho
    obtain ⟨-, rfl, rfl, h0⟩ := ho
    exact ⟨rfl, Or.inr (Or.inl ⟨h0, hi⟩)⟩
  · simp only [Bool.and_eq_true, Bool.or_eq_true, Nat.beq_eq] at ho
    rcases ho with ⟨-, rfl, rfl, h0⟩ | ⟨h0, -⟩
    · exact ⟨rfl, Or.inr (Or.inr ⟨h0, hi⟩)⟩
    · exact absurd h0 (by decide)
theorem sl_rc_in {rv ci : Nat} {as : List sl_V} (h : sl_rc rv as = true) (hr : rv = ci + 1) : ∃ i r, as = .inr (.inl (some (ci, i))) :: r := by
  subst hr
  have h : sl_rc1 ci as = true := h
  rcases as with _ | ⟨v, r⟩
  · cases h
  · rcases v with z | (_ | ⟨c9, i9⟩) | y
    · cases h
    · cases h
    · have h9 : c9 = ci := eq_of_beq h
      subst h9
      exact ⟨i9, r, rfl⟩
    · cases h
theorem sl_va {H : Heap} {locs : List Loc} {cells slots mc ms : Nat} {ls : Array Slot} {as r : List sl_V} {Y : MethodName} {B : ByteArray} {mL : Nat} {ret : Option FieldType} {na rv fr lc k9 : Nat} {Qc : Array Value → State → Outcome → State → Prop} {free : Addr → Prop} (hC : sl_Cx p s mid args c cc nL own D cA) (hKK : sl_KK D cA base s) (hP : sl_HP ad base NA Hb D cA ln rd VR cn m H) (hPs : ∀ q : Nat, q < base → H[q]? = s.heap[q]?) (hd : sl_okd cc ck pc (46, a, j, n, ts) = true) (hk : ck j = k9)
    (hok : sl_cok own j k9 Y B mL ret na rv fr lc R.frames R.locals) (hTs : (∀ w ∈ (Cond.code Y B mL ret :: sl_GW : List Cond), w.before args s = true)) (hrc : sl_rc rv as = true) (hna : as.length = na) (hv : ∀ q, .inr (.inl (some q)) ∈ as → VR m q) (hls : ls.size = nL) (hsum : sl_cs r ≤ 8) (hcs : cells + mc ≤ R.cells ∧ slots + ms ≤ R.slots)
    (hMet : Met l Y (.code Y B mL ret :: sl_GW) { frames := fr, cells := mc, slots := ms, locals := lc } (sl_Pc ad base NA Hb D cA ln rd VR cn as m) Qc mc ms free) :
    va_Run p l e R s mid args below meth c H locs cells slots mc ms (F0 mid pc ls ((as.reverse ++ r).map (sl_v ad))) (r.map (sl_v ad)) (Qc (as.map (sl_v ad)).toArray) free := by
  obtain ⟨hx, hb, hml, hown, hts, hK⟩ := hC
  obtain ⟨k0, k1, k2, ⟨k3, k4, k5⟩, k6, k7⟩ := hok
  obtain ⟨rfl, hdd⟩ := sl_dcall hd hk
  obtain ⟨hbl, hpc⟩ := sl_pre (as := as) hKK hP hPs
  have hG : GoodIn (Cond.code Y B mL ret :: sl_GW) (Cond.code Y B mL ret :: sl_GW) := sl_gin k1
  have S : CallFix p mid c cc nL s args (Cond.code Y B mL ret :: sl_GW) own := ⟨hx, hb, hml, hown, hTs⟩
  have hroom := lv_room (m := mid) (pc := pc) (ls := ls) (rest := (as.reverse ++ r).map (sl_v ad)) (st := r.map (sl_v ad)) (by rw [sl_csum]; exact hsum)
  rcases k7 with ⟨e0, q1, q2, q3, q4, ci, hrv, hci, hcls⟩ | ⟨e0, q1, q2, hrv⟩ | ⟨e0, q1, q2, q3, q4, hrv⟩ | ⟨e0, ⟨host, q1⟩, q2, q3, q4, hrv⟩
  · obtain ⟨i9, as9, rfl⟩ := sl_rc_in hrc hrv
    have hdg : decode cc pc = .ok (.invokevirtual j, 3) := by
      rcases hdd with ⟨-, h⟩ | ⟨h, -⟩ | ⟨h, -⟩
      · exact h
      · omega
      · omega
    obtain ⟨cell, c1, c2, c3, -⟩ := (hP.2.2.2 ci i9 (hv _ List.mem_cons_self)).1 hci
    have hfc := (hK.1 ci _ (sl_cls_at hci)).2.1
    have hst : ((Sum.inr (Sum.inl (some (ci, i9))) :: as9 : List sl_V).reverse ++ r).map (sl_v ad) = (as9.map (sl_v ad)).reverse ++ .ref (ad ci i9) :: r.map (sl_v ad) := by
      rw [List.reverse_cons, List.append_assoc, List.map_append, List.map_reverse]; rfl
    rw [hst]
    rw [hst] at hroom
    exact va_runV (As := as9.map (sl_v ad)) (rest := r.map (sl_v ad)) (C := Y.cls) (n := as9.length) S hMet ⟨callB_of as9.length hTs hG rfl rfl rfl (hts _ k2) (hts _ q1) ⟨k3, k4, by rw [k5, if_neg (by omega), ← hna]; simp⟩ k6, hts _ q2, hts _ (sl_gw q3 q4)⟩ ⟨hbl, ⟨cell, c1, by rw [c3]; rfl, by rw [c2, ← hcls]; exact hfc⟩, hpc⟩ rfl (by rw [List.length_map]) hls rfl hroom hdg hcs
  · have hdg : decode cc pc = .ok (.invokestatic j, 3) := by
      rcases hdd with ⟨h, -⟩ | ⟨-, h⟩ | ⟨h, -⟩
      · omega
      · exact h
      · omega
    have hst : (as.reverse ++ r).map (sl_v ad) = (as.map (sl_v ad)).reverse ++ r.map (sl_v ad) := by
      rw [List.map_append, List.map_reverse]
    rw [hst]
    rw [hst] at hroom
    exact va_runS (As := as.map (sl_v ad)) (rest := r.map (sl_v ad)) (n := as.length) S hMet ⟨callB_of as.length hTs hG rfl rfl rfl (hts _ k2) (hts _ q1) ⟨k3, k4, by rw [k5, if_pos hrv, hna]⟩ k6, hts _ q2⟩ ⟨hbl, hpc⟩ rfl (by rw [List.length_map]) hls rfl hroom hdg hcs
  · obtain ⟨ci, hrv⟩ := Nat.exists_eq_succ_of_ne_zero hrv
    obtain ⟨i9, as9, rfl⟩ := sl_rc_in hrc hrv
    subst q4
    have hdg : decode cc pc = .ok (.invokespecial j, 3) := by
      rcases hdd with ⟨h, -⟩ | ⟨h, -⟩ | ⟨-, h⟩
      · omega
      · omega
      · exact h
    have hst : ((Sum.inr (Sum.inl (some (ci, i9))) :: as9 : List sl_V).reverse ++ r).map (sl_v ad) = (as9.map (sl_v ad)).reverse ++ .ref (ad ci i9) :: r.map (sl_v ad) := by
      rw [List.reverse_cons, List.append_assoc, List.map_append, List.map_reverse]; rfl
    rw [hst]
    rw [hst] at hroom
    exact va_runI (As := as9.map (sl_v ad)) (rest := r.map (sl_v ad)) (n := as9.length) S hMet (cwI as9.length hTs hG rfl rfl rfl (hts _ k2) (hts _ q1) (hts _ q2) q3 ⟨k3, k4, by rw [k5, if_neg (by omega), ← hna]; simp⟩ k6) ⟨hbl, hpc⟩ rfl (by rw [List.length_map]) hls rfl hroom hdg hcs
  · obtain ⟨ci, hrv⟩ := Nat.exists_eq_succ_of_ne_zero hrv
    obtain ⟨i9, as9, rfl⟩ := sl_rc_in hrc hrv
    subst q4
    have hdg : decode cc pc = .ok (.invokespecial j, 3) := by
      rcases hdd with ⟨h, -⟩ | ⟨h, -⟩ | ⟨-, h⟩
      · omega
      · omega
      · exact h
    have hst : ((Sum.inr (Sum.inl (some (ci, i9))) :: as9 : List sl_V).reverse ++ r).map (sl_v ad) = (as9.map (sl_v ad)).reverse ++ .ref (ad ci i9) :: r.map (sl_v ad) := by
      rw [List.reverse_cons, List.append_assoc, List.map_append, List.map_reverse]; rfl
    rw [hst]
    rw [hst] at hroom
    exact va_runIN (As := as9.map (sl_v ad)) (rest := r.map (sl_v ad)) (n := as9.length) S hMet ⟨va_cnB as9.length hTs hG rfl rfl rfl (hKK.2.2.1 _ q1) (hts _ k2) ⟨k3, k4, by rw [k5, if_neg (by omega), ← hna]; simp⟩ k6, q3, hts _ q2⟩ ⟨hbl, hpc⟩ rfl (by rw [List.length_map]) hls rfl hroom hdg hcs
/-- behind a call that returned -/
theorem sl_ret {H : Heap} {locs : List Loc} {cells slots mc ms : Nat} {ls : Array Slot} {g0 : List Value} {rest : List Value} {Qa : State → Outcome → State → Prop} {free : Addr → Prop} (hr : va_Run p l e R s mid args below meth c H locs cells slots mc ms (F0 mid pc ls g0) rest Qa free) {w : Option Value} (hq : ∀ st v t, Qa st (.returned v) t → v = w)
    (kk : ∀ (t : State) (st : State) (L : List Loc), st.heap = H → Qa st (.returned w) t → (∀ q ∈ L, free q.base) → W p l e R s mid args below meth c t.heap (locs ++ L) (cells + mc) (slots + ms) Q (F0 mid (pc + 3) ls (w.toList ++ rest))) : W p l e R s mid args below meth c H locs cells slots Q (F0 mid pc ls g0) := by
  intro T hT XT
  obtain ⟨v, st₀, t, T', L, h0, X', hL, e1, e2, hqa, st⟩ := hr T hT XT
  obtain rfl := hq _ _ _ hqa
  obtain ⟨t2, a1, b1⟩ := kk t st₀ L h0 hqa hL T' e1 X'
  exact ⟨t2, st t2 a1, b1⟩

theorem sl_rv_str (rk rc : Nat) (pl : sl_PL) (r : List sl_V) : ∃ S1 : List sl_V, (sl_rv ad rk rc pl).toList ++ r.map (sl_v ad) = S1.map (sl_v ad) ∧ (∀ (X : sl_S → M → Option (sl_PL × M)) (pc n : Nat) (lo : List (Option sl_V)) (m1 : M), sl_back X pc n lo rk rc (pl, m1) r = X (pc + n, lo, S1) m1) ∧ ∀ q, .inr (.inl (some q)) ∈ S1 → .inr (.inl (some q)) ∈ r ∨ (q = (rc, pl.2.1) ∧ (rk = 2 ∨ (3 ≤ rk ∧ pl.2.2 ≠ 1))) := by
  match rk with
  | 0 => exact ⟨r, rfl, fun _ _ _ _ _ => rfl, fun q hq => Or.inl hq⟩
  | 1 => exact ⟨.inl pl.1 :: r, rfl, fun _ _ _ _ _ => rfl, fun q hq => Or.inl (sl_q1 q hq)⟩
  | 2 => exact ⟨.inr (.inl (some (rc, pl.2.1))) :: r, rfl, fun _ _ _ _ _ => rfl, fun q hq => by
      rcases List.mem_cons.mp hq with hq | hq
      · cases hq; exact Or.inr ⟨rfl, Or.inl rfl⟩
      · exact Or.inl hq⟩
  | k + 3 =>
    by_cases h1 : pl.2.2 = 1
    · refine ⟨.inr (.inl none) :: r, ?_, fun X pc n lo m1 => ?_, fun q hq => ?_⟩
      · show (if pl.2.2 = 1 then some Value.null else some (.ref (ad rc pl.2.1))).toList ++ _ = _
        rw [if_pos h1]; rfl
      · show (if pl.2.2 = 1 then X (pc + n, lo, .inr (.inl none) :: r) m1 else X (pc + n, lo, .inr (.inl (some (rc, pl.2.1))) :: r) m1) = _
        rw [if_pos h1]
      · rcases List.mem_cons.mp hq with hq | hq
        · cases hq
        · exact Or.inl hq
    · refine ⟨.inr (.inl (some (rc, pl.2.1))) :: r, ?_, fun X pc n lo m1 => ?_, fun q hq => ?_⟩
      · show (if pl.2.2 = 1 then some Value.null else some (.ref (ad rc pl.2.1))).toList ++ _ = _
        rw [if_neg h1]; rfl
      · show (if pl.2.2 = 1 then X (pc + n, lo, .inr (.inl none) :: r) m1 else X (pc + n, lo, .inr (.inl (some (rc, pl.2.1))) :: r) m1) = _
        rw [if_neg h1]
      · rcases List.mem_cons.mp hq with hq | hq
        · cases hq; exact Or.inr ⟨rfl, Or.inr ⟨by omega, h1⟩⟩
        · exact Or.inl hq
theorem sl_call_in {call : Nat → List sl_V → M → Option (sl_PL × M)} {f : Option sl_C} (h : sl_call X pc n lo st m call f = some x) : ∃ (y na rk rc th rv : Nat) (as r : List sl_V) (q : sl_PL × M), f = some (y, na, rk, rc, th, rv) ∧ st = as.reverse ++ r ∧ as.length = na ∧ sl_rc rv as = true ∧ as.all sl_c1 = true ∧ sl_cs r ≤ 8 ∧ call y as m = some q ∧ ((th ≠ 0 ∧ q.1.2.2 = 2 ∧ x = ((0, 0, 2), q.2)) ∨ ((th = 0 ∨ q.1.2.2 ≠ 2) ∧ sl_back X pc n lo rk rc q r = some x)) := by
  unfold sl_call at h
  split at h
  · rename_i y na rk rc th rv
    cases hc : (sl_rc rv (st.take na).reverse && ((st.take na).all sl_c1 && (Nat.ble (sl_cs (st.drop na)) 8 && Nat.beq (st.take na).length na))) with
    | false => rw [hc] at h; cases h
    | true =>
      rw [hc, cond_true] at h
      simp only [Bool.and_eq_true, Nat.beq_eq] at hc
      obtain ⟨c1, c2, c3, c4⟩ := hc
      have hst : st = (st.take na).reverse.reverse ++ st.drop na := by rw [List.reverse_reverse, List.take_append_drop]
      have c2' : (st.take na).reverse.all sl_c1 = true := by rw [List.all_reverse]; exact c2
      split at h
      · obtain ⟨q, hq, h⟩ := Option.bind_eq_some_iff.mp h
        exact ⟨y, na, rk, rc, 0, rv, _, _, q, rfl, hst, by rw [List.length_reverse]; exact c4, c1, c2', Nat.le_of_ble_eq_true c3, hq, Or.inr ⟨Or.inl rfl, h⟩⟩
      · rename_i hth
        obtain ⟨q, hq, h⟩ := Option.bind_eq_some_iff.mp h
        split at h
        · rename_i h2
          exact ⟨y, na, rk, rc, th, rv, _, _, q, rfl, hst, by rw [List.length_reverse]; exact c4, c1, c2', Nat.le_of_ble_eq_true c3, hq, Or.inl ⟨hth, h2, (Option.some.inj h).symm⟩⟩
        · rename_i h2
          exact ⟨y, na, rk, rc, th, rv, _, _, q, rfl, hst, by rw [List.length_reverse]; exact c4, c1, c2', Nat.le_of_ble_eq_true c3, hq, Or.inr ⟨Or.inr h2, h⟩⟩
  · cases h
theorem sl_hTs (hC : sl_Cx p s mid args c cc nL own D cA) {w9 : Cond} (h : w9 ∈ sl_GW) : ∀ w ∈ (w9 :: sl_GW : List Cond), w.before args s = true := by
  intro w hw
  rcases List.mem_cons.mp hw with hw | hw
  · rw [hw]; exact hC.2.2.2.2.1 _ h
  · exact hC.2.2.2.2.1 _ hw
theorem sl_s_call {call : Nat → List sl_V → M → Option (sl_PL × M)} {f : Option sl_C} (hC : sl_Cx p s mid args c cc nL own D cA) (hKK : sl_KK D cA base s) (hM : sl_Mem ad base NA ln rd VR cn wr al MI sn) (hd : sl_okd cc ck pc (46, a, j, n, ts) = true) 
    (hsb : ∀ q : Nat, q < base → s.heap[q]? = Hb[q]?)
    (hw : ∀ y na rk rc th rv, f = some (y, na, rk, rc, th, rv) → ∃ (Y : MethodName) (B : ByteArray) (mL : Nat) (ret : Option FieldType) (fr lc : Nat), sl_cok own j (ck j) Y B mL ret na rv fr lc R.frames R.locals ∧ (th ≠ 0 → ck j = 0) ∧ sl_Cp cn sn th (call y) ∧ sl_Ct ad base NA Hb D cA ln rd VR MI cn sn l Y B mL ret fr lc rk rc (call y))
    (hmo : ∀ S1 m1, X S1 m1 = some x → cn m1 ≤ cn x.2 ∧ sn m1 ≤ sn x.2) (hR : cn x.2 - cn m0 + (if x.1.2.2 = 2 then 1 else 0) ≤ R.cells ∧ sn x.2 - sn m0 + (if x.1.2.2 = 2 then 6 else 0) ≤ R.slots)
    (hT : x.1.2.2 = 2 → Q = vx_MQ below (fun _ _ _ _ => False) (sl_XC ad base NA Hb D cA ln rd VR MI cn m0 x.2) args s (cn x.2 - cn m0 + 1) (sn x.2 - sn m0 + 6) (fun q => base ≤ q)) (htab : x.1.2.2 = 2 → ∀ x9 ∈ c.exceptionTable.toList, covers x9 pc = false) (hlocks : meth.locks = false)
    (h : sl_call X pc n lo st m call f = some x) (ih : ∀ S1 m1, X S1 m1 = some x → sl_G p l e R s mid args below meth c ad base NA Hb D cA ln rd VR MI cn sn nL x Q m0 S1 m1) : sl_G p l e R s mid args below meth c ad base NA Hb D cA ln rd VR MI cn sn nL x Q m0 (pc, lo, st) m := by
  obtain ⟨y, na, rk, rc, th, rv, as, r, q, rfl, rfl, hna, hrc, hall, hsum, hq, hcase⟩ := sl_call_in h
  obtain ⟨Y, B, mL, ret, fr, lc, hok, hth0, hcp, hct⟩ := hw y na rk rc th rv rfl
  obtain ⟨hn3, -⟩ := sl_dcall hd rfl
  subst hn3
  intro H locs ls a1 a2 a3 a4 a5 a6 a7 a8 a9 a10
  have hva : ∀ q, .inr (.inl (some q)) ∈ as → VR m q := fun q hq => a9 q (List.mem_append_left _ (List.mem_reverse.mpr hq))
  obtain ⟨m1, m2, m3⟩ := hcp as m q hq
  obtain ⟨hret, hthr⟩ := hct as m q hq a4 hva hall (by have := hok.1; omega)
  have hPs : ∀ q : Nat, q < base → H[q]? = s.heap[q]? := fun q hq => by rw [a6.2.2.1 q hq, hsb q hq]
  have hts1 := sl_hTs hC hok.2.1
  obtain ⟨pl, mq⟩ := q
  dsimp only at m1 m2 m3 hret hthr hcase
  rcases hcase with ⟨hth, hfl, rfl⟩ | ⟨hfl, hb⟩
  · have hT := hT rfl
    have htab := htab rfl
    subst hT
    have hM2 := hthr hfl
    obtain ⟨k0, k1, k2, ⟨k3, k4, k5⟩, k6, k7⟩ := hok
    rcases k7 with ⟨e0, q1, q2, q3, q4, ci, hrv, hci, hcls⟩ | ⟨e0, -⟩ | ⟨e0, -⟩ | ⟨e0, -⟩
    · obtain ⟨hx, hb9, hml, hown, hts, hK⟩ := hC
      obtain ⟨i9, as9, rfl⟩ := sl_rc_in hrc hrv
      obtain ⟨hbl, hpc⟩ := sl_pre (as := .inr (.inl (some (ci, i9))) :: as9) hKK a6 hPs
      have hdg : decode cc pc = .ok (.invokevirtual j, 3) := by
        rcases (sl_dcall hd rfl).2 with ⟨-, h⟩ | ⟨h, -⟩ | ⟨h, -⟩
        · exact h
        · omega
        · omega
      obtain ⟨cell, c1, c2, c3, -⟩ := (a6.2.2.2 ci i9 (hva _ List.mem_cons_self)).1 hci
      have hfc := (hK.1 ci _ (sl_cls_at hci)).2.1
      have hst : ((Sum.inr (Sum.inl (some (ci, i9))) :: as9 : List sl_V).reverse ++ r).map (sl_v ad) = (as9.map (sl_v ad)).reverse ++ .ref (ad ci i9) :: r.map (sl_v ad) := by
        rw [List.reverse_cons, List.append_assoc, List.map_append, List.map_reverse]; rfl
      have hroom := lv_room (m := mid) (pc := pc) (ls := ls) (rest := ((Sum.inr (Sum.inl (some (ci, i9))) :: as9 : List sl_V).reverse ++ r).map (sl_v ad)) (st := r.map (sl_v ad)) (by rw [sl_csum]; exact hsum)
      dsimp only
      rw [hst] at hroom ⊢
      have hG : GoodIn (Cond.code Y B mL ret :: sl_GW) (Cond.code Y B mL ret :: sl_GW) := sl_gin k1
      have hR1 := hR.1
      have hR2 := hR.2
      rw [if_pos rfl] at hR1 hR2
      have hrun := vx_runV (p := p) (l := l) (e := e) (R := R) (H := H) (locs := locs) (cells := cn m - cn m0) (slots := sn m - sn m0) (below := below) (meth := meth) (As := as9.map (sl_v ad)) (rest := r.map (sl_v ad)) (C := Y.cls) (n := as9.length) (⟨hx, hb9, hml, hown, hts1⟩ : CallFix p mid c cc nL s args (Cond.code Y B mL ret :: sl_GW) own) hM2
        ⟨callB_of as9.length hts1 hG rfl rfl rfl (hts _ k2) (hts _ q1) ⟨k3, k4, by rw [k5, if_neg (by omega), ← hna]; simp⟩ k6, hts _ q2, hts _ (sl_gw q3 q4)⟩ ⟨hbl, ⟨cell, c1, by rw [c3]; rfl, by rw [c2, ← hcls]; exact hfc⟩, hpc⟩ (g := F0 mid pc ls ((as9.map (sl_v ad)).reverse ++ .ref (ad ci i9) :: r.map (sl_v ad))) rfl (by rw [List.length_map]) a7.1 rfl hroom hdg
        ⟨by show _ + (cn mq - cn m + 1) ≤ _; dsimp only at hR1; omega, by show _ + (sn mq - sn m + 6) ≤ _; dsimp only at hR2; omega⟩
      intro T hT XT
      rcases hrun T hT XT with ⟨v, st₀, t, T', L, h0, X', hL, e1, e2, hf, st⟩ | ⟨q, st₀, t, T', L, E, ce, h0, X', hL, e1, e2, ⟨rfl, hP2, hsz, hI2, hV2⟩, hce, hcv, hcl, st⟩
      · exact hf.elim
      · have hw2 := vx_out (p := p) (l := l) (e := e) (R := R) (s := s) (m := mid) (args := args) (below := below) (meth := meth) (c := c) (H := T'.heap) (locs := locs ++ L) (cells := cn m - cn m0 + (cn mq - cn m + 1)) (slots := sn m - sn m0 + (sn mq - sn m + 6)) (free := fun q => base ≤ q) (ls := ls) (rest := r.map (sl_v ad)) (Qc := fun _ _ _ _ => False) (XC := sl_XC ad base NA Hb D cA ln rd VR MI cn m0 mq) (pc := pc) (E := sl_IX) (ce := ce) (q := q) (mc := cn mq - cn m0 + 1) (ms := sn mq - sn m0 + 6) htab hlocks (by rw [e1]; exact hce) hcv hcl
          (fun t9 ht9 hal => ⟨rfl, by rw [ht9, e1]; exact hP2, by rw [ht9, e1]; rw [h0] at hsz; omega, hI2, fun q hq => hV2 q (a1 q hq)⟩) (fun z hz => by
            rcases List.mem_append.mp hz with hz | hz
            · exact a10 z hz
            · exact hL z hz) (by omega) (by omega)
        obtain ⟨t9, s1, s2⟩ := hw2 T' rfl X'
        exact ⟨t9, st.trans s1, s2⟩
    · exact absurd (hth0 hth) (by omega)
    · exact absurd (hth0 hth) (by omega)
    · exact absurd (hth0 hth) (by omega)
  · have hne : pl.2.2 ≠ 2 := by
      rcases hfl with h0 | h0
      · exact m3 h0
      · exact h0
    obtain ⟨S1, s1, s2, s3⟩ := sl_rv_str (ad := ad) (M := M) rk rc pl r
    rw [s2] at hb
    have hmo := hmo _ _ hb
    have hcells : cn m - cn m0 + (cn mq - cn m) ≤ R.cells := by have := hR.1; omega
    have hslots : sn m - sn m0 + (sn mq - sn m) ≤ R.slots := by have := hR.2; omega
    have hrun := sl_va (l := l) (e := e) (locs := locs) (ls := ls) (below := below) (meth := meth) (cells := cn m - cn m0) (slots := sn m - sn m0) hC hKK a6 hPs hd rfl hok hts1 hrc hna hva a7.1 hsum ⟨hcells, hslots⟩ (hret hne)
    refine sl_ret hrun (w := sl_rv ad rk rc pl) (fun st v t hq => (Outcome.returned.inj hq.1)) (fun t st0 L h0 hqa hL => ?_)
    obtain ⟨-, hP2, hsz, hI2, hV2, hor⟩ := hqa
    have g := ih _ _ hb t.heap (locs ++ L) ls (fun q hq => hV2 q (a1 q hq)) (by omega) (by omega) hI2 (by rw [h0] at hsz; omega) hP2 a7 (fun q hq => hV2 q (a8 q hq)) (fun q hq => by
      rcases s3 q hq with h9 | ⟨rfl, h9⟩
      · exact hV2 q (a9 q (List.mem_append_right _ h9))
      · rcases h9 with h9 | ⟨h9, h10⟩
        · exact hor.1 h9
        · exact hor.2 h9 h10) (fun z hz => by
      rcases List.mem_append.mp hz with hz | hz
      · exact a10 z hz
      · exact hL z hz)
    rw [s1, show cn m - cn m0 + (cn mq - cn m) = cn mq - cn m0 by omega, show sn m - sn m0 + (sn mq - sn m) = sn mq - sn m0 by omega]
    exact g
end SLK
end
section
theorem sl_bif {α : Type} {b : Bool} {A : Option α} {x : α} (h : (bif b then A else none) = some x) : A = some x := by
  cases b
  · cases h
  · exact h
section SLP
variable {M : Type} {X : sl_S → M → Option (sl_PL × M)} {pc n j : Nat} {a : Int32} {ts : List Nat} {lo : List (Option sl_V)} {st : List sl_V} {m : M} {x : sl_PL × M} {rd : M → Nat → Nat → Nat → sl_V} {wr : M → Nat → Nat → Nat → sl_V → Option M} {al : M → Nat → Int32 → Option ((Nat × Nat) × M)} {ln : Nat → Nat → Nat} {f2 : Int32 → Int32 → Int32} {f1 : Int32 → sl_V} {ff : Option (Nat × Nat)} {fb : Nat → Bool} {sL : Nat} {sf : Nat → Int32} {cn sn : M → Nat}
theorem sl_p_iload (h : sl_iload X pc n lo st m j = some x) : ∃ S1, X S1 m = some x := by
  unfold sl_iload at h
  repeat' split at h
  all_goals first | exact ⟨_, h⟩ | exact ⟨_, sl_bif h⟩ | (cases h; done) | (have h := sl_bif h; first | (cases h; done) | (split at h <;> first | exact ⟨_, h⟩ | (cases h; done)))
theorem sl_p_aload (h : sl_aload X pc n lo st m j = some x) : ∃ S1, X S1 m = some x := by
  unfold sl_aload at h
  repeat' split at h
  all_goals first | exact ⟨_, h⟩ | exact ⟨_, sl_bif h⟩ | (cases h; done) | (have h := sl_bif h; first | (cases h; done) | (split at h <;> first | exact ⟨_, h⟩ | (cases h; done)))
theorem sl_p_istore (h : sl_istore X pc n lo st m j = some x) : ∃ S1, X S1 m = some x := by
  unfold sl_istore at h
  repeat' split at h
  all_goals first | exact ⟨_, h⟩ | exact ⟨_, sl_bif h⟩ | (cases h; done) | (have h := sl_bif h; first | (cases h; done) | (split at h <;> first | exact ⟨_, h⟩ | (cases h; done)))
theorem sl_p_astore (h : sl_astore X pc n lo st m j = some x) : ∃ S1, X S1 m = some x := by
  unfold sl_astore at h
  repeat' split at h
  all_goals first | exact ⟨_, h⟩ | exact ⟨_, sl_bif h⟩ | (cases h; done) | (have h := sl_bif h; first | (cases h; done) | (split at h <;> first | exact ⟨_, h⟩ | (cases h; done)))
theorem sl_p_iinc (h : sl_iinc X pc n lo st m j a = some x) : ∃ S1, X S1 m = some x := by
  unfold sl_iinc at h
  repeat' split at h
  all_goals first | exact ⟨_, h⟩ | exact ⟨_, sl_bif h⟩ | (cases h; done) | (have h := sl_bif h; first | (cases h; done) | (split at h <;> first | exact ⟨_, h⟩ | (cases h; done)))
theorem sl_p_bin (h : sl_bin X pc n lo st m f2 = some x) : ∃ S1, X S1 m = some x := by
  unfold sl_bin at h
  repeat' split at h
  all_goals first | exact ⟨_, h⟩ | exact ⟨_, sl_bif h⟩ | (cases h; done) | (have h := sl_bif h; first | (cases h; done) | (split at h <;> first | exact ⟨_, h⟩ | (cases h; done)))
theorem sl_p_dv (h : sl_dv X pc n lo st m f2 = some x) : ∃ S1, X S1 m = some x := by
  unfold sl_dv at h
  repeat' split at h
  all_goals first | exact ⟨_, h⟩ | exact ⟨_, sl_bif h⟩ | (cases h; done) | (have h := sl_bif h; first | (cases h; done) | (split at h <;> first | exact ⟨_, h⟩ | (cases h; done)))
theorem sl_p_un (h : sl_un X pc n lo st m f1 = some x) : ∃ S1, X S1 m = some x := by
  unfold sl_un at h
  repeat' split at h
  all_goals first | exact ⟨_, h⟩ | exact ⟨_, sl_bif h⟩ | (cases h; done) | (have h := sl_bif h; first | (cases h; done) | (split at h <;> first | exact ⟨_, h⟩ | (cases h; done)))
theorem sl_p_dup (h : sl_dup X pc n lo st m = some x) : ∃ S1, X S1 m = some x := by
  unfold sl_dup at h
  repeat' split at h
  all_goals first | exact ⟨_, h⟩ | exact ⟨_, sl_bif h⟩ | (cases h; done) | (have h := sl_bif h; first | (cases h; done) | (split at h <;> first | exact ⟨_, h⟩ | (cases h; done)))
theorem sl_p_dup2 (h : sl_dup2 X pc n lo st m = some x) : ∃ S1, X S1 m = some x := by
  unfold sl_dup2 at h
  repeat' split at h
  all_goals first | exact ⟨_, h⟩ | exact ⟨_, sl_bif h⟩ | (cases h; done) | (have h := sl_bif h; first | (cases h; done) | (split at h <;> first | exact ⟨_, h⟩ | (cases h; done)))
theorem sl_p_pop (h : sl_pop X pc n lo st m = some x) : ∃ S1, X S1 m = some x := by
  unfold sl_pop at h
  repeat' split at h
  all_goals first | exact ⟨_, h⟩ | exact ⟨_, sl_bif h⟩ | (cases h; done) | (have h := sl_bif h; first | (cases h; done) | (split at h <;> first | exact ⟨_, h⟩ | (cases h; done)))
theorem sl_p_ceq (h : sl_ceq X pc n lo st m j = some x) : ∃ S1, X S1 m = some x := by
  unfold sl_ceq at h
  repeat' split at h
  all_goals first | exact ⟨_, h⟩ | exact ⟨_, sl_bif h⟩ | (cases h; done) | (have h := sl_bif h; first | (cases h; done) | (split at h <;> first | exact ⟨_, h⟩ | (cases h; done)))
theorem sl_p_cne (h : sl_cne X pc n lo st m j = some x) : ∃ S1, X S1 m = some x := by
  unfold sl_cne at h
  repeat' split at h
  all_goals first | exact ⟨_, h⟩ | exact ⟨_, sl_bif h⟩ | (cases h; done) | (have h := sl_bif h; first | (cases h; done) | (split at h <;> first | exact ⟨_, h⟩ | (cases h; done)))
theorem sl_p_clt (h : sl_clt X pc n lo st m j = some x) : ∃ S1, X S1 m = some x := by
  unfold sl_clt at h
  repeat' split at h
  all_goals first | exact ⟨_, h⟩ | exact ⟨_, sl_bif h⟩ | (cases h; done) | (have h := sl_bif h; first | (cases h; done) | (split at h <;> first | exact ⟨_, h⟩ | (cases h; done)))
theorem sl_p_cge (h : sl_cge X pc n lo st m j = some x) : ∃ S1, X S1 m = some x := by
  unfold sl_cge at h
  repeat' split at h
  all_goals first | exact ⟨_, h⟩ | exact ⟨_, sl_bif h⟩ | (cases h; done) | (have h := sl_bif h; first | (cases h; done) | (split at h <;> first | exact ⟨_, h⟩ | (cases h; done)))
theorem sl_p_cgt (h : sl_cgt X pc n lo st m j = some x) : ∃ S1, X S1 m = some x := by
  unfold sl_cgt at h
  repeat' split at h
  all_goals first | exact ⟨_, h⟩ | exact ⟨_, sl_bif h⟩ | (cases h; done) | (have h := sl_bif h; first | (cases h; done) | (split at h <;> first | exact ⟨_, h⟩ | (cases h; done)))
theorem sl_p_cle (h : sl_cle X pc n lo st m j = some x) : ∃ S1, X S1 m = some x := by
  unfold sl_cle at h
  repeat' split at h
  all_goals first | exact ⟨_, h⟩ | exact ⟨_, sl_bif h⟩ | (cases h; done) | (have h := sl_bif h; first | (cases h; done) | (split at h <;> first | exact ⟨_, h⟩ | (cases h; done)))
theorem sl_p_zeq (h : sl_zeq X pc n lo st m j = some x) : ∃ S1, X S1 m = some x := by
  unfold sl_zeq at h
  repeat' split at h
  all_goals first | exact ⟨_, h⟩ | exact ⟨_, sl_bif h⟩ | (cases h; done) | (have h := sl_bif h; first | (cases h; done) | (split at h <;> first | exact ⟨_, h⟩ | (cases h; done)))
theorem sl_p_zne (h : sl_zne X pc n lo st m j = some x) : ∃ S1, X S1 m = some x := by
  unfold sl_zne at h
  repeat' split at h
  all_goals first | exact ⟨_, h⟩ | exact ⟨_, sl_bif h⟩ | (cases h; done) | (have h := sl_bif h; first | (cases h; done) | (split at h <;> first | exact ⟨_, h⟩ | (cases h; done)))
theorem sl_p_zlt (h : sl_zlt X pc n lo st m j = some x) : ∃ S1, X S1 m = some x := by
  unfold sl_zlt at h
  repeat' split at h
  all_goals first | exact ⟨_, h⟩ | exact ⟨_, sl_bif h⟩ | (cases h; done) | (have h := sl_bif h; first | (cases h; done) | (split at h <;> first | exact ⟨_, h⟩ | (cases h; done)))
theorem sl_p_zge (h : sl_zge X pc n lo st m j = some x) : ∃ S1, X S1 m = some x := by
  unfold sl_zge at h
  repeat' split at h
  all_goals first | exact ⟨_, h⟩ | exact ⟨_, sl_bif h⟩ | (cases h; done) | (have h := sl_bif h; first | (cases h; done) | (split at h <;> first | exact ⟨_, h⟩ | (cases h; done)))
theorem sl_p_zgt (h : sl_zgt X pc n lo st m j = some x) : ∃ S1, X S1 m = some x := by
  unfold sl_zgt at h
  repeat' split at h
  all_goals first | exact ⟨_, h⟩ | exact ⟨_, sl_bif h⟩ | (cases h; done) | (have h := sl_bif h; first | (cases h; done) | (split at h <;> first | exact ⟨_, h⟩ | (cases h; done)))
theorem sl_p_zle (h : sl_zle X pc n lo st m j = some x) : ∃ S1, X S1 m = some x := by
  unfold sl_zle at h
  repeat' split at h
  all_goals first | exact ⟨_, h⟩ | exact ⟨_, sl_bif h⟩ | (cases h; done) | (have h := sl_bif h; first | (cases h; done) | (split at h <;> first | exact ⟨_, h⟩ | (cases h; done)))
theorem sl_p_ifn (h : sl_ifn X pc n lo st m j = some x) : ∃ S1, X S1 m = some x := by
  unfold sl_ifn at h
  repeat' split at h
  all_goals first | exact ⟨_, h⟩ | exact ⟨_, sl_bif h⟩ | (cases h; done) | (have h := sl_bif h; first | (cases h; done) | (split at h <;> first | exact ⟨_, h⟩ | (cases h; done)))
theorem sl_p_ifnn (h : sl_ifnn X pc n lo st m j = some x) : ∃ S1, X S1 m = some x := by
  unfold sl_ifnn at h
  repeat' split at h
  all_goals first | exact ⟨_, h⟩ | exact ⟨_, sl_bif h⟩ | (cases h; done) | (have h := sl_bif h; first | (cases h; done) | (split at h <;> first | exact ⟨_, h⟩ | (cases h; done)))
theorem sl_p_lcmp (h : sl_lcmp X pc n lo st m = some x) : ∃ S1, X S1 m = some x := by
  unfold sl_lcmp at h
  repeat' split at h
  all_goals first | exact ⟨_, h⟩ | exact ⟨_, sl_bif h⟩ | (cases h; done) | (have h := sl_bif h; first | (cases h; done) | (split at h <;> first | exact ⟨_, h⟩ | (cases h; done)))
theorem sl_p_oi (h : sl_oi X pc n lo st m = some x) : ∃ S1, X S1 m = some x := by
  unfold sl_oi at h
  repeat' split at h
  all_goals first | exact ⟨_, h⟩ | exact ⟨_, sl_bif h⟩ | (cases h; done) | (have h := sl_bif h; first | (cases h; done) | (split at h <;> first | exact ⟨_, h⟩ | (cases h; done)))
theorem sl_p_getf (h : sl_getf X pc n lo st m rd ff = some x) : ∃ S1, X S1 m = some x := by
  unfold sl_getf at h
  repeat' split at h
  all_goals first | exact ⟨_, h⟩ | exact ⟨_, sl_bif h⟩ | (cases h; done) | (have h := sl_bif h; first | (cases h; done) | (split at h <;> first | exact ⟨_, h⟩ | (cases h; done)))
theorem sl_p_xld (h : sl_xld X pc n lo st m rd ln fb = some x) : ∃ S1, X S1 m = some x := by
  unfold sl_xld at h
  repeat' split at h
  all_goals first | exact ⟨_, h⟩ | exact ⟨_, sl_bif h⟩ | (cases h; done) | (have h := sl_bif h; first | (cases h; done) | (split at h <;> first | exact ⟨_, h⟩ | (cases h; done)))
theorem sl_p_alen (h : sl_alen X pc n lo st m ln = some x) : ∃ S1, X S1 m = some x := by
  unfold sl_alen at h
  repeat' split at h
  all_goals first | exact ⟨_, h⟩ | exact ⟨_, sl_bif h⟩ | (cases h; done) | (have h := sl_bif h; first | (cases h; done) | (split at h <;> first | exact ⟨_, h⟩ | (cases h; done)))
theorem sl_p_sld (h : sl_sld X pc n lo st m sL sf = some x) : ∃ S1, X S1 m = some x := by
  unfold sl_sld at h
  repeat' split at h
  all_goals first | exact ⟨_, h⟩ | exact ⟨_, sl_bif h⟩ | (cases h; done) | (have h := sl_bif h; first | (cases h; done) | (split at h <;> first | exact ⟨_, h⟩ | (cases h; done)))
theorem sl_p_sln (h : sl_sln X pc n lo st m sL = some x) : ∃ S1, X S1 m = some x := by
  unfold sl_sln at h
  repeat' split at h
  all_goals first | exact ⟨_, h⟩ | exact ⟨_, sl_bif h⟩ | (cases h; done) | (have h := sl_bif h; first | (cases h; done) | (split at h <;> first | exact ⟨_, h⟩ | (cases h; done)))
theorem sl_p_tsw (h : sl_tsw X lo st m j ts = some x) : ∃ S1, X S1 m = some x := by
  unfold sl_tsw at h
  split at h
  · rename_i v r
    rcases sl_sw_in v r ts 0 h with ⟨t, k, h1, h2, h3⟩ | ⟨h1, h2⟩
    · exact ⟨_, h3⟩
    · exact ⟨_, h2⟩
  · cases h
theorem sl_p_wrt {c i k : Nat} {v : sl_V} {r : List sl_V} (h : sl_wrt X pc n lo m wr c i k v r = some x) : ∃ S1 m1, X S1 m1 = some x ∧ wr m c i k v = some m1 := by
  unfold sl_wrt at h
  split at h
  · rename_i m1 hw
    exact ⟨_, m1, h, hw⟩
  · cases h
theorem sl_p_pok {t : Nat} {v : sl_V} {z : Option (sl_PL × M)} (h : sl_pok t v z = some x) : z = some x := by
  unfold sl_pok at h
  repeat' split at h
  all_goals first | exact h | (cases h; done)
theorem sl_p_putf {f : Option (Nat × Nat × Nat)} (h : sl_putf X pc n lo st m wr f = some x) : ∃ S1 m1 c i k v, X S1 m1 = some x ∧ wr m c i k v = some m1 := by
  unfold sl_putf at h
  split at h
  · split at h
    · obtain ⟨S1, m1, h1, h2⟩ := sl_p_wrt (sl_p_pok (sl_bif h))
      exact ⟨S1, m1, _, _, _, _, h1, h2⟩
    · cases h
  · cases h
theorem sl_p_xst {ok : Nat → sl_V → Bool} (h : sl_xst X pc n lo st m wr ln ok = some x) : ∃ S1 m1 c i k v, X S1 m1 = some x ∧ wr m c i k v = some m1 := by
  obtain ⟨v, i, c9, i9, r, m1, rfl, hok, h41, h0, hlt, hw, hz⟩ := sl_xst_in h
  exact ⟨_, m1, _, _, _, _, hz, hw⟩
theorem sl_p_alo {f : Option ((Nat × Nat) × M)} {r : List sl_V} (h : sl_alo X pc n lo f r = some x) : ∃ S1 m1 q, X S1 m1 = some x ∧ f = some (q, m1) := by
  unfold sl_alo at h
  split at h
  · exact ⟨_, _, _, h, rfl⟩
  · cases h
theorem sl_p_newc {f : Option Nat} (h : sl_newc X pc n lo st m al f = some x) : ∃ S1 m1 q t v, X S1 m1 = some x ∧ al m t v = some (q, m1) := by
  unfold sl_newc at h
  split at h
  · obtain ⟨S1, m1, q, h1, h2⟩ := sl_p_alo h
    exact ⟨S1, m1, q, _, _, h1, h2⟩
  · cases h
theorem sl_p_newa {t : Nat} (h : sl_newa X pc n lo st m al t = some x) : ∃ S1 m1 q t v, X S1 m1 = some x ∧ al m t v = some (q, m1) := by
  unfold sl_newa at h
  split at h
  · obtain ⟨S1, m1, q, h1, h2⟩ := sl_p_alo h
    exact ⟨S1, m1, q, _, _, h1, h2⟩
  · cases h
theorem sl_p_back {rk rc : Nat} {q : sl_PL × M} {r : List sl_V} (h : sl_back X pc n lo rk rc q r = some x) : ∃ S1, X S1 q.2 = some x := by
  unfold sl_back at h
  repeat' split at h
  all_goals exact ⟨_, h⟩
/-- a memory's counts never fall -/
def sl_Mo (wr : M → Nat → Nat → Nat → sl_V → Option M) (al : M → Nat → Int32 → Option ((Nat × Nat) × M)) (cn sn : M → Nat) : Prop :=
  (∀ m c i k v m1, wr m c i k v = some m1 → cn m1 = cn m ∧ sn m1 = sn m) ∧ ∀ m t v q m1, al m t v = some (q, m1) → cn m ≤ cn m1 ∧ sn m ≤ sn m1
def sl_st (cn sn : M → Nat) (th9 : Nat) (m : M) (x : sl_PL × M) (X : sl_S → M → Option (sl_PL × M)) : Prop := (∃ S1 m1, X S1 m1 = some x ∧ cn m ≤ cn m1 ∧ sn m ≤ sn m1) ∨ (cn m ≤ cn x.2 ∧ sn m ≤ sn x.2 ∧ (th9 = 0 → x.1.2.2 ≠ 2))
theorem sl_e1 {th9 : Nat} (h : ∃ S1, X S1 m = some x) : sl_st cn sn th9 m x X := by
  obtain ⟨S1, h⟩ := h
  exact Or.inl ⟨S1, m, h, Nat.le_refl _, Nat.le_refl _⟩
theorem sl_e2 {th9 : Nat} (hMo : sl_Mo wr al cn sn) (h : ∃ S1 m1 c i k v, X S1 m1 = some x ∧ wr m c i k v = some m1) : sl_st cn sn th9 m x X := by
  obtain ⟨S1, m1, c, i, k, v, h, hw⟩ := h
  obtain ⟨e1, e2⟩ := hMo.1 m c i k v m1 hw
  exact Or.inl ⟨S1, m1, h, by omega, by omega⟩
theorem sl_e3 {th9 : Nat} (hMo : sl_Mo wr al cn sn) (h : ∃ S1 m1 q t v, X S1 m1 = some x ∧ al m t v = some (q, m1)) : sl_st cn sn th9 m x X := by
  obtain ⟨S1, m1, q, t, v, h, hw⟩ := h
  obtain ⟨e1, e2⟩ := hMo.2 m t v q m1 hw
  exact Or.inl ⟨S1, m1, h, by omega, by omega⟩
theorem sl_e4 {th9 : Nat} (h : ∃ y, some ((y, m) : sl_PL × M) = some x ∧ y.2.2 ≠ 2) : sl_st cn sn th9 m x X := by
  obtain ⟨y, h, hy⟩ := h
  cases h
  exact Or.inr ⟨Nat.le_refl _, Nat.le_refl _, fun _ => hy⟩
theorem sl_p_iret (h : sl_iret st m j = some x) : ∃ y, some ((y, m) : sl_PL × M) = some x ∧ y.2.2 ≠ 2 := by
  unfold sl_iret at h
  repeat' split at h
  all_goals first | exact ⟨_, h, Nat.zero_ne_add_one 1⟩ | (cases h; done)
theorem sl_p_aret (h : sl_aret st m j = some x) : ∃ y, some ((y, m) : sl_PL × M) = some x ∧ y.2.2 ≠ 2 := by
  unfold sl_aret at h
  split at h
  · exact ⟨_, sl_bif h, Nat.zero_ne_add_one 1⟩
  · cases h
theorem sl_p_nret (h : sl_nret st m j = some x) : ∃ y, some ((y, m) : sl_PL × M) = some x ∧ y.2.2 ≠ 2 := by
  unfold sl_nret at h
  split at h
  · exact ⟨_, h, by decide⟩
  · exact ⟨_, sl_bif h, Nat.zero_ne_add_one 1⟩
  · cases h
theorem sl_p_vret (h : sl_vret st m = some x) : ∃ y, some ((y, m) : sl_PL × M) = some x ∧ y.2.2 ≠ 2 := by
  unfold sl_vret at h
  split at h
  · exact ⟨_, h, by decide⟩
  · cases h
theorem sl_e5 {th9 : Nat} {call : Nat → List sl_V → M → Option (sl_PL × M)} {f : Option sl_C} (hc : ∀ y na rk rc th rv, f = some (y, na, rk, rc, th, rv) → sl_Cp cn sn th (call y) ∧ (th ≠ 0 → th9 ≠ 0)) (h : sl_call X pc n lo st m call f = some x) : sl_st cn sn th9 m x X := by
  obtain ⟨y, na, rk, rc, th, rv, as, r, q, rfl, rfl, hna, hrc, hall, hsum, hq, hcase⟩ := sl_call_in h
  obtain ⟨hcp, ht⟩ := hc y na rk rc th rv rfl
  obtain ⟨m1, m2, m3⟩ := hcp as m q hq
  rcases hcase with ⟨hth, hfl, rfl⟩ | ⟨-, hb⟩
  · exact Or.inr ⟨m1, m2, fun h0 => absurd h0 (ht hth)⟩
  · obtain ⟨S1, hX⟩ := sl_p_back hb
    exact Or.inl ⟨S1, q.2, hX, m1, m2⟩
end SLP
section SLQ
variable {M : Type} {tb : Nat → Option sl_E} {fl : Nat → Option (Nat × Nat)} {pf : Nat → Option (Nat × Nat × Nat)} {cl : Nat → Option sl_C} {nw : Nat → Option Nat} {rd : M → Nat → Nat → Nat → sl_V} {wr : M → Nat → Nat → Nat → sl_V → Option M} {al : M → Nat → Int32 → Option ((Nat × Nat) × M)} {ln : Nat → Nat → Nat} {sL : Nat} {sf : Nat → Int32} {call : Nat → List sl_V → M → Option (sl_PL × M)} {X : sl_S → M → Option (sl_PL × M)} {cn sn : M → Nat} {th9 : Nat} {stop : Nat → Bool} {mask : Nat → List Bool}
theorem sl_op_st {k : Nat} {a : Int32} {j n : Nat} {ts : List Nat} {pc : Nat} {lo : List (Option sl_V)} {st : List sl_V} {m : M} {x : sl_PL × M} (hMo : sl_Mo wr al cn sn) (hcl : ∀ j y na rk rc th rv, cl j = some (y, na, rk, rc, th, rv) → sl_Cp cn sn th (call y) ∧ (th ≠ 0 → th9 ≠ 0)) (h56 : k = 56 → th9 ≠ 0)
    (h : sl_op fl pf cl nw rd wr al ln sL sf call X k a j n ts pc lo st m = some x) : sl_st cn sn th9 m x X := by
  unfold sl_op at h
  split at h
  · exact sl_e1 (sl_p_iload h)
  · exact sl_e1 (sl_p_aload h)
  · exact sl_e1 ⟨_, h⟩
  · exact sl_e1 (sl_p_istore h)
  · exact sl_e1 (sl_p_astore h)
  · exact sl_e1 (sl_p_iinc h)
  · exact sl_e1 (sl_p_bin h)
  · exact sl_e1 (sl_p_bin h)
  · exact sl_e1 (sl_p_bin h)
  · exact sl_e1 (sl_p_dv h)
  · exact sl_e1 (sl_p_dv h)
  · exact sl_e1 (sl_p_bin h)
  · exact sl_e1 (sl_p_bin h)
  · exact sl_e1 (sl_p_bin h)
  · exact sl_e1 (sl_p_bin h)
  · exact sl_e1 (sl_p_bin h)
  · exact sl_e1 (sl_p_bin h)
  · exact sl_e1 (sl_p_un h)
  · exact sl_e1 (sl_p_un h)
  · exact sl_e1 (sl_p_dup h)
  · exact sl_e1 (sl_p_dup2 h)
  · exact sl_e1 (sl_p_pop h)
  · exact sl_e1 (sl_p_ceq h)
  · exact sl_e1 (sl_p_cne h)
  · exact sl_e1 (sl_p_clt h)
  · exact sl_e1 (sl_p_cge h)
  · exact sl_e1 (sl_p_cgt h)
  · exact sl_e1 (sl_p_cle h)
  · exact sl_e1 (sl_p_zeq h)
  · exact sl_e1 (sl_p_zne h)
  · exact sl_e1 (sl_p_zlt h)
  · exact sl_e1 (sl_p_zge h)
  · exact sl_e1 (sl_p_zgt h)
  · exact sl_e1 (sl_p_zle h)
  · exact sl_e1 ⟨_, h⟩
  · exact sl_e1 (sl_p_getf h)
  · exact sl_e2 hMo (sl_p_putf h)
  · exact sl_e1 (sl_p_xld h)
  · exact sl_e1 (sl_p_xld h)
  · exact sl_e1 (sl_p_xld h)
  · exact sl_e1 (sl_p_xld h)
  · exact sl_e2 hMo (sl_p_xst h)
  · exact sl_e2 hMo (sl_p_xst h)
  · exact sl_e2 hMo (sl_p_xst h)
  · exact sl_e2 hMo (sl_p_xst h)
  · exact sl_e1 (sl_p_alen h)
  · exact sl_e5 (fun y na rk rc th rv e => hcl j y na rk rc th rv e) h
  · exact sl_e4 (sl_p_iret h)
  · exact sl_e4 (sl_p_aret h)
  · exact sl_e4 (sl_p_nret h)
  · exact sl_e4 (sl_p_vret h)
  · exact sl_e1 ⟨_, h⟩
  · exact sl_e1 (sl_p_ifn h)
  · exact sl_e1 (sl_p_ifnn h)
  · exact sl_e3 hMo (sl_p_newc h)
  · exact sl_e3 hMo (sl_p_newa h)
  · unfold sl_thr at h
    split at h
    · cases h; exact Or.inr ⟨Nat.le_refl _, Nat.le_refl _, fun h0 => absurd h0 (h56 rfl)⟩
    · cases h
  · exact sl_e1 (sl_p_tsw h)
  · exact sl_e1 (sl_p_lcmp h)
  · exact sl_e1 (sl_p_oi h)
  · exact sl_e1 ⟨_, h⟩
  · exact sl_e3 hMo (sl_p_newa h)
  · exact sl_e1 (sl_p_sld h)
  · exact sl_e1 (sl_p_sln h)
  · cases h
theorem sl_step_st {S : sl_S} {m : M} {x : sl_PL × M} (hMo : sl_Mo wr al cn sn) (hcl : ∀ j y na rk rc th rv, cl j = some (y, na, rk, rc, th, rv) → sl_Cp cn sn th (call y) ∧ (th ≠ 0 → th9 ≠ 0)) (h56 : ∀ p k a j n ts, tb p = some (k, a, j, n, ts) → k = 56 → th9 ≠ 0)
    (h : sl_step tb fl pf cl nw rd wr al ln sL sf call X S m = some x) : sl_st cn sn th9 m x X := by
  unfold sl_step at h
  split at h
  · rename_i k a j n ts ht
    exact sl_op_st hMo hcl (h56 _ k a j n ts ht) h
  · cases h
theorem sl_run_st {C : sl_S → M → Option (sl_PL × M)} (hMo : sl_Mo wr al cn sn) (hcl : ∀ j y na rk rc th rv, cl j = some (y, na, rk, rc, th, rv) → sl_Cp cn sn th (call y) ∧ (th ≠ 0 → th9 ≠ 0)) (h56 : ∀ p k a j n ts, tb p = some (k, a, j, n, ts) → k = 56 → th9 ≠ 0) {x : sl_PL × M}
    (hCC : ∀ S m, C S m = some x → cn m ≤ cn x.2 ∧ sn m ≤ sn x.2 ∧ (th9 = 0 → x.1.2.2 ≠ 2)) : ∀ (N : Nat) (S : sl_S) (m : M), sl_run tb fl pf cl nw rd wr al ln sL sf call stop C N S m = some x → cn m ≤ cn x.2 ∧ sn m ≤ sn x.2 ∧ (th9 = 0 → x.1.2.2 ≠ 2)
  | 0, S, m, h => by cases h
  | N + 1, S, m, h => by
    unfold sl_run at h
    rcases sl_step_st hMo hcl h56 h with ⟨S1, m1, h1, h2, h3⟩ | h1
    · dsimp only at h1
      cases hs : stop S1.1 with
      | true =>
        rw [hs] at h1
        obtain ⟨q1, q2, q3⟩ := hCC S1 m1 h1
        exact ⟨by omega, by omega, q3⟩
      | false =>
        rw [hs] at h1
        obtain ⟨q1, q2, q3⟩ := sl_run_st hMo hcl h56 hCC N S1 m1 h1
        exact ⟨by omega, by omega, q3⟩
    · exact h1
theorem sl_B_st (hMo : sl_Mo wr al cn sn) (hcl : ∀ j y na rk rc th rv, cl j = some (y, na, rk, rc, th, rv) → sl_Cp cn sn th (call y) ∧ (th ≠ 0 → th9 ≠ 0)) (h56 : ∀ p k a j n ts, tb p = some (k, a, j, n, ts) → k = 56 → th9 ≠ 0) {x : sl_PL × M} : ∀ (N : Nat) (S : sl_S) (m : M), sl_B tb fl pf cl nw rd wr al ln sL sf call stop mask N S m = some x → cn m ≤ cn x.2 ∧ sn m ≤ sn x.2 ∧ (th9 = 0 → x.1.2.2 ≠ 2)
  | 0, S, m, h => by cases h
  | N + 1, S, m, h => by
    unfold sl_B at h
    exact sl_run_st hMo hcl h56 (fun S1 m1 h1 => sl_B_st hMo hcl h56 N _ _ h1) 400 S m h
theorem sl_F_cp {nL : Nat} (hMo : sl_Mo wr al cn sn) (hcl : ∀ j y na rk rc th rv, cl j = some (y, na, rk, rc, th, rv) → sl_Cp cn sn th (call y) ∧ (th ≠ 0 → th9 ≠ 0)) (h56 : ∀ p k a j n ts, tb p = some (k, a, j, n, ts) → k = 56 → th9 ≠ 0) : sl_Cp cn sn th9 (fun as m => sl_B tb fl pf cl nw rd wr al ln sL sf call stop mask 100000 (0, sl_lo nL as, []) m) :=
  fun as m x h => sl_B_st hMo hcl h56 100000 _ m h
end SLQ
end
section
section SLR
variable {M : Type}
variable {p : Program} {l : Launch} {e : Env} {R : Room} {s : State} {mid : MethodId} {args : Array Value} {below : List Frame} {meth : Method} {c : Code} {ad : Nat → Nat → Nat} {base NA : Nat} {Hb : Heap} {D : va_G} {cA : Nat → ClassId} {ln : Nat → Nat → Nat} {rd : M → Nat → Nat → Nat → sl_V} {VR : M → Nat × Nat → Prop} {MI : M → Prop} {cn sn : M → Nat} {nL : Nat} {x : sl_PL × M} {Q : State → Prop} {m0 : M} {m : M}
variable {wr : M → Nat → Nat → Nat → sl_V → Option M} {al : M → Nat → Int32 → Option ((Nat × Nat) × M)} {cc : ByteArray} {ck : Nat → Nat} {own : String} {X : sl_S → M → Option (sl_PL × M)} {pc n j : Nat} {a : Int32} {ts : List Nat} {lo : List (Option sl_V)} {st : List sl_V}
variable {tb : Nat → Option sl_E} {fl : Nat → Option (Nat × Nat)} {pf : Nat → Option (Nat × Nat × Nat)} {cl : Nat → Option sl_C} {nw : Nat → Option Nat} {sL : Nat} {sf : Nat → Int32} {call : Nat → List sl_V → M → Option (sl_PL × M)} {stop : Nat → Bool} {mask : Nat → List Bool} {k : Nat}

/-! all instructions -/
def sl_sd (own : String) (nL rf rl : Nat) (k : Nat) (a : Int32) (j : Nat) : Prop :=
  (k = 3 ∨ k = 4 → j < nL) ∧ (k = 59 → (Cond.methodLink own j Lib.objectInit ∈ sl_GW ∧ Cond.instanceMethod Lib.objectInit ∈ sl_GW ∧ Cond.code Lib.objectInit ⟨#[0xb1]⟩ 1 none ∈ sl_GW) ∧ (1 ≤ rf ∧ 20 ≤ rl)) ∧ (k = 60 → Cond.constant own j a ∈ sl_GW) ∧ (k = 55 → 100 ≤ j ∧ ∀ ty : ArrayType, sl_nk ty = j → Cond.arrayClass (newarray.typeOf ty) ∈ sl_GW) ∧ (k = 61 → Cond.classLink own j "SerialLink$Frame" ∈ sl_GW)
def sl_hfl (own : String) (fl : Nat → Option (Nat × Nat)) : Prop := ∀ j ci k, fl j = some (ci, k) → ci < 12 ∧ k < sl_NX ci ∧ Cond.fieldLink own j (sl_RX ci) (sl_TX ci k).2.1 (sl_TX ci k).2.2.1 ∈ sl_GW
def sl_hpf (own mn : String) (pf : Nat → Option (Nat × Nat × Nat)) : Prop := ∀ j ci k t, pf j = some (ci, k, t) → ci < 12 ∧ k < sl_NX ci ∧ Cond.fieldLink own j (sl_RX ci) (sl_TX ci k).2.1 (sl_TX ci k).2.2.1 ∈ sl_GW ∧ ((sl_TX ci k).2.2.2 = false ∨ (mn = "<init>" ∧ sl_RX ci = own)) ∧ sl_tyk (sl_TY ci k) = t
def sl_hnw (own : String) (nw : Nat → Option Nat) : Prop := ∀ j ci, nw j = some ci → ci < 12 ∧ Cond.classLink own j (sl_RX ci) ∈ sl_GW ∧ Cond.instantiable (sl_RX ci) (sl_NX ci) ∈ sl_GW ∧ Cond.initialized (sl_RX ci) ∈ sl_GW
theorem sl_op_ok (hC : sl_Cx p s mid args c cc nL own D cA) (hKK : sl_KK D cA base s) (hM : sl_Mem ad base NA ln rd VR cn wr al MI sn) (hsb : ∀ q : Nat, q < base → s.heap[q]? = Hb[q]?) (hd : sl_okd cc ck pc (k, a, j, n, ts) = true) (hS : sl_sd own nL R.frames R.locals k a j) (hfl : sl_hfl own fl) (hpf : sl_hpf own meth.name pf) (hnw : sl_hnw own nw)
    (hcl : ∀ j y na rk rc th rv, cl j = some (y, na, rk, rc, th, rv) → ∃ (Y : MethodName) (B : ByteArray) (mL : Nat) (ret : Option FieldType) (fr lc : Nat), sl_cok own j (ck j) Y B mL ret na rv fr lc R.frames R.locals ∧ (th ≠ 0 → ck j = 0) ∧ sl_Cp cn sn th (call y) ∧ sl_Ct ad base NA Hb D cA ln rd VR MI cn sn l Y B mL ret fr lc rk rc (call y))
    (hmo : ∀ S1 m1, X S1 m1 = some x → cn m1 ≤ cn x.2 ∧ sn m1 ≤ sn x.2) (hR : cn x.2 - cn m0 + (if x.1.2.2 = 2 then 1 else 0) ≤ R.cells ∧ sn x.2 - sn m0 + (if x.1.2.2 = 2 then 6 else 0) ≤ R.slots)
    (hT : x.1.2.2 = 2 → Q = vx_MQ below (fun _ _ _ _ => False) (sl_XC ad base NA Hb D cA ln rd VR MI cn m0 x.2) args s (cn x.2 - cn m0 + 1) (sn x.2 - sn m0 + 6) (fun q => base ≤ q)) (htab : x.1.2.2 = 2 → ∀ x9 ∈ c.exceptionTable.toList, covers x9 pc = false) (hlocks : meth.locks = false)
    (hE : [47, 48, 49, 50, 56, 62, 63].contains k = true → sl_op fl pf cl nw rd wr al ln sL sf call X k a j n ts pc lo st m = some x → sl_G p l e R s mid args below meth c ad base NA Hb D cA ln rd VR MI cn sn nL x Q m0 (pc, lo, st) m)
    (h : sl_op fl pf cl nw rd wr al ln sL sf call X k a j n ts pc lo st m = some x) (ih : ∀ S1 m1, X S1 m1 = some x → sl_G p l e R s mid args below meth c ad base NA Hb D cA ln rd VR MI cn sn nL x Q m0 S1 m1) : sl_G p l e R s mid args below meth c ad base NA Hb D cA ln rd VR MI cn sn nL x Q m0 (pc, lo, st) m := by
  have h2 := h
  unfold sl_op at h
  split at h
  · exact sl_s_iload hC hd h ih
  · exact sl_s_aload hC hd h ih
  · exact sl_s_push hC hd h ih
  · exact sl_s_istore hC hd (hS.1 (Or.inl rfl)) h ih
  · exact sl_s_astore hC hd (hS.1 (Or.inr rfl)) h ih
  · exact sl_s_iinc hC hd h ih
  · exact sl_s_iadd hC hd h ih
  · exact sl_s_isub hC hd h ih
  · exact sl_s_imul hC hd h ih
  · exact sl_s_idiv hC hd h ih
  · exact sl_s_irem hC hd h ih
  · exact sl_s_iand hC hd h ih
  · exact sl_s_ior hC hd h ih
  · exact sl_s_ixor hC hd h ih
  · exact sl_s_ishl hC hd h ih
  · exact sl_s_ishr hC hd h ih
  · exact sl_s_iushr hC hd h ih
  · exact sl_s_i2b hC hd h ih
  · exact sl_s_i2l hC hd h ih
  · exact sl_s_dup hC hd h ih
  · exact sl_s_dup2 hC hd h ih
  · exact sl_s_pop hC hd h ih
  · exact sl_s_ceq hC hd h ih
  · exact sl_s_cne hC hd h ih
  · exact sl_s_clt hC hd h ih
  · exact sl_s_cge hC hd h ih
  · exact sl_s_cgt hC hd h ih
  · exact sl_s_cle hC hd h ih
  · exact sl_s_zeq hC hd h ih
  · exact sl_s_zne hC hd h ih
  · exact sl_s_zlt hC hd h ih
  · exact sl_s_zge hC hd h ih
  · exact sl_s_zgt hC hd h ih
  · exact sl_s_zle hC hd h ih
  · exact sl_s_goto hC hd h ih
  · exact sl_s_getf hC hM hd (fun ci q e => hfl j ci q e) h ih
  · exact sl_s_putf hC hM hd (fun ci q t e => hpf j ci q t e) h ih
  · exact sl_s_iald hC hM hd h ih
  · exact sl_s_bald hC hM hd h ih
  · exact sl_s_aald hC hM hd h ih
  · exact sl_s_lald hC hM hd h ih
  · exact sl_s_iast hC hM hd h ih
  · exact sl_s_bast hC hM hd h ih
  · exact sl_s_aast hC hM hd h ih
  · exact sl_s_last hC hM hd h ih
  · exact sl_s_alen hC hM hd h ih
  · exact sl_s_call hC hKK hM hd hsb (fun y na rk rc th rv e => hcl j y na rk rc th rv e) hmo hR hT htab hlocks h ih
  · exact hE (by decide) h
  · exact hE (by decide) h
  · exact hE (by decide) h
  · exact hE (by decide) h
  · exact sl_s_null hC hd h ih
  · exact sl_s_ifn hC hd h ih
  · exact sl_s_ifnn hC hd h ih
  · exact sl_s_newc hC hM hd (fun ci e => hnw j ci e) hmo ⟨by have := hR.1; omega, by have := hR.2; omega⟩ h ih
  · exact sl_s_newa (t := j) hC hM hd (hS.2.2.2.1 rfl).2 (hS.2.2.2.1 rfl).1 hmo ⟨by have := hR.1; omega, by have := hR.2; omega⟩ h ih
  · exact hE (by decide) h
  · exact sl_s_tsw hC hd h ih
  · exact sl_s_lcmp hC hd h ih
  · exact sl_s_oi hC hd (hS.2.1 rfl).1 (hS.2.1 rfl).2 h ih
  · exact sl_s_ldc hC hd (hS.2.2.1 rfl) h ih
  · exact sl_s_anew hC hM hd (hS.2.2.2.2 rfl) (va_AO.use hKK.2.1) hmo ⟨by have := hR.1; omega, by have := hR.2; omega⟩ h ih
  · exact hE (by decide) h
  · exact hE (by decide) h
  · cases h
theorem sl_run_ok {th9 : Nat} (hC : sl_Cx p s mid args c cc nL own D cA) (hKK : sl_KK D cA base s) (hM : sl_Mem ad base NA ln rd VR cn wr al MI sn) (hMo : sl_Mo wr al cn sn) (hsb : ∀ q : Nat, q < base → s.heap[q]? = Hb[q]?) (hd : ∀ pc E, tb pc = some E → sl_okd cc ck pc E = true) (hS : ∀ pc k a j n ts, tb pc = some (k, a, j, n, ts) → sl_sd own nL R.frames R.locals k a j) (hfl : sl_hfl own fl) (hpf : sl_hpf own meth.name pf) (hnw : sl_hnw own nw)
    (hcl : ∀ j y na rk rc th rv, cl j = some (y, na, rk, rc, th, rv) → ∃ (Y : MethodName) (B : ByteArray) (mL : Nat) (ret : Option FieldType) (fr lc : Nat), sl_cok own j (ck j) Y B mL ret na rv fr lc R.frames R.locals ∧ (th ≠ 0 → ck j = 0) ∧ sl_Cp cn sn th (call y) ∧ sl_Ct ad base NA Hb D cA ln rd VR MI cn sn l Y B mL ret fr lc rk rc (call y))
    (h9 : ∀ j y na rk rc th rv, cl j = some (y, na, rk, rc, th, rv) → th ≠ 0 → th9 ≠ 0) (h56 : ∀ p k a j n ts, tb p = some (k, a, j, n, ts) → k = 56 → th9 ≠ 0)
    (hR : cn x.2 - cn m0 + (if x.1.2.2 = 2 then 1 else 0) ≤ R.cells ∧ sn x.2 - sn m0 + (if x.1.2.2 = 2 then 6 else 0) ≤ R.slots)
    (hT : x.1.2.2 = 2 → Q = vx_MQ below (fun _ _ _ _ => False) (sl_XC ad base NA Hb D cA ln rd VR MI cn m0 x.2) args s (cn x.2 - cn m0 + 1) (sn x.2 - sn m0 + 6) (fun q => base ≤ q)) (htab : x.1.2.2 = 2 → ∀ x9 ∈ c.exceptionTable.toList, ∀ pc, covers x9 pc = false) (hlocks : meth.locks = false)
    (hE : ∀ (X : sl_S → M → Option (sl_PL × M)) pc lo st m k a j n ts, tb pc = some (k, a, j, n, ts) → [47, 48, 49, 50, 56, 62, 63].contains k = true → (∀ S1 m1, X S1 m1 = some x → sl_G p l e R s mid args below meth c ad base NA Hb D cA ln rd VR MI cn sn nL x Q m0 S1 m1) → sl_op fl pf cl nw rd wr al ln sL sf call X k a j n ts pc lo st m = some x → sl_G p l e R s mid args below meth c ad base NA Hb D cA ln rd VR MI cn sn nL x Q m0 (pc, lo, st) m)
    {C9 : sl_S → M → Option (sl_PL × M)} (hCst : ∀ S m, C9 S m = some x → cn m ≤ cn x.2 ∧ sn m ≤ sn x.2 ∧ (th9 = 0 → x.1.2.2 ≠ 2)) (hCC : ∀ S m, C9 S m = some x → sl_G p l e R s mid args below meth c ad base NA Hb D cA ln rd VR MI cn sn nL x Q m0 S m) : ∀ (N : Nat) (S : sl_S) (m : M), sl_run tb fl pf cl nw rd wr al ln sL sf call stop C9 N S m = some x → sl_G p l e R s mid args below meth c ad base NA Hb D cA ln rd VR MI cn sn nL x Q m0 S m
  | 0, S, m, h => by cases h
  | N + 1, S, m, h => by
    have hst : ∀ S m, sl_run tb fl pf cl nw rd wr al ln sL sf call stop C9 N S m = some x → cn m ≤ cn x.2 ∧ sn m ≤ sn x.2 ∧ (th9 = 0 → x.1.2.2 ≠ 2) := sl_run_st hMo (fun j y na rk rc th rv e => ⟨by obtain ⟨_, _, _, _, _, _, _, _, hcp, _⟩ := hcl j y na rk rc th rv e; exact hcp, h9 j y na rk rc th rv e⟩) h56 hCst N
    unfold sl_run at h
    unfold sl_step at h
    split at h
    · rename_i k a j n ts ht
      obtain ⟨pc, lo, st⟩ := S
      refine sl_op_ok hC hKK hM hsb (hd _ _ ht) (hS _ k a j n ts ht) hfl hpf hnw hcl (fun S1 m1 h1 => ?_) hR hT (fun h2 x9 hx9 => htab h2 x9 hx9 _) hlocks (fun hk h1 => hE _ _ _ _ _ k a j n ts ht hk (fun S1 m1 h1 => ?_) h1) h (fun S1 m1 h1 => ?_)
      · cases hs : stop S1.1 with
        | true =>
          rw [hs] at h1
          obtain ⟨q1, q2, -⟩ := hCst S1 m1 h1
          exact ⟨q1, q2⟩
        | false =>
          rw [hs] at h1
          obtain ⟨q1, q2, -⟩ := hst S1 m1 h1
          exact ⟨q1, q2⟩
      all_goals
        cases hs : stop S1.1 with
        | true =>
          rw [hs] at h1
          exact hCC S1 m1 h1
        | false =>
          rw [hs] at h1
          exact sl_run_ok hC hKK hM hMo hsb hd hS hfl hpf hnw hcl h9 h56 hR hT htab hlocks hE hCst hCC N S1 m1 h1
    · cases h
theorem sl_G_mask {S : sl_S} {bs : List Bool} (g : sl_G p l e R s mid args below meth c ad base NA Hb D cA ln rd VR MI cn sn nL x Q m0 (S.1, sl_mask bs S.2.1, S.2.2) m) : sl_G p l e R s mid args below meth c ad base NA Hb D cA ln rd VR MI cn sn nL x Q m0 S m := by
  intro H locs ls a1 a2 a3 a4 a5 a6 a7 a8 a9 a10
  refine g H locs ls a1 a2 a3 a4 a5 a6 (sl_lh_weak a7 (sl_mask_weak bs S.2.1)) (fun q hq => ?_) a9 a10
  obtain ⟨i, hi⟩ := List.getElem?_of_mem hq
  exact a8 q (List.mem_of_getElem? (sl_mask_weak bs S.2.1 i _ hi))
theorem sl_B_ok {th9 : Nat} (hC : sl_Cx p s mid args c cc nL own D cA) (hKK : sl_KK D cA base s) (hM : sl_Mem ad base NA ln rd VR cn wr al MI sn) (hMo : sl_Mo wr al cn sn) (hsb : ∀ q : Nat, q < base → s.heap[q]? = Hb[q]?) (hd : ∀ pc E, tb pc = some E → sl_okd cc ck pc E = true) (hS : ∀ pc k a j n ts, tb pc = some (k, a, j, n, ts) → sl_sd own nL R.frames R.locals k a j) (hfl : sl_hfl own fl) (hpf : sl_hpf own meth.name pf) (hnw : sl_hnw own nw)
    (hcl : ∀ j y na rk rc th rv, cl j = some (y, na, rk, rc, th, rv) → ∃ (Y : MethodName) (B : ByteArray) (mL : Nat) (ret : Option FieldType) (fr lc : Nat), sl_cok own j (ck j) Y B mL ret na rv fr lc R.frames R.locals ∧ (th ≠ 0 → ck j = 0) ∧ sl_Cp cn sn th (call y) ∧ sl_Ct ad base NA Hb D cA ln rd VR MI cn sn l Y B mL ret fr lc rk rc (call y))
    (h9 : ∀ j y na rk rc th rv, cl j = some (y, na, rk, rc, th, rv) → th ≠ 0 → th9 ≠ 0) (h56 : ∀ p k a j n ts, tb p = some (k, a, j, n, ts) → k = 56 → th9 ≠ 0)
    (hR : cn x.2 - cn m0 + (if x.1.2.2 = 2 then 1 else 0) ≤ R.cells ∧ sn x.2 - sn m0 + (if x.1.2.2 = 2 then 6 else 0) ≤ R.slots)
    (hT : x.1.2.2 = 2 → Q = vx_MQ below (fun _ _ _ _ => False) (sl_XC ad base NA Hb D cA ln rd VR MI cn m0 x.2) args s (cn x.2 - cn m0 + 1) (sn x.2 - sn m0 + 6) (fun q => base ≤ q)) (htab : x.1.2.2 = 2 → ∀ x9 ∈ c.exceptionTable.toList, ∀ pc, covers x9 pc = false) (hlocks : meth.locks = false)
    (hE : ∀ (X : sl_S → M → Option (sl_PL × M)) pc lo st m k a j n ts, tb pc = some (k, a, j, n, ts) → [47, 48, 49, 50, 56, 62, 63].contains k = true → (∀ S1 m1, X S1 m1 = some x → sl_G p l e R s mid args below meth c ad base NA Hb D cA ln rd VR MI cn sn nL x Q m0 S1 m1) → sl_op fl pf cl nw rd wr al ln sL sf call X k a j n ts pc lo st m = some x → sl_G p l e R s mid args below meth c ad base NA Hb D cA ln rd VR MI cn sn nL x Q m0 (pc, lo, st) m) : ∀ (N : Nat) (S : sl_S) (m : M), sl_B tb fl pf cl nw rd wr al ln sL sf call stop mask N S m = some x → sl_G p l e R s mid args below meth c ad base NA Hb D cA ln rd VR MI cn sn nL x Q m0 S m
  | 0, S, m, h => by cases h
  | N + 1, S, m, h => by
    unfold sl_B at h
    exact sl_run_ok hC hKK hM hMo hsb hd hS hfl hpf hnw hcl h9 h56 hR hT htab hlocks hE (fun S1 m1 h1 => sl_B_st hMo (fun j y na rk rc th rv e => ⟨by obtain ⟨_, _, _, _, _, _, _, _, hcp, _⟩ := hcl j y na rk rc th rv e; exact hcp, h9 j y na rk rc th rv e⟩) h56 N _ _ h1) (fun S1 m1 h1 => sl_G_mask (sl_B_ok hC hKK hM hMo hsb hd hS hfl hpf hnw hcl h9 h56 hR hT htab hlocks hE N _ m1 h1)) 400 S m h
end SLR
end
section
section SLM
variable {M : Type}
variable {p : Program} {l : Launch} {e : Env} {R : Room} {s : State} {mid : MethodId} {args : Array Value} {below : List Frame} {meth : Method} {c : Code} {ad : Nat → Nat → Nat} {base NA : Nat} {Hb : Heap} {D : va_G} {cA : Nat → ClassId} {ln : Nat → Nat → Nat} {rd : M → Nat → Nat → Nat → sl_V} {VR : M → Nat × Nat → Prop} {MI : M → Prop} {cn sn : M → Nat} {nL : Nat} {x : sl_PL × M} {Q : State → Prop} {m0 : M} {m : M}
variable {wr : M → Nat → Nat → Nat → sl_V → Option M} {al : M → Nat → Int32 → Option ((Nat × Nat) × M)} {cc : ByteArray} {ck : Nat → Nat} {own : String} {X : sl_S → M → Option (sl_PL × M)} {pc n j : Nat} {a : Int32} {ts : List Nat} {lo : List (Option sl_V)} {st : List sl_V}
variable {tb : Nat → Option sl_E} {fl : Nat → Option (Nat × Nat)} {pf : Nat → Option (Nat × Nat × Nat)} {cl : Nat → Option sl_C} {nw : Nat → Option Nat} {sL : Nat} {sf : Nat → Int32} {call : Nat → List sl_V → M → Option (sl_PL × M)} {stop : Nat → Bool} {mask : Nat → List Bool} {k : Nat}

/-! a method -/
theorem sl_lg (ad : Nat → Nat → Nat) : ∀ as : List sl_V, as.all sl_c1 = true → lg_sl (as.map (sl_v ad)) = (as.map (sl_v ad)).map Slot.val
  | [], _ => rfl
  | v :: as, h => by
    simp only [List.all_cons, Bool.and_eq_true] at h
    have ih := sl_lg ad as h.2
    have hc := sl_cat ad h.1
    unfold lg_sl at ih ⊢
    rw [List.map_cons, List.flatMap_cons, ih, List.map_cons, if_neg (by rw [hc]; decide)]
    rfl
theorem sl_entry (ad : Nat → Nat → Nat) (mid : MethodId) {as : List sl_V} {mL : Nat} (hall : as.all sl_c1 = true) (hlen : as.length ≤ mL) : ∃ ls : Array Slot, entryFrame mid (as.map (sl_v ad)).toArray mL = F0 mid 0 ls [] ∧ sl_lh ad ls mL (sl_lo mL as) := by
  have hg := sl_lg ad as hall
  have hl := lv_entry (as.map (sl_v ad)) (n := mL) (by rw [hg, List.length_map, List.length_map]; exact hlen)
  refine ⟨_, lg_entry_eq mid (as.map (sl_v ad)) mL, hl.1, hl.2.1, fun i v hv => ?_⟩
  unfold sl_lo at hv
  have hi : i < as.length := by
    rcases Nat.lt_or_ge i as.length with q | q
    · exact q
    · rw [List.getElem?_append_right (by rw [List.length_map]; exact q)] at hv
      have := List.mem_of_getElem? hv
      have := List.eq_of_mem_replicate this
      cases this
  rw [List.getElem?_append_left (by rw [List.length_map]; exact hi), List.getElem?_map] at hv
  have hv2 : as[i]? = some v := by
    cases h9 : as[i]? with
    | none => rw [h9] at hv; cases hv
    | some z => rw [h9] at hv; cases hv; rfl
  refine ⟨?_, ?_⟩
  · rw [hg, List.getElem?_toArray, List.getElem?_append_left (by rw [List.length_map, List.length_map]; exact hi), List.getElem?_map, List.getElem?_map, hv2]
    rfl
  · exact List.all_eq_true.mp hall v (List.mem_of_getElem? hv2)
def sl_se (B : ByteArray) (own : String) (ret : Option FieldType) (rk rc fr lc pc k j : Nat) : Prop :=
  (k = 47 → rk = 1 ∧ ((j = 1 ∧ ret = some .int) ∨ (j ≠ 1 ∧ ret = some .boolean))) ∧ (k = 48 → rk = 2 ∧ rc = j ∧ ∃ N : String, ret = some (.object N)) ∧ (k = 49 → rk = 3 ∧ rc = j ∧ ∃ N : String, ret = some (.object N)) ∧ (k = 50 → rk = 0 ∧ ret = none) ∧
  (k = 56 → own = RX10 ∧ (∃ is : Nat, (is = 242 ∨ is = 247) ∧ decode B pc = .ok (.new 240, 3) ∧ decode B (pc + 3) = .ok (.dup, 1) ∧ decode B (pc + 4) = .ok (.ldc is, 2) ∧ decode B (pc + 6) = .ok (.invokespecial 244, 3) ∧ decode B (pc + 9) = .ok (.athrow, 1)) ∧ 5 < fr ∧ 82 ≤ lc) ∧ k ≠ 62 ∧ k ≠ 63
theorem sl_tw1 : ∀ w ∈ (vx_atS RX10 244 sl_IX ["java/lang/RuntimeException", "java/lang/Exception"]).filter goodWord, w ∈ lw_tbl := by decide +kernel
theorem sl_tw2 : ∀ w ∈ (vx_atS RX10 244 sl_IX ["java/lang/RuntimeException", "java/lang/Exception"]).filter (fun w => !goodWord w), w ∈ sl_NW := by decide +kernel
theorem sl_tw3 : ∀ w ∈ Cond.classLink RX10 240 sl_IX :: Cond.initialized sl_IX :: vx_atS RX10 244 sl_IX ["java/lang/RuntimeException", "java/lang/Exception"], vx_ot w = true := by decide +kernel
theorem sl_tw4 : Cond.classLink RX10 240 sl_IX ∈ lw_tbl ∧ Cond.initialized sl_IX ∈ lw_tbl := by decide +kernel
theorem sl_HP_grow {H H1 : Heap} (hN : NA ≤ cn m) (hP : sl_HP ad base NA Hb D cA ln rd VR cn m H) (hz : H.size ≤ H1.size) (hq : ∀ q : Nat, q < H.size → H1[q]? = H[q]?) : sl_HP ad base NA Hb D cA ln rd VR cn m H1 := by
  obtain ⟨p1, p2, p3, p4⟩ := hP
  refine ⟨by omega, fun h => absurd h (by omega), fun q h => by rw [hq q (by omega)]; exact p3 q h, fun c1 i1 h => ?_⟩
  have hold := p4 c1 i1 h
  refine ⟨fun hc => ?_, fun hc h41 => ?_⟩
  · obtain ⟨cell, q1, q2⟩ := hold.1 hc
    exact ⟨cell, by rw [hq _ (Array.getElem?_eq_some_iff.mp q1).1]; exact q1, q2⟩
  · have q1 := hold.2 hc h41
    rw [hq _ (Array.getElem?_eq_some_iff.mp q1).1]; exact q1
theorem sl_meth {Y : MethodName} {B : ByteArray} {mL : Nat} {ret : Option FieldType} {fr lc rk rc th9 : Nat} (hpl : plainName Y.cls = true) (hst : l.stackTraces = false) (hM : sl_Mem ad base NA ln rd VR cn wr al MI sn) (hMo : sl_Mo wr al cn sn) (hd : ∀ pc E, tb pc = some E → sl_okd B ck pc E = true) (hS : ∀ pc k a j n ts, tb pc = some (k, a, j, n, ts) → sl_sd Y.cls mL fr lc k a j) (hse : ∀ pc k a j n ts, tb pc = some (k, a, j, n, ts) → sl_se B Y.cls ret rk rc fr lc pc k j) (hfl : sl_hfl Y.cls fl) (hpf : sl_hpf Y.cls Y.name pf) (hnw : sl_hnw Y.cls nw)
    (hcl : ∀ j y na rk rc th rv, cl j = some (y, na, rk, rc, th, rv) → ∃ (Y1 : MethodName) (B1 : ByteArray) (mL1 : Nat) (ret1 : Option FieldType) (fr1 lc1 : Nat), sl_cok Y.cls j (ck j) Y1 B1 mL1 ret1 na rv fr1 lc1 fr lc ∧ (th ≠ 0 → ck j = 0) ∧ sl_Cp cn sn th (call y) ∧ sl_Ct ad base NA Hb D cA ln rd VR MI cn sn l Y1 B1 mL1 ret1 fr1 lc1 rk rc (call y))
    (h9 : ∀ j y na rk rc th rv, cl j = some (y, na, rk, rc, th, rv) → th ≠ 0 → th9 ≠ 0) (h56 : ∀ p k a j n ts, tb p = some (k, a, j, n, ts) → k = 56 → th9 ≠ 0) (hNA : th9 ≠ 0 → ∀ m, NA ≤ cn m) :
    sl_Ct ad base NA Hb D cA ln rd VR MI cn sn l Y B mL ret fr lc rk rc (fun as m => sl_B tb fl pf cl nw rd wr al ln sL sf call stop mask 100000 (0, sl_lo mL as, []) m) := by
  intro as m x hF hI hv hall hlen
  refine ⟨fun hx2 => ?_, fun hx2 => ?_⟩
  · refine Met.ofW (cc := B) (maxL := mL) (ret := ret) hpl rfl ?_
    intro p e s mid args below meth c s₁ Bd hml hv9
    obtain ⟨rfl, hHP, hKK⟩ := hv9
    have hts := atoms_spec (ws := Cond.code Y B mL ret :: sl_GW) Bd.pre
    have hC : sl_Cx p s mid (as.map (sl_v ad)).toArray c B mL Y.cls D cA := ⟨Bd.exec, Bd.bytes, hml, findClass_of_methodNamed Bd.named, fun w hw => hts w (List.mem_cons_of_mem _ hw), hKK.1⟩
    have hnm : meth.name = Y.name := (name_of_methodNamed Bd.named Bd.method).1
    have hr := Bd.returns
    have hlk := Bd.notSynchronized
    obtain ⟨ls, e1, e2⟩ := sl_entry ad mid hall hlen
    have g := sl_B_ok (l := l) (e := e) (R := ({ frames := fr, cells := cn x.2 - cn m, slots := sn x.2 - sn m, locals := lc } : Room)) (below := below) (meth := meth) (Q := MQ below (sl_Qc ad base NA Hb D cA ln rd VR MI cn rk rc m x) (as.map (sl_v ad)).toArray s (cn x.2 - cn m) (sn x.2 - sn m) (fun q => base ≤ q)) (m0 := m) (sL := sL) (sf := sf) (stop := stop) (mask := mask) hC hKK hM hMo hHP.2.2.1 hd hS hfl (by rw [hnm]; exact hpf) hnw hcl h9 h56
      ⟨by rw [if_neg hx2]; exact Nat.le_refl _, by rw [if_neg hx2]; exact Nat.le_refl _⟩ (fun h => absurd h hx2) (fun h => absurd h hx2) hlk (fun X pc lo st m1 k a j n ts ht hk ih hop => ?_) 100000 _ m hF s.heap [] ls (fun q h => h) (Nat.le_refl _) (Nat.le_refl _) hI (Nat.le_refl _) hHP e2 (fun q hq => ?_) (fun q hq => by cases hq) (fun z hz => by cases hz)
    · rw [Nat.sub_self, Nat.sub_self] at g
      rw [e1]
      exact g
    · obtain ⟨s47, s48, s49, s50, s56, s62, s63⟩ := hse pc k a j n ts ht
      have hd9 := hd _ _ ht
      obtain ⟨hx, hb, -⟩ := hC
      simp only [List.contains_cons, List.contains_nil, Bool.or_false, Bool.or_eq_true, beq_iff_eq] at hk
      rcases hk with rfl | rfl | rfl | rfl | rfl | rfl | rfl
      · obtain ⟨rfl, hj⟩ := s47 rfl
        obtain ⟨hdg, rfl⟩ := sl_d1 hd9 rfl
        replace hop : sl_iret st m1 j = some x := hop
        unfold sl_iret at hop
        split at hop
        · rename_i v
          rcases hj with ⟨rfl, hret⟩ | ⟨hj1, hret⟩
          · replace hop : some ((v, 0, 0), m1) = some x := hop
            cases hop
            intro H locs ls a1 a2 a3 a4 a5 a6 a7 a8 a9 a10
            exact W.iret (v := v) hx hb (hr.trans hret) (fun t ht9 hW => ⟨rfl, by rw [ht9]; exact a6, by rw [ht9]; exact a5, a4, a1, fun h => absurd h (by decide), fun h => absurd h (by decide)⟩) a10 hdg hlk
          · split at hop
            · exact absurd rfl hj1
            · split at hop
              · rename_i hv01
                cases hop
                intro H locs ls a1 a2 a3 a4 a5 a6 a7 a8 a9 a10
                exact W.zret (v := v) hx hb (hr.trans hret) (by rcases hv01 with rfl | rfl <;> rfl) (fun t ht9 hW => ⟨rfl, by rw [ht9]; exact a6, by rw [ht9]; exact a5, a4, a1, fun h => absurd h (by decide), fun h => absurd h (by decide)⟩) a10 hdg hlk
              · cases hop
        · cases hop
      · obtain ⟨rfl, rfl, N, hret⟩ := s48 rfl
        obtain ⟨hdg, rfl⟩ := sl_d1 hd9 rfl
        replace hop : sl_aret st m1 rc = some x := hop
        unfold sl_aret at hop
        split at hop
        · rename_i q
          obtain ⟨c9, i9⟩ := q
          cases hq : ((c9, i9).1 == rc) with
          | false => rw [hq] at hop; cases hop
          | true =>
            rw [hq] at hop
            have hq : c9 = rc := eq_of_beq hq
            subst hq
            replace hop : some ((0, i9, 0), m1) = some x := hop
            cases hop
            intro H locs ls a1 a2 a3 a4 a5 a6 a7 a8 a9 a10
            exact W.aret (v := .ref (ad c9 i9)) hx hb (hr.trans hret) (Or.inl ⟨_, rfl⟩) (Or.inr ⟨_, rfl⟩) (fun t ht9 hW => ⟨rfl, by rw [ht9]; exact a6, by rw [ht9]; exact a5, a4, a1, fun h => a9 _ List.mem_cons_self, fun h => absurd h (by decide)⟩) a10 hdg hlk
        · cases hop
      · obtain ⟨rfl, rfl, N, hret⟩ := s49 rfl
        obtain ⟨hdg, rfl⟩ := sl_d1 hd9 rfl
        replace hop : sl_nret st m1 rc = some x := hop
        unfold sl_nret at hop
        split at hop
        · cases hop
          intro H locs ls a1 a2 a3 a4 a5 a6 a7 a8 a9 a10
          exact W.aret (v := .null) hx hb (hr.trans hret) (Or.inl ⟨_, rfl⟩) (Or.inl rfl) (fun t ht9 hW => ⟨rfl, by rw [ht9]; exact a6, by rw [ht9]; exact a5, a4, a1, fun h => absurd h (by decide), fun _ h => absurd rfl h⟩) a10 hdg hlk
        · rename_i q
          obtain ⟨c9, i9⟩ := q
          cases hq : ((c9, i9).1 == rc) with
          | false => rw [hq] at hop; cases hop
          | true =>
            rw [hq] at hop
            have hq : c9 = rc := eq_of_beq hq
            subst hq
            replace hop : some ((0, i9, 0), m1) = some x := hop
            cases hop
            intro H locs ls a1 a2 a3 a4 a5 a6 a7 a8 a9 a10
            exact W.aret (v := .ref (ad c9 i9)) hx hb (hr.trans hret) (Or.inl ⟨_, rfl⟩) (Or.inr ⟨_, rfl⟩) (fun t ht9 hW => ⟨rfl, by rw [ht9]; exact a6, by rw [ht9]; exact a5, a4, a1, fun h => absurd h (by decide), fun _ _ => a9 _ List.mem_cons_self⟩) a10 hdg hlk
        · cases hop
      · obtain ⟨rfl, hret⟩ := s50 rfl
        obtain ⟨hdg, rfl⟩ := sl_d1 hd9 rfl
        replace hop : sl_vret st m1 = some x := hop
        unfold sl_vret at hop
        split at hop
        · cases hop
          intro H locs ls a1 a2 a3 a4 a5 a6 a7 a8 a9 a10
          exact W.vret hx hb (hr.trans hret) (fun t ht9 hW => ⟨rfl, by rw [ht9]; exact a6, by rw [ht9]; exact a5, a4, a1, fun h => absurd h (by decide), fun h => absurd h (by decide)⟩) a10 hdg hlk
        · cases hop
      · replace hop : sl_thr st m1 = some x := hop
        unfold sl_thr at hop
        split at hop
        · cases hop; exact absurd rfl hx2
        · cases hop
      · exact absurd rfl s62
      · exact absurd rfl s63
    · have hq : some (.inr (.inl (some q))) ∈ sl_lo mL as := hq
      unfold sl_lo at hq
      rcases List.mem_append.mp hq with hq | hq
      · obtain ⟨z, hz, he⟩ := List.mem_map.mp hq
        cases he
        exact hv q hz
      · exact absurd (List.eq_of_mem_replicate hq) (by simp)
  · refine vx_ofW (cc := B) (maxL := mL) (ret := ret) hpl rfl ?_
    intro p e s mid args below meth c s₁ Bd hml htab9 hv9
    obtain ⟨rfl, hHP, hKK⟩ := hv9
    have hts := atoms_spec (ws := Cond.code Y B mL ret :: sl_GW) Bd.pre
    have hC : sl_Cx p s mid (as.map (sl_v ad)).toArray c B mL Y.cls D cA := ⟨Bd.exec, Bd.bytes, hml, findClass_of_methodNamed Bd.named, fun w hw => hts w (List.mem_cons_of_mem _ hw), hKK.1⟩
    have hnm : meth.name = Y.name := (name_of_methodNamed Bd.named Bd.method).1
    have hlk := Bd.notSynchronized
    obtain ⟨ls, e1, e2⟩ := sl_entry ad mid hall hlen
    have g := sl_B_ok (l := l) (e := e) (R := ({ frames := fr, cells := cn x.2 - cn m + 1, slots := sn x.2 - sn m + 6, locals := lc } : Room)) (below := below) (meth := meth) (Q := vx_MQ below (fun _ _ _ _ => False) (sl_XC ad base NA Hb D cA ln rd VR MI cn m x.2) (as.map (sl_v ad)).toArray s (cn x.2 - cn m + 1) (sn x.2 - sn m + 6) (fun q => base ≤ q)) (m0 := m) (sL := sL) (sf := sf) (stop := stop) (mask := mask) hC hKK hM hMo hHP.2.2.1 hd hS hfl (by rw [hnm]; exact hpf) hnw hcl h9 h56
      ⟨by rw [if_pos hx2]; exact Nat.le_refl _, by rw [if_pos hx2]; exact Nat.le_refl _⟩ (fun h => rfl) (fun h x9 hx9 => (htab9 x9 hx9).elim) hlk (fun X pc lo st m1 k a j n ts ht hk ih hop => ?_) 100000 _ m hF s.heap [] ls (fun q h => h) (Nat.le_refl _) (Nat.le_refl _) hI (Nat.le_refl _) hHP e2 (fun q hq => ?_) (fun q hq => by cases hq) (fun z hz => by cases hz)
    · rw [Nat.sub_self, Nat.sub_self] at g
      rw [e1]
      exact g
    · obtain ⟨s47, s48, s49, s50, s56, s62, s63⟩ := hse pc k a j n ts ht
      have hd9 := hd _ _ ht
      obtain ⟨hx, hb, hml2, hown, hts2, hK2⟩ := hC
      simp only [List.contains_cons, List.contains_nil, Bool.or_false, Bool.or_eq_true, beq_iff_eq] at hk
      rcases hk with rfl | rfl | rfl | rfl | rfl | rfl | rfl
      · have hop : sl_iret st m1 j = some x := hop
        obtain ⟨y, hy, h2⟩ := sl_p_iret hop
        cases hy; exact absurd hx2 h2
      · have hop : sl_aret st m1 j = some x := hop
        obtain ⟨y, hy, h2⟩ := sl_p_aret hop
        cases hy; exact absurd hx2 h2
      · have hop : sl_nret st m1 j = some x := hop
        obtain ⟨y, hy, h2⟩ := sl_p_nret hop
        cases hy; exact absurd hx2 h2
      · have hop : sl_vret st m1 = some x := hop
        obtain ⟨y, hy, h2⟩ := sl_p_vret hop
        cases hy; exact absurd hx2 h2
      · replace hop : sl_thr st m1 = some x := hop
        unfold sl_thr at hop
        split at hop
        · cases hop
          obtain ⟨hown9, ⟨is, his, d0, d3, d4, d6, d9⟩, hf5, hl82⟩ := s56 rfl
          rw [hown9] at hown
          intro H locs ls a1 a2 a3 a4 a5 a6 a7 a8 a9 a10
          have hNW : ∀ w ∈ sl_NW, w.before (as.map (sl_v ad)).toArray s = true := fun w hw => va_Nw.use (sl_nw_tab w hw) (hKK.2.2.1 w hw)
          have hat := vx_hat (L := vx_atS RX10 244 sl_IX ["java/lang/RuntimeException", "java/lang/Exception"]) (fun w hw => hts2 w (sl_gw (sl_tw1 w hw) (List.mem_filter.mp hw).2)) sl_tw2 hNW
          have hSS : va_S (fun q => base ≤ q) s.heap H locs := ⟨a5, fun q _ hq => by rw [a6.2.2.1 q (Nat.not_le.mp hq), hHP.2.2.1 q (Nat.not_le.mp hq)], a10⟩
          have hxc : ∀ t : State, s.vm.Alike t.vm → H.size ≤ t.heap.size → (∀ q : Nat, q < H.size → t.heap[q]? = H[q]?) → sl_XC ad base NA Hb D cA ln rd VR MI cn m m1 sl_IX s t := fun t _ hz hq9 => ⟨rfl, sl_HP_grow (hNA (h56 _ _ _ _ _ _ ht rfl) m1) a6 hz hq9, by omega, a4, a1⟩
          rcases his with rfl | rfl
          · obtain ⟨sa, hsa⟩ := hKK.2.2.2.2.2.1
            exact vx_throwS hx hb hst (own := RX10) (cls := sl_IX) (text := "there is no such end") (names := ["java/lang/RuntimeException", "java/lang/Exception"]) hown (by decide +kernel) (by decide +kernel) (hts2 _ (sl_gw sl_tw4.1 (by decide +kernel))) (hts2 _ (sl_gw sl_tw4.2 (by decide +kernel))) hsa hat sl_tw3 hKK.2.2.2.1 hKK.2.2.2.2.1 hSS (a7.1.trans hml2.symm) d0 d3 d4 d6 d9 (fun x9 hx9 => (htab9 x9 hx9).elim) hf5 hl82 (Nat.le_refl _) (Nat.le_refl _) hlk hxc a10 (Nat.le_refl _) (Nat.le_refl _)
          · obtain ⟨sa, hsa⟩ := hKK.2.2.2.2.2.2
            exact vx_throwS hx hb hst (own := RX10) (cls := sl_IX) (text := "there is no such line") (names := ["java/lang/RuntimeException", "java/lang/Exception"]) hown (by decide +kernel) (by decide +kernel) (hts2 _ (sl_gw sl_tw4.1 (by decide +kernel))) (hts2 _ (sl_gw sl_tw4.2 (by decide +kernel))) hsa hat sl_tw3 hKK.2.2.2.1 hKK.2.2.2.2.1 hSS (a7.1.trans hml2.symm) d0 d3 d4 d6 d9 (fun x9 hx9 => (htab9 x9 hx9).elim) hf5 hl82 (Nat.le_refl _) (Nat.le_refl _) hlk hxc a10 (Nat.le_refl _) (Nat.le_refl _)
        · cases hop
      · exact absurd rfl s62
      · exact absurd rfl s63
    · have hq : some (.inr (.inl (some q))) ∈ sl_lo mL as := hq
      unfold sl_lo at hq
      rcases List.mem_append.mp hq with hq | hq
      · obtain ⟨z, hz, he⟩ := List.mem_map.mp hq
        cases he
        exact hv q hz
      · exact absurd (List.eq_of_mem_replicate hq) (by simp)
end SLM
end
section
/-! ===== the memory of the law's loop: whole numbers by kind of cell, which cell, place; where references lead is fixed ===== -/
abbrev sl_M : Type := (Nat → Nat → Nat → Int32) × Int64
def sl_sx (x : Int32) : Int32 := x.toInt8.toInt32
def sl_ush (x y : Int32) : Int32 := (x.toUInt32 >>> (y.toUInt32 &&& Int32.toUInt32 31)).toInt32
def sl_hit (c i k i' k' : Nat) : Bool := bif c == 30 then i' == i && k' == k else k' == k && i' == i
def sl_up (m : sl_M) (c i k : Nat) (x : Int32) : sl_M := (fun c' i' k' => bif c' == c && sl_hit c i k i' k' then x else m.1 c' i' k', m.2)
def sl_u2 (m : sl_M) (y : Int64) : sl_M := (m.1, y)
def sl_lr (r : Nat) : Nat := bif Nat.ble 14 r then 67 else match r with
  | 0 => 1200
  | 1 => 1205
  | 2 => 65
  | 3 => 65
  | 4 => 3000
  | 5 => 3000
  | 6 => 3000
  | 7 => 3000
  | 8 => 3840
  | 9 => 3840
  | 10 => 120
  | 11 => 120
  | 12 => 120
  | 13 => 120
  | _ => 0
def sl_lb (r : Nat) : Nat := match r with
  | 0 => 1200
  | 1 => 1300
  | 2 => 1300
  | 3 => 6000
  | 4 => 6000
  | 5 => 7680
  | 6 => 240
  | 7 => 6400
  | 8 => 200
  | 9 => 200
  | 10 => 80
  | _ => 0
def sl_l7 (i : Nat) : Nat := bif i == 2 then 16 else 64
def sl_ln (c i : Nat) : Nat := match c with
  | 20 => sl_lr i
  | 22 => 40
  | 23 => 64
  | 24 => 64
  | 25 => 64
  | 26 => 64
  | 27 => sl_l7 i
  | 30 => sl_lb i
  | 40 => 1
  | 50 => 16
  | 51 => 2
  | 52 => 2
  | 53 => 2
  | 54 => 2
  | 55 => 2
  | 56 => 2
  | 57 => 2
  | 58 => 6004
  | 59 => 6004
  | 60 => 128
  | 61 => 2
  | 62 => 2
  | 63 => 2
  | 64 => 80
  | 65 => 80
  | 66 => 80
  | 67 => 80
  | 68 => 16
  | 70 => 6004
  | 71 => 128
  | 72 => 2
  | 73 => 80
  | _ => 0
def sl_rd1 (m : sl_M) (i k : Nat) : sl_V := match k with
  | 0 => .inr (.inl (some (8, 0)))
  | 1 => .inr (.inl (some (9, 0)))
  | 2 => .inr (.inl (some (7, i)))
  | 3 => .inr (.inl (some (5, i)))
  | 4 => .inr (.inl (some (6, (10 + i))))
  | 5 => .inl (m.1 1 i 5)
  | 6 => .inr (.inl (some (6, (12 + i))))
  | 7 => .inr (.inl (some (3, (1 + i))))
  | _ => .inr (.inl none)
def sl_rd2 (m : sl_M) (i k : Nat) : sl_V := match k with
  | 0 => .inr (.inl (some (6, (14 + i))))
  | 1 => .inl (m.1 2 i 1)
  | 2 => .inl (m.1 2 i 2)
  | 3 => .inl (m.1 2 i 3)
  | 4 => .inl (m.1 2 i 4)
  | _ => .inr (.inl none)
def sl_rd3 (m : sl_M) (i k : Nat) : sl_V := match k with
  | 0 => .inl (m.1 3 i 0)
  | 1 => .inl (m.1 3 i 1)
  | _ => .inr (.inl none)
def sl_rd4 (m : sl_M) (i k : Nat) : sl_V := match k with
  | 0 => .inr (.inl (some (9, 0)))
  | 1 => .inr (.inl (some (22, i)))
  | 2 => .inr (.inl (some (6, (2 + i))))
  | 3 => .inl (m.1 4 i 3)
  | 4 => .inl (m.1 4 i 4)
  | _ => .inr (.inl none)
def sl_rd5 (m : sl_M) (i k : Nat) : sl_V := match k with
  | 0 => .inr (.inl (some (8, 0)))
  | 1 => .inr (.inl (some (9, 0)))
  | 2 => .inr (.inl (some (4, i)))
  | 3 => .inr (.inl (some (6, (6 + i))))
  | 4 => .inl (m.1 5 i 4)
  | 5 => .inr (.inl (some (27, i)))
  | 6 => .inr (.inl (some (6, (8 + i))))
  | _ => .inr (.inl none)
def sl_rd6 (m : sl_M) (i k : Nat) : sl_V := match k with
  | 0 => .inr (.inl (some (20, i)))
  | 1 => .inl (m.1 6 i 1)
  | _ => .inr (.inl none)
def sl_rd7 (m : sl_M) (i k : Nat) : sl_V := match k with
  | 0 => .inr (.inl (some (8, 0)))
  | 1 => .inr (.inl (some (9, 0)))
  | 2 => .inr (.inl (some (4, i)))
  | 3 => .inr (.inl (some (6, (4 + i))))
  | 4 => .inl (m.1 7 i 4)
  | 5 => .inl (m.1 7 i 5)
  | 6 => .inl (m.1 7 i 6)
  | 7 => .inl (m.1 7 i 7)
  | 8 => .inl (m.1 7 i 8)
  | 9 => .inr (.inl (some (23, i)))
  | 10 => .inr (.inl (some (24, i)))
  | 11 => .inr (.inl (some (25, i)))
  | 12 => .inr (.inl (some (26, i)))
  | _ => .inr (.inl none)
def sl_rd8 (m : sl_M) (i k : Nat) : sl_V := match k with
  | 0 => .inl (m.1 8 i 0)
  | 1 => .inl (m.1 8 i 1)
  | 2 => .inl (m.1 8 i 2)
  | 3 => .inl (m.1 8 i 3)
  | 4 => .inl (m.1 8 i 4)
  | _ => .inr (.inl none)
def sl_rd9 (m : sl_M) (i k : Nat) : sl_V := match k with
  | 0 => .inr (.inl (some (27, 2)))
  | _ => .inr (.inl none)
def sl_rd10 (m : sl_M) (i k : Nat) : sl_V := match k with
  | 0 => .inr (.inl (some (8, 0)))
  | 1 => .inr (.inl (some (9, 0)))
  | 2 => .inr (.inl (some (4, 0)))
  | 3 => .inr (.inl (some (4, 1)))
  | 4 => .inr (.inl (some (1, 0)))
  | 5 => .inr (.inl (some (1, 1)))
  | 6 => .inr (.inl (some (6, 0)))
  | 7 => .inr (.inl (some (6, 1)))
  | 8 => .inr (.inl (some (3, 0)))
  | _ => .inr (.inl none)
def sl_rd11 (m : sl_M) (i k : Nat) : sl_V := match k with
  | 0 => .inl (m.1 11 i 0)
  | 1 => .inr (.inl (some (30, 0)))
  | 2 => .inl (m.1 11 i 2)
  | 3 => .inr (.inl (some (30, 1)))
  | 4 => .inl (m.1 11 i 4)
  | 5 => .inr (.inl (some (50, 0)))
  | 6 => .inl (m.1 11 i 6)
  | 7 => .inl (m.1 11 i 7)
  | 8 => .inr (.inl (some (30, 2)))
  | 9 => .inl (m.1 11 i 9)
  | 10 => .inl (m.1 11 i 10)
  | 11 => .inl (m.1 11 i 11)
  | 12 => .inl (m.1 11 i 12)
  | 13 => .inl (m.1 11 i 13)
  | 14 => .inr (.inl (some (30, 3)))
  | 15 => .inr (.inl (some (30, 4)))
  | 16 => .inr (.inl (some (51, 0)))
  | 17 => .inr (.inl (some (52, 0)))
  | 18 => .inr (.inl (some (53, 0)))
  | 19 => .inr (.inl (some (54, 0)))
  | 20 => .inr (.inl (some (55, 0)))
  | 21 => .inr (.inl (some (56, 0)))
  | 22 => .inr (.inl (some (57, 0)))
  | 23 => .inr (.inl (some (58, 0)))
  | 24 => .inr (.inl (some (59, 0)))
  | 25 => .inr (.inl (some (70, 0)))
  | 26 => .inr (.inl (some (71, 0)))
  | 27 => .inr (.inl (some (60, 0)))
  | 28 => .inr (.inl (some (30, 5)))
  | 29 => .inr (.inl (some (30, 6)))
  | 30 => .inr (.inl (some (61, 0)))
  | 31 => .inr (.inl (some (72, 0)))
  | 32 => .inr (.inl (some (62, 0)))
  | 33 => .inr (.inl (some (63, 0)))
  | 34 => .inr (.inl (some (30, 7)))
  | 35 => .inr (.inl (some (64, 0)))
  | 36 => .inr (.inl (some (65, 0)))
  | 37 => .inr (.inl (some (66, 0)))
  | 38 => .inr (.inl (some (67, 0)))
  | 39 => .inr (.inl (some (73, 0)))
  | 40 => .inr (.inl (some (68, 0)))
  | 41 => .inr (.inl (some (30, 8)))
  | 42 => .inr (.inl (some (30, 9)))
  | 43 => .inr (.inl (some (30, 10)))
  | _ => .inr (.inl none)
def sl_rd (m : sl_M) (c i k : Nat) : sl_V := bif Nat.ble 70 c then .inl (m.1 c i k &&& 1) else bif Nat.ble 50 c then .inl (m.1 c i k) else match c with
  | 1 => sl_rd1 m i k
  | 2 => sl_rd2 m i k
  | 3 => sl_rd3 m i k
  | 4 => sl_rd4 m i k
  | 5 => sl_rd5 m i k
  | 6 => sl_rd6 m i k
  | 7 => sl_rd7 m i k
  | 8 => sl_rd8 m i k
  | 9 => sl_rd9 m i k
  | 10 => sl_rd10 m i k
  | 11 => sl_rd11 m i k
  | 20 => .inl (sl_sx (m.1 20 i k))
  | 22 => .inr (.inl (some (2, 40 * i + k)))
  | 23 => .inl (m.1 23 i k)
  | 24 => .inl (m.1 24 i k)
  | 25 => .inl (m.1 25 i k)
  | 26 => .inl (m.1 26 i k &&& 1)
  | 27 => .inl (m.1 27 i k)
  | 30 => .inl (sl_sx (m.1 30 i k))
  | 40 => .inr (.inr m.2)
  | _ => .inr (.inl none)
/-- may it be written: fields of whole numbers, arrays of these -/
def sl_wk (c k : Nat) : Bool := bif Nat.ble 20 c then !(c == 21) && !(c == 22) && !(c == 40) && !(c == 41) && Nat.ble c 73 else match c with
  | 1 => k == 5
  | 2 => k == 1 || k == 2 || k == 3 || k == 4
  | 3 => k == 0 || k == 1
  | 4 => k == 3 || k == 4
  | 5 => k == 4
  | 6 => k == 1
  | 7 => k == 4 || k == 5 || k == 6 || k == 7 || k == 8
  | 8 => k == 0 || k == 1 || k == 2 || k == 3 || k == 4
  | 9 => false
  | 10 => false
  | 11 => k == 0 || k == 2 || k == 4 || k == 6 || k == 7 || k == 9 || k == 10 || k == 11 || k == 12 || k == 13
  | _ => false
def sl_wr (m : sl_M) (c i k : Nat) (v : sl_V) : Option sl_M := match v with
  | .inl x => bif sl_wk c k then some (sl_up m c i k x) else none
  | .inr (.inr y) => bif c == 40 then some (sl_u2 m y) else none
  | _ => none
def sl_al (m : sl_M) (_ : Nat) (_ : Int32) : Option ((Nat × Nat) × sl_M) := (none : Option ((Nat × Nat) × sl_M))
def fl_J7 (p : Nat) : Option (Nat × Nat) := none
def pf_J7 (p : Nat) : Option (Nat × Nat × Nat) := none
def pi_J7 (p : Nat) : Option (Nat × Nat × Nat) := none
def cl_J7 (p : Nat) : Option sl_C := none
def nw_J7 (p : Nat) : Option Nat := none
def fl_J9 (p : Nat) : Option (Nat × Nat) := none
def pf_J9 (p : Nat) : Option (Nat × Nat × Nat) := none
def pi_J9 (p : Nat) : Option (Nat × Nat × Nat) := none
def cl_J9 (p : Nat) : Option sl_C := none
def nw_J9 (p : Nat) : Option Nat := none
def fl_L (p : Nat) : Option (Nat × Nat) := none
def pf_L (p : Nat) : Option (Nat × Nat × Nat) := none
def pi_L (p : Nat) : Option (Nat × Nat × Nat) := none
def cl_L (p : Nat) : Option sl_C := bif Nat.ble 79 p then (bif Nat.ble 101 p then (bif Nat.ble 113 p then (bif Nat.ble 118 p then (bif Nat.ble 122 p then (bif Nat.ble 125 p then (bif Nat.beq p 125 then some (103, 2, 1, 0, 0, 12) else none) else (bif Nat.beq p 122 then some (85, 2, 1, 0, 0, 11) else none)) else (bif Nat.ble 121 p then (bif Nat.beq p 121 then some (96, 1, 1, 0, 0, 12) else none) else (bif Nat.beq p 118 then some (84, 1, 1, 0, 0, 11) else none))) else (bif Nat.ble 114 p then (bif Nat.ble 117 p then (bif Nat.beq p 117 then some (102, 2, 1, 0, 0, 12) else none) else (bif Nat.beq p 114 then some (83, 2, 1, 0, 0, 11) else none)) else (bif Nat.beq p 113 then some (101, 1, 1, 0, 0, 12) else none))) else (bif Nat.ble 106 p then (bif Nat.ble 109 p then (bif Nat.ble 110 p then (bif Nat.beq p 110 then some (82, 1, 1, 0, 0, 11) else none) else (bif Nat.beq p 109 then some (100, 1, 1, 0, 0, 12) else none)) else (bif Nat.beq p 106 then some (81, 1, 1, 0, 0, 11) else none)) else (bif Nat.ble 102 p then (bif Nat.ble 105 p then (bif Nat.beq p 105 then some (133, 2, 1, 0, 0, 12) else none) else (bif Nat.beq p 102 then some (80, 2, 1, 0, 0, 11) else none)) else (bif Nat.beq p 101 then some (132, 3, 1, 0, 0, 12) else none)))) else (bif Nat.ble 89 p then (bif Nat.ble 94 p then (bif Nat.ble 98 p then (bif Nat.ble 99 p then (bif Nat.beq p 99 then some (145, 4, 1, 0, 0, 0) else none) else (bif Nat.beq p 98 then some (131, 3, 1, 0, 0, 12) else none)) else (bif Nat.ble 95 p then (bif Nat.beq p 95 then some (144, 4, 1, 0, 0, 0) else none) else (bif Nat.beq p 94 then some (130, 2, 1, 0, 0, 12) else none))) else (bif Nat.ble 91 p then (bif Nat.ble 92 p then (bif Nat.beq p 92 then some (143, 3, 1, 0, 0, 0) else none) else (bif Nat.beq p 91 then some (129, 4, 1, 0, 0, 12) else none)) else (bif Nat.beq p 89 then some (142, 5, 1, 0, 0, 0) else none))) else (bif Nat.ble 85 p then (bif Nat.ble 86 p then (bif Nat.ble 88 p then (bif Nat.beq p 88 then some (128, 4, 1, 0, 0, 12) else none) else (bif Nat.beq p 86 then some (141, 5, 1, 0, 0, 0) else none)) else (bif Nat.beq p 85 then some (126, 4, 1, 0, 0, 12) else none)) else (bif Nat.ble 82 p then (bif Nat.ble 83 p then (bif Nat.beq p 83 then some (140, 5, 1, 0, 0, 0) else none) else (bif Nat.beq p 82 then some (125, 1, 1, 0, 0, 12) else none)) else (bif Nat.beq p 79 then some (73, 1, 1, 0, 1, 11) else none))))) else (bif Nat.ble 47 p then (bif Nat.ble 62 p then (bif Nat.ble 71 p then (bif Nat.ble 75 p then (bif Nat.ble 78 p then (bif Nat.beq p 78 then some (124, 4, 1, 0, 0, 12) else none) else (bif Nat.beq p 75 then some (139, 5, 1, 0, 0, 0) else none)) else (bif Nat.ble 74 p then (bif Nat.beq p 74 then some (113, 1, 1, 0, 0, 12) else none) else (bif Nat.beq p 71 then some (68, 1, 1, 0, 0, 11) else none))) else (bif Nat.ble 67 p then (bif Nat.ble 68 p then (bif Nat.beq p 68 then some (90, 1, 1, 0, 0, 12) else none) else (bif Nat.beq p 67 then some (106, 2, 1, 0, 0, 12) else none)) else (bif Nat.beq p 62 then some (138, 3, 1, 0, 0, 0) else none))) else (bif Nat.ble 56 p then (bif Nat.ble 57 p then (bif Nat.ble 61 p then (bif Nat.beq p 61 then some (94, 1, 1, 0, 0, 12) else none) else (bif Nat.beq p 57 then some (66, 1, 1, 0, 0, 11) else none)) else (bif Nat.beq p 56 then some (93, 2, 1, 0, 0, 12) else none)) else (bif Nat.ble 51 p then (bif Nat.ble 52 p then (bif Nat.beq p 52 then some (65, 2, 1, 0, 0, 11) else none) else (bif Nat.beq p 51 then some (92, 6, 1, 0, 0, 12) else none)) else (bif Nat.beq p 47 then some (63, 6, 1, 0, 0, 11) else none)))) else (bif Nat.ble 31 p then (bif Nat.ble 41 p then (bif Nat.ble 42 p then (bif Nat.ble 46 p then (bif Nat.beq p 46 then some (105, 6, 1, 0, 0, 12) else none) else (bif Nat.beq p 42 then some (62, 6, 1, 0, 0, 11) else none)) else (bif Nat.beq p 41 then some (89, 1, 0, 0, 0, 12) else none)) else (bif Nat.ble 35 p then (bif Nat.ble 38 p then (bif Nat.beq p 38 then some (61, 1, 0, 0, 0, 11) else none) else (bif Nat.beq p 35 then some (79, 3, 1, 0, 1, 11) else none)) else (bif Nat.beq p 31 then some (78, 3, 1, 0, 1, 11) else none))) else (bif Nat.ble 22 p then (bif Nat.ble 25 p then (bif Nat.ble 28 p then (bif Nat.beq p 28 then some (77, 2, 1, 0, 1, 11) else none) else (bif Nat.beq p 25 then some (76, 4, 1, 0, 1, 11) else none)) else (bif Nat.beq p 22 then some (75, 4, 1, 0, 1, 11) else none)) else (bif Nat.ble 15 p then (bif Nat.ble 19 p then (bif Nat.beq p 19 then some (74, 4, 1, 0, 1, 11) else none) else (bif Nat.beq p 15 then some (70, 4, 1, 0, 1, 11) else none)) else (bif Nat.beq p 7 then some (67, 2, 1, 0, 1, 11) else none)))))
def nw_L (p : Nat) : Option Nat := bif Nat.ble 39 p then (bif Nat.beq p 39 then some 11 else none) else (bif Nat.beq p 8 then some 10 else none)
def fl_X0 (p : Nat) : Option (Nat × Nat) := bif Nat.beq p 23 then some (6, 1) else none
def pf_X0 (p : Nat) : Option (Nat × Nat × Nat) := bif Nat.beq p 23 then some (6, 1, 0) else none
def pi_X0 (p : Nat) : Option (Nat × Nat × Nat) := bif Nat.beq p 23 then some (6, 1, 0) else none
def cl_X0 (p : Nat) : Option sl_C := bif Nat.ble 19 p then (bif Nat.ble 27 p then (bif Nat.beq p 27 then some (38, 3, 0, 0, 0, 7) else none) else (bif Nat.beq p 19 then some (37, 2, 1, 0, 0, 7) else none)) else (bif Nat.ble 16 p then (bif Nat.beq p 16 then some (33, 1, 0, 0, 0, 7) else none) else (bif Nat.beq p 9 then some (36, 2, 1, 0, 0, 7) else none))
def nw_X0 (p : Nat) : Option Nat := none
def fl_X1 (p : Nat) : Option (Nat × Nat) := bif Nat.ble 43 p then (bif Nat.ble 70 p then (bif Nat.ble 125 p then (bif Nat.ble 130 p then (bif Nat.beq p 130 then some (8, 3) else none) else (bif Nat.beq p 125 then some (8, 1) else none)) else (bif Nat.beq p 70 then some (6, 1) else none)) else (bif Nat.ble 50 p then (bif Nat.ble 62 p then (bif Nat.beq p 62 then some (1, 5) else none) else (bif Nat.beq p 50 then some (1, 3) else none)) else (bif Nat.beq p 43 then some (1, 2) else none))) else (bif Nat.ble 26 p then (bif Nat.ble 30 p then (bif Nat.ble 34 p then (bif Nat.beq p 34 then some (1, 1) else none) else (bif Nat.beq p 30 then some (1, 0) else none)) else (bif Nat.beq p 26 then some (1, 7) else none)) else (bif Nat.ble 20 p then (bif Nat.beq p 20 then some (1, 6) else none) else (bif Nat.beq p 14 then some (1, 4) else none)))
def pf_X1 (p : Nat) : Option (Nat × Nat × Nat) := bif Nat.ble 125 p then (bif Nat.ble 130 p then (bif Nat.beq p 130 then some (8, 3, 0) else none) else (bif Nat.beq p 125 then some (8, 1, 0) else none)) else (bif Nat.ble 70 p then (bif Nat.beq p 70 then some (6, 1, 0) else none) else (bif Nat.beq p 62 then some (1, 5, 1) else none))
def pi_X1 (p : Nat) : Option (Nat × Nat × Nat) := bif Nat.ble 43 p then (bif Nat.ble 70 p then (bif Nat.ble 125 p then (bif Nat.ble 130 p then (bif Nat.beq p 130 then some (8, 3, 0) else none) else (bif Nat.beq p 125 then some (8, 1, 0) else none)) else (bif Nat.beq p 70 then some (6, 1, 0) else none)) else (bif Nat.ble 50 p then (bif Nat.ble 62 p then (bif Nat.beq p 62 then some (1, 5, 1) else none) else (bif Nat.beq p 50 then some (1, 3, 2) else none)) else (bif Nat.beq p 43 then some (1, 2, 2) else none))) else (bif Nat.ble 26 p then (bif Nat.ble 30 p then (bif Nat.ble 34 p then (bif Nat.beq p 34 then some (1, 1, 2) else none) else (bif Nat.beq p 30 then some (1, 0, 2) else none)) else (bif Nat.beq p 26 then some (1, 7, 2) else none)) else (bif Nat.ble 20 p then (bif Nat.beq p 20 then some (1, 6, 2) else none) else (bif Nat.beq p 14 then some (1, 4, 2) else none)))
def cl_X1 (p : Nat) : Option sl_C := bif Nat.ble 82 p then (bif Nat.ble 104 p then (bif Nat.ble 118 p then (bif Nat.ble 121 p then (bif Nat.ble 133 p then (bif Nat.beq p 133 then some (56, 1, 1, 0, 0, 9) else none) else (bif Nat.beq p 121 then some (0, 2, 1, 0, 0, 0) else none)) else (bif Nat.beq p 118 then some (11, 1, 1, 0, 0, 2) else none)) else (bif Nat.ble 108 p then (bif Nat.ble 114 p then (bif Nat.beq p 114 then some (10, 1, 1, 0, 0, 2) else none) else (bif Nat.beq p 108 then some (2, 2, 0, 0, 0, 0) else none)) else (bif Nat.beq p 104 then some (15, 2, 1, 0, 0, 4) else none))) else (bif Nat.ble 94 p then (bif Nat.ble 97 p then (bif Nat.ble 101 p then (bif Nat.beq p 101 then some (29, 1, 0, 0, 0, 6) else none) else (bif Nat.beq p 97 then some (26, 4, 1, 0, 0, 6) else none)) else (bif Nat.beq p 94 then some (8, 1, 1, 0, 0, 2) else none)) else (bif Nat.ble 86 p then (bif Nat.ble 90 p then (bif Nat.beq p 90 then some (47, 3, 0, 0, 0, 8) else none) else (bif Nat.beq p 86 then some (36, 2, 1, 0, 0, 7) else none)) else (bif Nat.beq p 82 then some (59, 2, 0, 0, 0, 10) else none)))) else (bif Nat.ble 57 p then (bif Nat.ble 66 p then (bif Nat.ble 74 p then (bif Nat.ble 78 p then (bif Nat.beq p 78 then some (9, 1, 1, 0, 0, 2) else none) else (bif Nat.beq p 74 then some (7, 2, 0, 0, 0, 2) else none)) else (bif Nat.beq p 66 then some (37, 2, 1, 0, 0, 7) else none)) else (bif Nat.ble 58 p then (bif Nat.ble 61 p then (bif Nat.beq p 61 then some (33, 1, 0, 0, 0, 7) else none) else (bif Nat.beq p 58 then some (5, 1, 0, 0, 0, 2) else none)) else (bif Nat.beq p 57 then some (25, 1, 0, 0, 0, 6) else none))) else (bif Nat.ble 40 p then (bif Nat.ble 49 p then (bif Nat.ble 54 p then (bif Nat.beq p 54 then some (41, 1, 0, 0, 0, 8) else none) else (bif Nat.beq p 49 then some (24, 4, 0, 0, 0, 6) else none)) else (bif Nat.beq p 40 then some (40, 4, 0, 0, 0, 8) else none)) else (bif Nat.ble 25 p then (bif Nat.beq p 25 then some (13, 1, 0, 0, 0, 4) else none) else (bif Nat.beq p 11 then some (32, 2, 0, 0, 0, 7) else none))))
def nw_X1 (p : Nat) : Option Nat := bif Nat.ble 38 p then (bif Nat.ble 47 p then (bif Nat.beq p 47 then some 5 else none) else (bif Nat.beq p 38 then some 7 else none)) else (bif Nat.ble 23 p then (bif Nat.beq p 23 then some 3 else none) else (bif Nat.beq p 9 then some 6 else none))
def fl_X10 (p : Nat) : Option (Nat × Nat) := bif Nat.ble 164 p then (bif Nat.ble 190 p then (bif Nat.ble 202 p then (bif Nat.ble 230 p then (bif Nat.ble 233 p then (bif Nat.beq p 233 then some (3, 1) else none) else (bif Nat.beq p 230 then some (3, 0) else none)) else (bif Nat.ble 208 p then (bif Nat.beq p 208 then some (7, 5) else none) else (bif Nat.beq p 202 then some (5, 3) else none))) else (bif Nat.ble 193 p then (bif Nat.ble 197 p then (bif Nat.beq p 197 then some (5, 4) else none) else (bif Nat.beq p 193 then some (1, 3) else none)) else (bif Nat.beq p 190 then some (7, 8) else none))) else (bif Nat.ble 177 p then (bif Nat.ble 184 p then (bif Nat.ble 187 p then (bif Nat.beq p 187 then some (7, 7) else none) else (bif Nat.beq p 184 then some (7, 4) else none)) else (bif Nat.ble 180 p then (bif Nat.beq p 180 then some (2, 4) else none) else (bif Nat.beq p 177 then some (2, 3) else none))) else (bif Nat.ble 171 p then (bif Nat.ble 174 p then (bif Nat.beq p 174 then some (2, 2) else none) else (bif Nat.beq p 171 then some (2, 1) else none)) else (bif Nat.beq p 164 then some (1, 4) else none)))) else (bif Nat.ble 56 p then (bif Nat.ble 112 p then (bif Nat.ble 145 p then (bif Nat.ble 161 p then (bif Nat.beq p 161 then some (4, 4) else none) else (bif Nat.beq p 145 then some (2, 0) else none)) else (bif Nat.ble 116 p then (bif Nat.beq p 116 then some (7, 3) else none) else (bif Nat.beq p 112 then some (1, 2) else none))) else (bif Nat.ble 62 p then (bif Nat.ble 87 p then (bif Nat.beq p 87 then some (6, 1) else none) else (bif Nat.beq p 62 then some (10, 8) else none)) else (bif Nat.beq p 56 then some (10, 7) else none))) else (bif Nat.ble 32 p then (bif Nat.ble 44 p then (bif Nat.ble 52 p then (bif Nat.beq p 52 then some (10, 6) else none) else (bif Nat.beq p 44 then some (10, 5) else none)) else (bif Nat.ble 40 p then (bif Nat.beq p 40 then some (10, 4) else none) else (bif Nat.beq p 32 then some (10, 3) else none))) else (bif Nat.ble 19 p then (bif Nat.ble 28 p then (bif Nat.beq p 28 then some (10, 2) else none) else (bif Nat.beq p 19 then some (10, 1) else none)) else (bif Nat.beq p 12 then some (10, 0) else none))))
def pf_X10 (p : Nat) : Option (Nat × Nat × Nat) := bif Nat.ble 184 p then (bif Nat.ble 197 p then (bif Nat.ble 230 p then (bif Nat.ble 233 p then (bif Nat.beq p 233 then some (3, 1, 0) else none) else (bif Nat.beq p 230 then some (3, 0, 0) else none)) else (bif Nat.ble 208 p then (bif Nat.beq p 208 then some (7, 5, 0) else none) else (bif Nat.beq p 197 then some (5, 4, 0) else none))) else (bif Nat.ble 187 p then (bif Nat.ble 190 p then (bif Nat.beq p 190 then some (7, 8, 0) else none) else (bif Nat.beq p 187 then some (7, 7, 0) else none)) else (bif Nat.beq p 184 then some (7, 4, 0) else none))) else (bif Nat.ble 174 p then (bif Nat.ble 177 p then (bif Nat.ble 180 p then (bif Nat.beq p 180 then some (2, 4, 1) else none) else (bif Nat.beq p 177 then some (2, 3, 0) else none)) else (bif Nat.beq p 174 then some (2, 2, 0) else none)) else (bif Nat.ble 161 p then (bif Nat.ble 171 p then (bif Nat.beq p 171 then some (2, 1, 0) else none) else (bif Nat.beq p 161 then some (4, 4, 0) else none)) else (bif Nat.beq p 87 then some (6, 1, 0) else none)))
def pi_X10 (p : Nat) : Option (Nat × Nat × Nat) := bif Nat.ble 171 p then (bif Nat.ble 187 p then (bif Nat.ble 208 p then (bif Nat.ble 230 p then (bif Nat.ble 233 p then (bif Nat.beq p 233 then some (3, 1, 0) else none) else (bif Nat.beq p 230 then some (3, 0, 0) else none)) else (bif Nat.beq p 208 then some (7, 5, 0) else none)) else (bif Nat.ble 190 p then (bif Nat.ble 197 p then (bif Nat.beq p 197 then some (5, 4, 0) else none) else (bif Nat.beq p 190 then some (7, 8, 0) else none)) else (bif Nat.beq p 187 then some (7, 7, 0) else none))) else (bif Nat.ble 177 p then (bif Nat.ble 180 p then (bif Nat.ble 184 p then (bif Nat.beq p 184 then some (7, 4, 0) else none) else (bif Nat.beq p 180 then some (2, 4, 1) else none)) else (bif Nat.beq p 177 then some (2, 3, 0) else none)) else (bif Nat.ble 174 p then (bif Nat.beq p 174 then some (2, 2, 0) else none) else (bif Nat.beq p 171 then some (2, 1, 0) else none)))) else (bif Nat.ble 44 p then (bif Nat.ble 62 p then (bif Nat.ble 87 p then (bif Nat.ble 161 p then (bif Nat.beq p 161 then some (4, 4, 0) else none) else (bif Nat.beq p 87 then some (6, 1, 0) else none)) else (bif Nat.beq p 62 then some (10, 8, 2) else none)) else (bif Nat.ble 52 p then (bif Nat.ble 56 p then (bif Nat.beq p 56 then some (10, 7, 2) else none) else (bif Nat.beq p 52 then some (10, 6, 2) else none)) else (bif Nat.beq p 44 then some (10, 5, 2) else none))) else (bif Nat.ble 28 p then (bif Nat.ble 32 p then (bif Nat.ble 40 p then (bif Nat.beq p 40 then some (10, 4, 2) else none) else (bif Nat.beq p 32 then some (10, 3, 2) else none)) else (bif Nat.beq p 28 then some (10, 2, 2) else none)) else (bif Nat.ble 19 p then (bif Nat.beq p 19 then some (10, 1, 2) else none) else (bif Nat.beq p 12 then some (10, 0, 2) else none))))
def cl_X10 (p : Nat) : Option sl_C := bif Nat.ble 108 p then (bif Nat.ble 154 p then (bif Nat.ble 214 p then (bif Nat.ble 223 p then (bif Nat.ble 227 p then (bif Nat.ble 236 p then (bif Nat.beq p 236 then some (0, 2, 1, 0, 0, 0) else none) else (bif Nat.beq p 227 then some (2, 2, 0, 0, 0, 0) else none)) else (bif Nat.beq p 223 then some (15, 2, 1, 0, 0, 4) else none)) else (bif Nat.ble 217 p then (bif Nat.beq p 217 then some (1, 2, 0, 0, 0, 0) else none) else (bif Nat.beq p 214 then some (60, 2, 1, 0, 0, 10) else none))) else (bif Nat.ble 167 p then (bif Nat.ble 205 p then (bif Nat.ble 211 p then (bif Nat.beq p 211 then some (49, 1, 1, 0, 0, 8) else none) else (bif Nat.beq p 205 then some (31, 1, 1, 0, 0, 6) else none)) else (bif Nat.beq p 167 then some (36, 2, 1, 0, 0, 7) else none)) else (bif Nat.ble 158 p then (bif Nat.beq p 158 then some (21, 1, 0, 0, 0, 5) else none) else (bif Nat.beq p 154 then some (6, 3, 0, 0, 0, 2) else none)))) else (bif Nat.ble 130 p then (bif Nat.ble 138 p then (bif Nat.ble 142 p then (bif Nat.ble 150 p then (bif Nat.beq p 150 then some (72, 5, 0, 0, 0, 0) else none) else (bif Nat.beq p 142 then some (88, 2, 2, 1, 0, 11) else none)) else (bif Nat.beq p 138 then some (71, 3, 1, 0, 0, 0) else none)) else (bif Nat.ble 134 p then (bif Nat.beq p 134 then some (19, 2, 3, 2, 0, 5) else none) else (bif Nat.beq p 130 then some (87, 2, 2, 4, 1, 11) else none))) else (bif Nat.ble 125 p then (bif Nat.ble 127 p then (bif Nat.beq p 127 then some (42, 1, 1, 0, 0, 8) else none) else (bif Nat.beq p 125 then some (59, 2, 0, 0, 0, 10) else none)) else (bif Nat.ble 121 p then (bif Nat.beq p 121 then some (69, 1, 1, 0, 0, 11) else none) else (bif Nat.beq p 108 then some (86, 2, 2, 1, 1, 11) else none))))) else (bif Nat.ble 77 p then (bif Nat.ble 91 p then (bif Nat.ble 97 p then (bif Nat.ble 98 p then (bif Nat.ble 104 p then (bif Nat.beq p 104 then some (39, 4, 0, 0, 0, 7) else none) else (bif Nat.beq p 98 then some (136, 2, 1, 0, 0, 0) else none)) else (bif Nat.beq p 97 then some (33, 1, 0, 0, 0, 7) else none)) else (bif Nat.ble 94 p then (bif Nat.beq p 94 then some (34, 2, 0, 0, 0, 7) else none) else (bif Nat.beq p 91 then some (37, 2, 1, 0, 0, 7) else none))) else (bif Nat.ble 79 p then (bif Nat.ble 80 p then (bif Nat.ble 84 p then (bif Nat.beq p 84 then some (64, 2, 0, 0, 0, 11) else none) else (bif Nat.beq p 80 then some (35, 2, 1, 0, 0, 7) else none)) else (bif Nat.beq p 79 then some (14, 1, 0, 0, 0, 4) else none)) else (bif Nat.ble 78 p then (bif Nat.beq p 78 then some (4, 1, 0, 0, 0, 2) else none) else (bif Nat.beq p 77 then some (18, 1, 0, 0, 0, 5) else none)))) else (bif Nat.ble 49 p then (bif Nat.ble 66 p then (bif Nat.ble 70 p then (bif Nat.ble 74 p then (bif Nat.beq p 74 then some (58, 1, 0, 0, 0, 10) else none) else (bif Nat.beq p 70 then some (53, 6, 0, 0, 0, 9) else none)) else (bif Nat.beq p 66 then some (51, 5, 1, 0, 0, 0) else none)) else (bif Nat.ble 61 p then (bif Nat.beq p 61 then some (13, 1, 0, 0, 0, 4) else none) else (bif Nat.beq p 49 then some (32, 2, 0, 0, 0, 7) else none))) else (bif Nat.ble 25 p then (bif Nat.ble 37 p then (bif Nat.beq p 37 then some (3, 4, 0, 0, 0, 2) else none) else (bif Nat.beq p 25 then some (17, 2, 0, 0, 0, 5) else none)) else (bif Nat.ble 18 p then (bif Nat.beq p 18 then some (57, 1, 0, 0, 0, 10) else none) else (bif Nat.beq p 11 then some (50, 1, 0, 0, 0, 9) else none)))))
def nw_X10 (p : Nat) : Option Nat := bif Nat.ble 35 p then (bif Nat.ble 47 p then (bif Nat.ble 59 p then (bif Nat.beq p 59 then some 3 else none) else (bif Nat.beq p 47 then some 6 else none)) else (bif Nat.beq p 35 then some 1 else none)) else (bif Nat.ble 16 p then (bif Nat.ble 23 p then (bif Nat.beq p 23 then some 4 else none) else (bif Nat.beq p 16 then some 9 else none)) else (bif Nat.beq p 9 then some 8 else none))
def fl_X11 (p : Nat) : Option (Nat × Nat) := bif Nat.ble 78 p then (bif Nat.ble 112 p then (bif Nat.ble 127 p then (bif Nat.ble 136 p then (bif Nat.ble 139 p then (bif Nat.ble 142 p then (bif Nat.beq p 142 then some (11, 43) else none) else (bif Nat.beq p 139 then some (11, 42) else none)) else (bif Nat.beq p 136 then some (11, 41) else none)) else (bif Nat.ble 130 p then (bif Nat.ble 133 p then (bif Nat.beq p 133 then some (11, 40) else none) else (bif Nat.beq p 130 then some (11, 39) else none)) else (bif Nat.beq p 127 then some (11, 38) else none))) else (bif Nat.ble 118 p then (bif Nat.ble 121 p then (bif Nat.ble 124 p then (bif Nat.beq p 124 then some (11, 37) else none) else (bif Nat.beq p 121 then some (11, 36) else none)) else (bif Nat.beq p 118 then some (11, 35) else none)) else (bif Nat.ble 115 p then (bif Nat.beq p 115 then some (11, 34) else none) else (bif Nat.beq p 112 then some (11, 33) else none)))) else (bif Nat.ble 94 p then (bif Nat.ble 103 p then (bif Nat.ble 106 p then (bif Nat.ble 109 p then (bif Nat.beq p 109 then some (11, 32) else none) else (bif Nat.beq p 106 then some (11, 31) else none)) else (bif Nat.beq p 103 then some (11, 30) else none)) else (bif Nat.ble 97 p then (bif Nat.ble 100 p then (bif Nat.beq p 100 then some (11, 29) else none) else (bif Nat.beq p 97 then some (11, 28) else none)) else (bif Nat.beq p 94 then some (11, 27) else none))) else (bif Nat.ble 84 p then (bif Nat.ble 87 p then (bif Nat.ble 91 p then (bif Nat.beq p 91 then some (11, 26) else none) else (bif Nat.beq p 87 then some (11, 25) else none)) else (bif Nat.beq p 84 then some (11, 24) else none)) else (bif Nat.ble 81 p then (bif Nat.beq p 81 then some (11, 23) else none) else (bif Nat.beq p 78 then some (11, 22) else none))))) else (bif Nat.ble 45 p then (bif Nat.ble 60 p then (bif Nat.ble 69 p then (bif Nat.ble 72 p then (bif Nat.ble 75 p then (bif Nat.beq p 75 then some (11, 21) else none) else (bif Nat.beq p 72 then some (11, 20) else none)) else (bif Nat.beq p 69 then some (11, 19) else none)) else (bif Nat.ble 63 p then (bif Nat.ble 66 p then (bif Nat.beq p 66 then some (11, 18) else none) else (bif Nat.beq p 63 then some (11, 17) else none)) else (bif Nat.beq p 60 then some (11, 16) else none))) else (bif Nat.ble 51 p then (bif Nat.ble 54 p then (bif Nat.ble 57 p then (bif Nat.beq p 57 then some (11, 15) else none) else (bif Nat.beq p 54 then some (11, 14) else none)) else (bif Nat.beq p 51 then some (11, 13) else none)) else (bif Nat.ble 48 p then (bif Nat.beq p 48 then some (11, 12) else none) else (bif Nat.beq p 45 then some (11, 11) else none)))) else (bif Nat.ble 26 p then (bif Nat.ble 36 p then (bif Nat.ble 39 p then (bif Nat.ble 42 p then (bif Nat.beq p 42 then some (11, 10) else none) else (bif Nat.beq p 39 then some (11, 9) else none)) else (bif Nat.beq p 36 then some (11, 8) else none)) else (bif Nat.ble 30 p then (bif Nat.ble 33 p then (bif Nat.beq p 33 then some (11, 7) else none) else (bif Nat.beq p 30 then some (11, 6) else none)) else (bif Nat.beq p 26 then some (11, 5) else none))) else (bif Nat.ble 17 p then (bif Nat.ble 20 p then (bif Nat.ble 23 p then (bif Nat.beq p 23 then some (11, 4) else none) else (bif Nat.beq p 20 then some (11, 3) else none)) else (bif Nat.beq p 17 then some (11, 2) else none)) else (bif Nat.ble 13 p then (bif Nat.beq p 13 then some (11, 1) else none) else (bif Nat.beq p 7 then some (11, 0) else none)))))
def pf_X11 (p : Nat) : Option (Nat × Nat × Nat) := bif Nat.ble 39 p then (bif Nat.ble 45 p then (bif Nat.ble 48 p then (bif Nat.ble 51 p then (bif Nat.beq p 51 then some (11, 13, 0) else none) else (bif Nat.beq p 48 then some (11, 12, 0) else none)) else (bif Nat.beq p 45 then some (11, 11, 0) else none)) else (bif Nat.ble 42 p then (bif Nat.beq p 42 then some (11, 10, 0) else none) else (bif Nat.beq p 39 then some (11, 9, 0) else none))) else (bif Nat.ble 23 p then (bif Nat.ble 30 p then (bif Nat.ble 33 p then (bif Nat.beq p 33 then some (11, 7, 0) else none) else (bif Nat.beq p 30 then some (11, 6, 0) else none)) else (bif Nat.beq p 23 then some (11, 4, 0) else none)) else (bif Nat.ble 17 p then (bif Nat.beq p 17 then some (11, 2, 0) else none) else (bif Nat.beq p 7 then some (11, 0, 0) else none)))
def pi_X11 (p : Nat) : Option (Nat × Nat × Nat) := bif Nat.ble 78 p then (bif Nat.ble 112 p then (bif Nat.ble 127 p then (bif Nat.ble 136 p then (bif Nat.ble 139 p then (bif Nat.ble 142 p then (bif Nat.beq p 142 then some (11, 43, 2) else none) else (bif Nat.beq p 139 then some (11, 42, 2) else none)) else (bif Nat.beq p 136 then some (11, 41, 2) else none)) else (bif Nat.ble 130 p then (bif Nat.ble 133 p then (bif Nat.beq p 133 then some (11, 40, 2) else none) else (bif Nat.beq p 130 then some (11, 39, 2) else none)) else (bif Nat.beq p 127 then some (11, 38, 2) else none))) else (bif Nat.ble 118 p then (bif Nat.ble 121 p then (bif Nat.ble 124 p then (bif Nat.beq p 124 then some (11, 37, 2) else none) else (bif Nat.beq p 121 then some (11, 36, 2) else none)) else (bif Nat.beq p 118 then some (11, 35, 2) else none)) else (bif Nat.ble 115 p then (bif Nat.beq p 115 then some (11, 34, 2) else none) else (bif Nat.beq p 112 then some (11, 33, 2) else none)))) else (bif Nat.ble 94 p then (bif Nat.ble 103 p then (bif Nat.ble 106 p then (bif Nat.ble 109 p then (bif Nat.beq p 109 then some (11, 32, 2) else none) else (bif Nat.beq p 106 then some (11, 31, 2) else none)) else (bif Nat.beq p 103 then some (11, 30, 2) else none)) else (bif Nat.ble 97 p then (bif Nat.ble 100 p then (bif Nat.beq p 100 then some (11, 29, 2) else none) else (bif Nat.beq p 97 then some (11, 28, 2) else none)) else (bif Nat.beq p 94 then some (11, 27, 2) else none))) else (bif Nat.ble 84 p then (bif Nat.ble 87 p then (bif Nat.ble 91 p then (bif Nat.beq p 91 then some (11, 26, 2) else none) else (bif Nat.beq p 87 then some (11, 25, 2) else none)) else (bif Nat.beq p 84 then some (11, 24, 2) else none)) else (bif Nat.ble 81 p then (bif Nat.beq p 81 then some (11, 23, 2) else none) else (bif Nat.beq p 78 then some (11, 22, 2) else none))))) else (bif Nat.ble 45 p then (bif Nat.ble 60 p then (bif Nat.ble 69 p then (bif Nat.ble 72 p then (bif Nat.ble 75 p then (bif Nat.beq p 75 then some (11, 21, 2) else none) else (bif Nat.beq p 72 then some (11, 20, 2) else none)) else (bif Nat.beq p 69 then some (11, 19, 2) else none)) else (bif Nat.ble 63 p then (bif Nat.ble 66 p then (bif Nat.beq p 66 then some (11, 18, 2) else none) else (bif Nat.beq p 63 then some (11, 17, 2) else none)) else (bif Nat.beq p 60 then some (11, 16, 2) else none))) else (bif Nat.ble 51 p then (bif Nat.ble 54 p then (bif Nat.ble 57 p then (bif Nat.beq p 57 then some (11, 15, 2) else none) else (bif Nat.beq p 54 then some (11, 14, 2) else none)) else (bif Nat.beq p 51 then some (11, 13, 0) else none)) else (bif Nat.ble 48 p then (bif Nat.beq p 48 then some (11, 12, 0) else none) else (bif Nat.beq p 45 then some (11, 11, 0) else none)))) else (bif Nat.ble 26 p then (bif Nat.ble 36 p then (bif Nat.ble 39 p then (bif Nat.ble 42 p then (bif Nat.beq p 42 then some (11, 10, 0) else none) else (bif Nat.beq p 39 then some (11, 9, 0) else none)) else (bif Nat.beq p 36 then some (11, 8, 2) else none)) else (bif Nat.ble 30 p then (bif Nat.ble 33 p then (bif Nat.beq p 33 then some (11, 7, 0) else none) else (bif Nat.beq p 30 then some (11, 6, 0) else none)) else (bif Nat.beq p 26 then some (11, 5, 2) else none))) else (bif Nat.ble 17 p then (bif Nat.ble 20 p then (bif Nat.ble 23 p then (bif Nat.beq p 23 then some (11, 4, 0) else none) else (bif Nat.beq p 20 then some (11, 3, 2) else none)) else (bif Nat.beq p 17 then some (11, 2, 0) else none)) else (bif Nat.ble 13 p then (bif Nat.beq p 13 then some (11, 1, 2) else none) else (bif Nat.beq p 7 then some (11, 0, 0) else none)))))
def cl_X11 (p : Nat) : Option sl_C := bif Nat.ble 187 p then (bif Nat.ble 207 p then (bif Nat.ble 217 p then (bif Nat.ble 221 p then (bif Nat.ble 225 p then (bif Nat.beq p 225 then some (127, 3, 1, 0, 0, 12) else none) else (bif Nat.beq p 221 then some (122, 5, 0, 0, 0, 12) else none)) else (bif Nat.beq p 217 then some (123, 3, 1, 0, 0, 12) else none)) else (bif Nat.ble 210 p then (bif Nat.ble 214 p then (bif Nat.beq p 214 then some (120, 4, 0, 0, 0, 12) else none) else (bif Nat.beq p 210 then some (115, 3, 0, 0, 0, 12) else none)) else (bif Nat.beq p 207 then some (121, 2, 1, 0, 0, 12) else none))) else (bif Nat.ble 197 p then (bif Nat.ble 200 p then (bif Nat.ble 204 p then (bif Nat.beq p 204 then some (110, 2, 0, 0, 0, 12) else none) else (bif Nat.beq p 200 then some (116, 5, 1, 0, 0, 12) else none)) else (bif Nat.beq p 197 then some (118, 4, 0, 0, 0, 12) else none)) else (bif Nat.ble 190 p then (bif Nat.ble 194 p then (bif Nat.beq p 194 then some (117, 4, 0, 0, 0, 12) else none) else (bif Nat.beq p 190 then some (119, 4, 0, 0, 0, 12) else none)) else (bif Nat.beq p 187 then some (114, 2, 0, 0, 0, 12) else none)))) else (bif Nat.ble 165 p then (bif Nat.ble 177 p then (bif Nat.ble 180 p then (bif Nat.ble 184 p then (bif Nat.beq p 184 then some (112, 1, 1, 0, 0, 12) else none) else (bif Nat.beq p 180 then some (111, 2, 0, 0, 0, 12) else none)) else (bif Nat.beq p 177 then some (108, 4, 0, 0, 0, 12) else none)) else (bif Nat.ble 169 p then (bif Nat.ble 173 p then (bif Nat.beq p 173 then some (109, 1, 1, 0, 0, 12) else none) else (bif Nat.beq p 169 then some (107, 4, 0, 0, 0, 12) else none)) else (bif Nat.beq p 165 then some (91, 2, 1, 0, 0, 12) else none))) else (bif Nat.ble 153 p then (bif Nat.ble 157 p then (bif Nat.ble 161 p then (bif Nat.beq p 161 then some (98, 4, 1, 0, 0, 12) else none) else (bif Nat.beq p 157 then some (97, 4, 1, 0, 0, 0) else none)) else (bif Nat.beq p 153 then some (99, 3, 1, 0, 0, 12) else none)) else (bif Nat.ble 149 p then (bif Nat.beq p 149 then some (95, 4, 1, 0, 0, 12) else none) else (bif Nat.beq p 146 then some (104, 1, 0, 0, 0, 12) else none))))
def nw_X11 (p : Nat) : Option Nat := none
def fl_X2 (p : Nat) : Option (Nat × Nat) := bif Nat.beq p 14 then some (2, 0) else none
def pf_X2 (p : Nat) : Option (Nat × Nat × Nat) := none
def pi_X2 (p : Nat) : Option (Nat × Nat × Nat) := bif Nat.beq p 14 then some (2, 0, 2) else none
def cl_X2 (p : Nat) : Option sl_C := bif Nat.beq p 11 then some (32, 2, 0, 0, 0, 7) else none
def nw_X2 (p : Nat) : Option Nat := bif Nat.beq p 9 then some 6 else none
def fl_X3 (p : Nat) : Option (Nat × Nat) := bif Nat.ble 15 p then (bif Nat.ble 21 p then (bif Nat.beq p 21 then some (6, 1) else none) else (bif Nat.beq p 15 then some (3, 0) else none)) else (bif Nat.beq p 9 then some (3, 1) else none)
def pf_X3 (p : Nat) : Option (Nat × Nat × Nat) := bif Nat.ble 15 p then (bif Nat.ble 21 p then (bif Nat.beq p 21 then some (6, 1, 0) else none) else (bif Nat.beq p 15 then some (3, 0, 0) else none)) else (bif Nat.beq p 9 then some (3, 1, 0) else none)
def pi_X3 (p : Nat) : Option (Nat × Nat × Nat) := bif Nat.ble 15 p then (bif Nat.ble 21 p then (bif Nat.beq p 21 then some (6, 1, 0) else none) else (bif Nat.beq p 15 then some (3, 0, 0) else none)) else (bif Nat.beq p 9 then some (3, 1, 0) else none)
def cl_X3 (p : Nat) : Option sl_C := bif Nat.ble 26 p then (bif Nat.ble 30 p then (bif Nat.beq p 30 then some (16, 3, 1, 0, 0, 4) else none) else (bif Nat.beq p 26 then some (36, 2, 1, 0, 0, 7) else none)) else (bif Nat.beq p 18 then some (14, 1, 0, 0, 0, 4) else none)
def nw_X3 (p : Nat) : Option Nat := none
def fl_X4 (p : Nat) : Option (Nat × Nat) := bif Nat.ble 63 p then (bif Nat.ble 72 p then (bif Nat.ble 75 p then (bif Nat.ble 85 p then (bif Nat.beq p 85 then some (2, 0) else none) else (bif Nat.beq p 75 then some (2, 4) else none)) else (bif Nat.beq p 72 then some (2, 3) else none)) else (bif Nat.ble 66 p then (bif Nat.ble 69 p then (bif Nat.beq p 69 then some (6, 1) else none) else (bif Nat.beq p 66 then some (2, 2) else none)) else (bif Nat.beq p 63 then some (2, 1) else none))) else (bif Nat.ble 26 p then (bif Nat.ble 31 p then (bif Nat.ble 35 p then (bif Nat.beq p 35 then some (4, 4) else none) else (bif Nat.beq p 31 then some (4, 3) else none)) else (bif Nat.beq p 26 then some (4, 0) else none)) else (bif Nat.ble 22 p then (bif Nat.beq p 22 then some (4, 2) else none) else (bif Nat.beq p 11 then some (4, 1) else none)))
def pf_X4 (p : Nat) : Option (Nat × Nat × Nat) := bif Nat.ble 66 p then (bif Nat.ble 72 p then (bif Nat.ble 75 p then (bif Nat.beq p 75 then some (2, 4, 1) else none) else (bif Nat.beq p 72 then some (2, 3, 0) else none)) else (bif Nat.ble 69 p then (bif Nat.beq p 69 then some (6, 1, 0) else none) else (bif Nat.beq p 66 then some (2, 2, 0) else none))) else (bif Nat.ble 35 p then (bif Nat.ble 63 p then (bif Nat.beq p 63 then some (2, 1, 0) else none) else (bif Nat.beq p 35 then some (4, 4, 0) else none)) else (bif Nat.beq p 31 then some (4, 3, 0) else none))
def pi_X4 (p : Nat) : Option (Nat × Nat × Nat) := bif Nat.ble 63 p then (bif Nat.ble 69 p then (bif Nat.ble 72 p then (bif Nat.ble 75 p then (bif Nat.beq p 75 then some (2, 4, 1) else none) else (bif Nat.beq p 72 then some (2, 3, 0) else none)) else (bif Nat.beq p 69 then some (6, 1, 0) else none)) else (bif Nat.ble 66 p then (bif Nat.beq p 66 then some (2, 2, 0) else none) else (bif Nat.beq p 63 then some (2, 1, 0) else none))) else (bif Nat.ble 26 p then (bif Nat.ble 31 p then (bif Nat.ble 35 p then (bif Nat.beq p 35 then some (4, 4, 0) else none) else (bif Nat.beq p 31 then some (4, 3, 0) else none)) else (bif Nat.beq p 26 then some (4, 0, 2) else none)) else (bif Nat.ble 22 p then (bif Nat.beq p 22 then some (4, 2, 2) else none) else (bif Nat.beq p 11 then some (4, 1, 2) else none)))
def cl_X4 (p : Nat) : Option sl_C := bif Nat.ble 51 p then (bif Nat.ble 59 p then (bif Nat.ble 79 p then (bif Nat.ble 88 p then (bif Nat.beq p 88 then some (1, 2, 0, 0, 0, 0) else none) else (bif Nat.beq p 79 then some (0, 2, 1, 0, 0, 0) else none)) else (bif Nat.beq p 59 then some (36, 2, 1, 0, 0, 7) else none)) else (bif Nat.ble 55 p then (bif Nat.beq p 55 then some (59, 2, 0, 0, 0, 10) else none) else (bif Nat.beq p 51 then some (37, 2, 1, 0, 0, 7) else none))) else (bif Nat.ble 38 p then (bif Nat.ble 42 p then (bif Nat.ble 48 p then (bif Nat.beq p 48 then some (33, 1, 0, 0, 0, 7) else none) else (bif Nat.beq p 42 then some (134, 2, 1, 0, 0, 0) else none)) else (bif Nat.beq p 38 then some (20, 2, 3, 2, 0, 5) else none)) else (bif Nat.ble 30 p then (bif Nat.beq p 30 then some (12, 1, 0, 0, 0, 3) else none) else (bif Nat.beq p 19 then some (32, 2, 0, 0, 0, 7) else none)))
def nw_X4 (p : Nat) : Option Nat := bif Nat.ble 17 p then (bif Nat.beq p 17 then some 6 else none) else (bif Nat.beq p 9 then some 2 else none)
def fl_X5 (p : Nat) : Option (Nat × Nat) := bif Nat.ble 31 p then (bif Nat.ble 39 p then (bif Nat.ble 46 p then (bif Nat.ble 85 p then (bif Nat.beq p 85 then some (8, 2) else none) else (bif Nat.beq p 46 then some (5, 4) else none)) else (bif Nat.beq p 39 then some (6, 1) else none)) else (bif Nat.ble 35 p then (bif Nat.beq p 35 then some (5, 2) else none) else (bif Nat.beq p 31 then some (5, 1) else none))) else (bif Nat.ble 24 p then (bif Nat.ble 27 p then (bif Nat.beq p 27 then some (5, 0) else none) else (bif Nat.beq p 24 then some (5, 6) else none)) else (bif Nat.ble 20 p then (bif Nat.beq p 20 then some (5, 5) else none) else (bif Nat.beq p 14 then some (5, 3) else none)))
def pf_X5 (p : Nat) : Option (Nat × Nat × Nat) := bif Nat.ble 46 p then (bif Nat.ble 85 p then (bif Nat.beq p 85 then some (8, 2, 0) else none) else (bif Nat.beq p 46 then some (5, 4, 0) else none)) else (bif Nat.beq p 39 then some (6, 1, 0) else none)
def pi_X5 (p : Nat) : Option (Nat × Nat × Nat) := bif Nat.ble 31 p then (bif Nat.ble 39 p then (bif Nat.ble 46 p then (bif Nat.ble 85 p then (bif Nat.beq p 85 then some (8, 2, 0) else none) else (bif Nat.beq p 46 then some (5, 4, 0) else none)) else (bif Nat.beq p 39 then some (6, 1, 0) else none)) else (bif Nat.ble 35 p then (bif Nat.beq p 35 then some (5, 2, 2) else none) else (bif Nat.beq p 31 then some (5, 1, 2) else none))) else (bif Nat.ble 24 p then (bif Nat.ble 27 p then (bif Nat.beq p 27 then some (5, 0, 2) else none) else (bif Nat.beq p 24 then some (5, 6, 2) else none)) else (bif Nat.ble 20 p then (bif Nat.beq p 20 then some (5, 5, 2) else none) else (bif Nat.beq p 14 then some (5, 3, 2) else none)))
def cl_X5 (p : Nat) : Option sl_C := bif Nat.ble 76 p then (bif Nat.ble 95 p then (bif Nat.ble 105 p then (bif Nat.ble 108 p then (bif Nat.ble 110 p then (bif Nat.beq p 110 then some (23, 2, 0, 0, 0, 5) else none) else (bif Nat.beq p 108 then some (37, 2, 1, 0, 0, 7) else none)) else (bif Nat.beq p 105 then some (30, 2, 1, 0, 0, 6) else none)) else (bif Nat.ble 101 p then (bif Nat.beq p 101 then some (56, 1, 1, 0, 0, 9) else none) else (bif Nat.beq p 95 then some (22, 3, 2, 6, 0, 5) else none))) else (bif Nat.ble 88 p then (bif Nat.ble 91 p then (bif Nat.beq p 91 then some (38, 3, 0, 0, 0, 7) else none) else (bif Nat.beq p 88 then some (36, 2, 1, 0, 0, 7) else none)) else (bif Nat.ble 81 p then (bif Nat.beq p 81 then some (39, 4, 0, 0, 0, 7) else none) else (bif Nat.beq p 76 then some (59, 2, 0, 0, 0, 10) else none)))) else (bif Nat.ble 61 p then (bif Nat.ble 69 p then (bif Nat.ble 72 p then (bif Nat.beq p 72 then some (35, 2, 1, 0, 0, 7) else none) else (bif Nat.beq p 69 then some (28, 1, 0, 0, 0, 6) else none)) else (bif Nat.ble 65 p then (bif Nat.beq p 65 then some (27, 4, 0, 0, 0, 6) else none) else (bif Nat.beq p 61 then some (54, 1, 1, 0, 0, 9) else none))) else (bif Nat.ble 49 p then (bif Nat.ble 55 p then (bif Nat.beq p 55 then some (55, 2, 1, 0, 0, 9) else none) else (bif Nat.beq p 49 then some (137, 2, 0, 0, 0, 0) else none)) else (bif Nat.ble 43 p then (bif Nat.beq p 43 then some (33, 1, 0, 0, 0, 7) else none) else (bif Nat.beq p 11 then some (32, 2, 0, 0, 0, 7) else none))))
def nw_X5 (p : Nat) : Option Nat := bif Nat.beq p 9 then some 6 else none
def fl_X6 (p : Nat) : Option (Nat × Nat) := bif Nat.ble 15 p then (bif Nat.beq p 15 then some (6, 1) else none) else (bif Nat.beq p 9 then some (6, 0) else none)
def pf_X6 (p : Nat) : Option (Nat × Nat × Nat) := bif Nat.beq p 15 then some (6, 1, 0) else none
def pi_X6 (p : Nat) : Option (Nat × Nat × Nat) := bif Nat.ble 15 p then (bif Nat.beq p 15 then some (6, 1, 0) else none) else (bif Nat.beq p 9 then some (6, 0, 2) else none)
def cl_X6 (p : Nat) : Option sl_C := bif Nat.ble 28 p then (bif Nat.ble 32 p then (bif Nat.beq p 32 then some (37, 2, 1, 0, 0, 7) else none) else (bif Nat.beq p 28 then some (36, 2, 1, 0, 0, 7) else none)) else (bif Nat.ble 25 p then (bif Nat.beq p 25 then some (135, 2, 1, 0, 0, 0) else none) else (bif Nat.beq p 19 then some (136, 2, 1, 0, 0, 0) else none))
def nw_X6 (p : Nat) : Option Nat := none
def fl_X7 (p : Nat) : Option (Nat × Nat) := bif Nat.ble 49 p then (bif Nat.ble 62 p then (bif Nat.ble 81 p then (bif Nat.ble 87 p then (bif Nat.ble 94 p then (bif Nat.beq p 94 then some (8, 3) else none) else (bif Nat.beq p 87 then some (8, 4) else none)) else (bif Nat.beq p 81 then some (6, 1) else none)) else (bif Nat.ble 78 p then (bif Nat.beq p 78 then some (8, 2) else none) else (bif Nat.beq p 62 then some (7, 8) else none))) else (bif Nat.ble 56 p then (bif Nat.ble 59 p then (bif Nat.beq p 59 then some (7, 7) else none) else (bif Nat.beq p 56 then some (7, 6) else none)) else (bif Nat.ble 53 p then (bif Nat.beq p 53 then some (7, 5) else none) else (bif Nat.beq p 49 then some (7, 4) else none)))) else (bif Nat.ble 30 p then (bif Nat.ble 38 p then (bif Nat.ble 42 p then (bif Nat.beq p 42 then some (7, 2) else none) else (bif Nat.beq p 38 then some (7, 1) else none)) else (bif Nat.ble 34 p then (bif Nat.beq p 34 then some (7, 0) else none) else (bif Nat.beq p 30 then some (7, 12) else none))) else (bif Nat.ble 24 p then (bif Nat.ble 27 p then (bif Nat.beq p 27 then some (7, 11) else none) else (bif Nat.beq p 24 then some (7, 10) else none)) else (bif Nat.ble 20 p then (bif Nat.beq p 20 then some (7, 9) else none) else (bif Nat.beq p 14 then some (7, 3) else none))))
def pf_X7 (p : Nat) : Option (Nat × Nat × Nat) := bif Nat.ble 62 p then (bif Nat.ble 81 p then (bif Nat.ble 87 p then (bif Nat.ble 94 p then (bif Nat.beq p 94 then some (8, 3, 0) else none) else (bif Nat.beq p 87 then some (8, 4, 0) else none)) else (bif Nat.beq p 81 then some (6, 1, 0) else none)) else (bif Nat.ble 78 p then (bif Nat.beq p 78 then some (8, 2, 0) else none) else (bif Nat.beq p 62 then some (7, 8, 0) else none))) else (bif Nat.ble 56 p then (bif Nat.ble 59 p then (bif Nat.beq p 59 then some (7, 7, 0) else none) else (bif Nat.beq p 56 then some (7, 6, 0) else none)) else (bif Nat.ble 53 p then (bif Nat.beq p 53 then some (7, 5, 0) else none) else (bif Nat.beq p 49 then some (7, 4, 0) else none)))
def pi_X7 (p : Nat) : Option (Nat × Nat × Nat) := bif Nat.ble 49 p then (bif Nat.ble 62 p then (bif Nat.ble 81 p then (bif Nat.ble 87 p then (bif Nat.ble 94 p then (bif Nat.beq p 94 then some (8, 3, 0) else none) else (bif Nat.beq p 87 then some (8, 4, 0) else none)) else (bif Nat.beq p 81 then some (6, 1, 0) else none)) else (bif Nat.ble 78 p then (bif Nat.beq p 78 then some (8, 2, 0) else none) else (bif Nat.beq p 62 then some (7, 8, 0) else none))) else (bif Nat.ble 56 p then (bif Nat.ble 59 p then (bif Nat.beq p 59 then some (7, 7, 0) else none) else (bif Nat.beq p 56 then some (7, 6, 0) else none)) else (bif Nat.ble 53 p then (bif Nat.beq p 53 then some (7, 5, 0) else none) else (bif Nat.beq p 49 then some (7, 4, 0) else none)))) else (bif Nat.ble 30 p then (bif Nat.ble 38 p then (bif Nat.ble 42 p then (bif Nat.beq p 42 then some (7, 2, 2) else none) else (bif Nat.beq p 38 then some (7, 1, 2) else none)) else (bif Nat.ble 34 p then (bif Nat.beq p 34 then some (7, 0, 2) else none) else (bif Nat.beq p 30 then some (7, 12, 2) else none))) else (bif Nat.ble 24 p then (bif Nat.ble 27 p then (bif Nat.beq p 27 then some (7, 11, 2) else none) else (bif Nat.beq p 24 then some (7, 10, 2) else none)) else (bif Nat.ble 20 p then (bif Nat.beq p 20 then some (7, 9, 2) else none) else (bif Nat.beq p 14 then some (7, 3, 2) else none))))
def cl_X7 (p : Nat) : Option sl_C := bif Nat.ble 97 p then (bif Nat.ble 117 p then (bif Nat.ble 126 p then (bif Nat.ble 130 p then (bif Nat.beq p 130 then some (36, 2, 1, 0, 0, 7) else none) else (bif Nat.beq p 126 then some (48, 2, 0, 0, 0, 8) else none)) else (bif Nat.ble 121 p then (bif Nat.beq p 121 then some (59, 2, 0, 0, 0, 10) else none) else (bif Nat.beq p 117 then some (23, 2, 0, 0, 0, 5) else none))) else (bif Nat.ble 107 p then (bif Nat.ble 113 p then (bif Nat.beq p 113 then some (39, 4, 0, 0, 0, 7) else none) else (bif Nat.beq p 107 then some (22, 3, 2, 6, 0, 5) else none)) else (bif Nat.ble 103 p then (bif Nat.beq p 103 then some (55, 2, 1, 0, 0, 9) else none) else (bif Nat.beq p 97 then some (136, 2, 1, 0, 0, 0) else none)))) else (bif Nat.ble 71 p then (bif Nat.ble 84 p then (bif Nat.ble 90 p then (bif Nat.beq p 90 then some (46, 3, 0, 0, 0, 8) else none) else (bif Nat.beq p 84 then some (45, 1, 0, 0, 0, 8) else none)) else (bif Nat.ble 75 p then (bif Nat.beq p 75 then some (43, 1, 1, 0, 0, 8) else none) else (bif Nat.beq p 71 then some (44, 1, 1, 0, 0, 8) else none))) else (bif Nat.ble 46 p then (bif Nat.ble 65 p then (bif Nat.beq p 65 then some (54, 1, 1, 0, 0, 9) else none) else (bif Nat.beq p 46 then some (33, 1, 0, 0, 0, 7) else none)) else (bif Nat.beq p 11 then some (32, 2, 0, 0, 0, 7) else none)))
def nw_X7 (p : Nat) : Option Nat := bif Nat.beq p 9 then some 6 else none
def fl_X8 (p : Nat) : Option (Nat × Nat) := bif Nat.ble 18 p then (bif Nat.ble 21 p then (bif Nat.ble 24 p then (bif Nat.beq p 24 then some (8, 4) else none) else (bif Nat.beq p 21 then some (8, 3) else none)) else (bif Nat.beq p 18 then some (8, 2) else none)) else (bif Nat.ble 15 p then (bif Nat.beq p 15 then some (8, 1) else none) else (bif Nat.beq p 9 then some (8, 0) else none))
def pf_X8 (p : Nat) : Option (Nat × Nat × Nat) := bif Nat.ble 18 p then (bif Nat.ble 21 p then (bif Nat.ble 24 p then (bif Nat.beq p 24 then some (8, 4, 0) else none) else (bif Nat.beq p 21 then some (8, 3, 0) else none)) else (bif Nat.beq p 18 then some (8, 2, 0) else none)) else (bif Nat.ble 15 p then (bif Nat.beq p 15 then some (8, 1, 0) else none) else (bif Nat.beq p 9 then some (8, 0, 0) else none))
def pi_X8 (p : Nat) : Option (Nat × Nat × Nat) := bif Nat.ble 18 p then (bif Nat.ble 21 p then (bif Nat.ble 24 p then (bif Nat.beq p 24 then some (8, 4, 0) else none) else (bif Nat.beq p 21 then some (8, 3, 0) else none)) else (bif Nat.beq p 18 then some (8, 2, 0) else none)) else (bif Nat.ble 15 p then (bif Nat.beq p 15 then some (8, 1, 0) else none) else (bif Nat.beq p 9 then some (8, 0, 0) else none))
def cl_X8 (p : Nat) : Option sl_C := bif Nat.ble 31 p then (bif Nat.ble 36 p then (bif Nat.beq p 36 then some (54, 1, 1, 0, 0, 9) else none) else (bif Nat.beq p 31 then some (134, 2, 1, 0, 0, 0) else none)) else (bif Nat.beq p 27 then some (52, 2, 1, 0, 0, 0) else none)
def nw_X8 (p : Nat) : Option Nat := none
def fl_X9 (p : Nat) : Option (Nat × Nat) := bif Nat.beq p 9 then some (9, 0) else none
def pf_X9 (p : Nat) : Option (Nat × Nat × Nat) := none
def pi_X9 (p : Nat) : Option (Nat × Nat × Nat) := bif Nat.beq p 9 then some (9, 0, 2) else none
def cl_X9 (p : Nat) : Option sl_C := bif Nat.beq p 15 then some (137, 2, 0, 0, 0, 0) else none
def nw_X9 (p : Nat) : Option Nat := none
end
section
/-! ===== the cells, in the order in which they are made ===== -/
def sl_ct (c : Nat) : Nat := match c with
  | 1 => 2
  | 2 => 80
  | 3 => 3
  | 4 => 2
  | 5 => 2
  | 6 => 94
  | 7 => 2
  | 8 => 1
  | 9 => 1
  | 10 => 1
  | 11 => 1
  | 20 => 94
  | 22 => 2
  | 23 => 2
  | 24 => 2
  | 25 => 2
  | 26 => 2
  | 27 => 3
  | 30 => 11
  | 40 => 1
  | 41 => 1
  | 50 => 1
  | 51 => 1
  | 52 => 1
  | 53 => 1
  | 54 => 1
  | 55 => 1
  | 56 => 1
  | 57 => 1
  | 58 => 1
  | 59 => 1
  | 60 => 1
  | 61 => 1
  | 62 => 1
  | 63 => 1
  | 64 => 1
  | 65 => 1
  | 66 => 1
  | 67 => 1
  | 68 => 1
  | 70 => 1
  | 71 => 1
  | 72 => 1
  | 73 => 1
  | _ => 0
def sl_o2 (i : Nat) : Nat := bif Nat.ble 40 i then 12 + 3 * i else 8 + 3 * i
def sl_o6 (i : Nat) : Nat := match i with
  | 0 => 290
  | 1 => 292
  | 2 => 6
  | 3 => 130
  | 4 => 259
  | 5 => 278
  | 6 => 266
  | 7 => 285
  | 8 => 269
  | 9 => 288
  | 10 => 253
  | 11 => 272
  | 12 => 255
  | 13 => 274
  | i => sl_o2 (i - 14) + 1
def sl_od (c i : Nat) : Nat := match c with
  | 1 => bif Nat.ble 1 i then (bif Nat.beq i 1 then 271 else 0) else (bif Nat.beq i 0 then 252 else 0)
  | 2 => sl_o2 i
  | 3 => bif Nat.ble 1 i then (bif Nat.ble 2 i then (bif Nat.beq i 2 then 276 else 0) else (bif Nat.beq i 1 then 257 else 0)) else (bif Nat.beq i 0 then 294 else 0)
  | 4 => bif Nat.ble 1 i then (bif Nat.beq i 1 then 128 else 0) else (bif Nat.beq i 0 then 4 else 0)
  | 5 => bif Nat.ble 1 i then (bif Nat.beq i 1 then 284 else 0) else (bif Nat.beq i 0 then 265 else 0)
  | 6 => sl_o6 i
  | 7 => bif Nat.ble 1 i then (bif Nat.beq i 1 then 277 else 0) else (bif Nat.beq i 0 then 258 else 0)
  | 8 => 1
  | 9 => 2
  | 10 => 0
  | 11 => 295
  | 20 => sl_o6 i + 1
  | 22 => bif Nat.ble 1 i then (bif Nat.beq i 1 then 129 else 0) else (bif Nat.beq i 0 then 5 else 0)
  | 23 => bif Nat.ble 1 i then (bif Nat.beq i 1 then 280 else 0) else (bif Nat.beq i 0 then 261 else 0)
  | 24 => bif Nat.ble 1 i then (bif Nat.beq i 1 then 281 else 0) else (bif Nat.beq i 0 then 262 else 0)
  | 25 => bif Nat.ble 1 i then (bif Nat.beq i 1 then 282 else 0) else (bif Nat.beq i 0 then 263 else 0)
  | 26 => bif Nat.ble 1 i then (bif Nat.beq i 1 then 283 else 0) else (bif Nat.beq i 0 then 264 else 0)
  | 27 => bif Nat.ble 1 i then (bif Nat.ble 2 i then (bif Nat.beq i 2 then 3 else 0) else (bif Nat.beq i 1 then 287 else 0)) else (bif Nat.beq i 0 then 268 else 0)
  | 30 => bif Nat.ble 5 i then (bif Nat.ble 8 i then (bif Nat.ble 9 i then (bif Nat.ble 10 i then (bif Nat.beq i 10 then 329 else 0) else (bif Nat.beq i 9 then 328 else 0)) else (bif Nat.beq i 8 then 327 else 0)) else (bif Nat.ble 6 i then (bif Nat.ble 7 i then (bif Nat.beq i 7 then 320 else 0) else (bif Nat.beq i 6 then 315 else 0)) else (bif Nat.beq i 5 then 314 else 0))) else (bif Nat.ble 2 i then (bif Nat.ble 3 i then (bif Nat.ble 4 i then (bif Nat.beq i 4 then 301 else 0) else (bif Nat.beq i 3 then 300 else 0)) else (bif Nat.beq i 2 then 299 else 0)) else (bif Nat.ble 1 i then (bif Nat.beq i 1 then 297 else 0) else (bif Nat.beq i 0 then 296 else 0)))
  | 40 => 330
  | 50 => 298
  | 51 => 302
  | 52 => 303
  | 53 => 304
  | 54 => 305
  | 55 => 306
  | 56 => 307
  | 57 => 308
  | 58 => 309
  | 59 => 310
  | 60 => 313
  | 61 => 316
  | 62 => 318
  | 63 => 319
  | 64 => 321
  | 65 => 322
  | 66 => 323
  | 67 => 324
  | 68 => 326
  | 70 => 311
  | 71 => 312
  | 72 => 317
  | 73 => 325
  | _ => 0
def sl_sq (n : Nat) : Nat × Nat := bif Nat.ble 165 n then (bif Nat.ble 248 n then (bif Nat.ble 289 n then (bif Nat.ble 310 n then (bif Nat.ble 320 n then (bif Nat.ble 325 n then (bif Nat.ble 328 n then (bif Nat.ble 329 n then (bif Nat.ble 330 n then (bif Nat.beq n 330 then (40, 0) else (0, 0)) else (bif Nat.beq n 329 then (30, 10) else (0, 0))) else (bif Nat.beq n 328 then (30, 9) else (0, 0))) else (bif Nat.ble 326 n then (bif Nat.ble 327 n then (bif Nat.beq n 327 then (30, 8) else (0, 0)) else (bif Nat.beq n 326 then (68, 0) else (0, 0))) else (bif Nat.beq n 325 then (73, 0) else (0, 0)))) else (bif Nat.ble 322 n then (bif Nat.ble 323 n then (bif Nat.ble 324 n then (bif Nat.beq n 324 then (67, 0) else (0, 0)) else (bif Nat.beq n 323 then (66, 0) else (0, 0))) else (bif Nat.beq n 322 then (65, 0) else (0, 0))) else (bif Nat.ble 321 n then (bif Nat.beq n 321 then (64, 0) else (0, 0)) else (bif Nat.beq n 320 then (30, 7) else (0, 0))))) else (bif Nat.ble 315 n then (bif Nat.ble 317 n then (bif Nat.ble 318 n then (bif Nat.ble 319 n then (bif Nat.beq n 319 then (63, 0) else (0, 0)) else (bif Nat.beq n 318 then (62, 0) else (0, 0))) else (bif Nat.beq n 317 then (72, 0) else (0, 0))) else (bif Nat.ble 316 n then (bif Nat.beq n 316 then (61, 0) else (0, 0)) else (bif Nat.beq n 315 then (30, 6) else (0, 0)))) else (bif Nat.ble 312 n then (bif Nat.ble 313 n then (bif Nat.ble 314 n then (bif Nat.beq n 314 then (30, 5) else (0, 0)) else (bif Nat.beq n 313 then (60, 0) else (0, 0))) else (bif Nat.beq n 312 then (71, 0) else (0, 0))) else (bif Nat.ble 311 n then (bif Nat.beq n 311 then (70, 0) else (0, 0)) else (bif Nat.beq n 310 then (59, 0) else (0, 0)))))) else (bif Nat.ble 299 n then (bif Nat.ble 304 n then (bif Nat.ble 307 n then (bif Nat.ble 308 n then (bif Nat.ble 309 n then (bif Nat.beq n 309 then (58, 0) else (0, 0)) else (bif Nat.beq n 308 then (57, 0) else (0, 0))) else (bif Nat.beq n 307 then (56, 0) else (0, 0))) else (bif Nat.ble 305 n then (bif Nat.ble 306 n then (bif Nat.beq n 306 then (55, 0) else (0, 0)) else (bif Nat.beq n 305 then (54, 0) else (0, 0))) else (bif Nat.beq n 304 then (53, 0) else (0, 0)))) else (bif Nat.ble 301 n then (bif Nat.ble 302 n then (bif Nat.ble 303 n then (bif Nat.beq n 303 then (52, 0) else (0, 0)) else (bif Nat.beq n 302 then (51, 0) else (0, 0))) else (bif Nat.beq n 301 then (30, 4) else (0, 0))) else (bif Nat.ble 300 n then (bif Nat.beq n 300 then (30, 3) else (0, 0)) else (bif Nat.beq n 299 then (30, 2) else (0, 0))))) else (bif Nat.ble 294 n then (bif Nat.ble 296 n then (bif Nat.ble 297 n then (bif Nat.ble 298 n then (bif Nat.beq n 298 then (50, 0) else (0, 0)) else (bif Nat.beq n 297 then (30, 1) else (0, 0))) else (bif Nat.beq n 296 then (30, 0) else (0, 0))) else (bif Nat.ble 295 n then (bif Nat.beq n 295 then (11, 0) else (0, 0)) else (bif Nat.beq n 294 then (3, 0) else (0, 0)))) else (bif Nat.ble 291 n then (bif Nat.ble 292 n then (bif Nat.ble 293 n then (bif Nat.beq n 293 then (20, 1) else (0, 0)) else (bif Nat.beq n 292 then (6, 1) else (0, 0))) else (bif Nat.beq n 291 then (20, 0) else (0, 0))) else (bif Nat.ble 290 n then (bif Nat.beq n 290 then (6, 0) else (0, 0)) else (bif Nat.beq n 289 then (20, 9) else (0, 0))))))) else (bif Nat.ble 268 n then (bif Nat.ble 278 n then (bif Nat.ble 283 n then (bif Nat.ble 286 n then (bif Nat.ble 287 n then (bif Nat.ble 288 n then (bif Nat.beq n 288 then (6, 9) else (0, 0)) else (bif Nat.beq n 287 then (27, 1) else (0, 0))) else (bif Nat.beq n 286 then (20, 7) else (0, 0))) else (bif Nat.ble 284 n then (bif Nat.ble 285 n then (bif Nat.beq n 285 then (6, 7) else (0, 0)) else (bif Nat.beq n 284 then (5, 1) else (0, 0))) else (bif Nat.beq n 283 then (26, 1) else (0, 0)))) else (bif Nat.ble 280 n then (bif Nat.ble 281 n then (bif Nat.ble 282 n then (bif Nat.beq n 282 then (25, 1) else (0, 0)) else (bif Nat.beq n 281 then (24, 1) else (0, 0))) else (bif Nat.beq n 280 then (23, 1) else (0, 0))) else (bif Nat.ble 279 n then (bif Nat.beq n 279 then (20, 5) else (0, 0)) else (bif Nat.beq n 278 then (6, 5) else (0, 0))))) else (bif Nat.ble 273 n then (bif Nat.ble 275 n then (bif Nat.ble 276 n then (bif Nat.ble 277 n then (bif Nat.beq n 277 then (7, 1) else (0, 0)) else (bif Nat.beq n 276 then (3, 2) else (0, 0))) else (bif Nat.beq n 275 then (20, 13) else (0, 0))) else (bif Nat.ble 274 n then (bif Nat.beq n 274 then (6, 13) else (0, 0)) else (bif Nat.beq n 273 then (20, 11) else (0, 0)))) else (bif Nat.ble 270 n then (bif Nat.ble 271 n then (bif Nat.ble 272 n then (bif Nat.beq n 272 then (6, 11) else (0, 0)) else (bif Nat.beq n 271 then (1, 1) else (0, 0))) else (bif Nat.beq n 270 then (20, 8) else (0, 0))) else (bif Nat.ble 269 n then (bif Nat.beq n 269 then (6, 8) else (0, 0)) else (bif Nat.beq n 268 then (27, 0) else (0, 0)))))) else (bif Nat.ble 258 n then (bif Nat.ble 263 n then (bif Nat.ble 265 n then (bif Nat.ble 266 n then (bif Nat.ble 267 n then (bif Nat.beq n 267 then (20, 6) else (0, 0)) else (bif Nat.beq n 266 then (6, 6) else (0, 0))) else (bif Nat.beq n 265 then (5, 0) else (0, 0))) else (bif Nat.ble 264 n then (bif Nat.beq n 264 then (26, 0) else (0, 0)) else (bif Nat.beq n 263 then (25, 0) else (0, 0)))) else (bif Nat.ble 260 n then (bif Nat.ble 261 n then (bif Nat.ble 262 n then (bif Nat.beq n 262 then (24, 0) else (0, 0)) else (bif Nat.beq n 261 then (23, 0) else (0, 0))) else (bif Nat.beq n 260 then (20, 4) else (0, 0))) else (bif Nat.ble 259 n then (bif Nat.beq n 259 then (6, 4) else (0, 0)) else (bif Nat.beq n 258 then (7, 0) else (0, 0))))) else (bif Nat.ble 253 n then (bif Nat.ble 255 n then (bif Nat.ble 256 n then (bif Nat.ble 257 n then (bif Nat.beq n 257 then (3, 1) else (0, 0)) else (bif Nat.beq n 256 then (20, 12) else (0, 0))) else (bif Nat.beq n 255 then (6, 12) else (0, 0))) else (bif Nat.ble 254 n then (bif Nat.beq n 254 then (20, 10) else (0, 0)) else (bif Nat.beq n 253 then (6, 10) else (0, 0)))) else (bif Nat.ble 250 n then (bif Nat.ble 251 n then (bif Nat.ble 252 n then (bif Nat.beq n 252 then (1, 0) else (0, 0)) else (bif Nat.beq n 251 then (20, 93) else (0, 0))) else (bif Nat.beq n 250 then (6, 93) else (0, 0))) else (bif Nat.ble 249 n then (bif Nat.beq n 249 then (2, 79) else (0, 0)) else (bif Nat.beq n 248 then (20, 92) else (0, 0)))))))) else (bif Nat.ble 206 n then (bif Nat.ble 227 n then (bif Nat.ble 237 n then (bif Nat.ble 242 n then (bif Nat.ble 245 n then (bif Nat.ble 246 n then (bif Nat.ble 247 n then (bif Nat.beq n 247 then (6, 92) else (0, 0)) else (bif Nat.beq n 246 then (2, 78) else (0, 0))) else (bif Nat.beq n 245 then (20, 91) else (0, 0))) else (bif Nat.ble 243 n then (bif Nat.ble 244 n then (bif Nat.beq n 244 then (6, 91) else (0, 0)) else (bif Nat.beq n 243 then (2, 77) else (0, 0))) else (bif Nat.beq n 242 then (20, 90) else (0, 0)))) else (bif Nat.ble 239 n then (bif Nat.ble 240 n then (bif Nat.ble 241 n then (bif Nat.beq n 241 then (6, 90) else (0, 0)) else (bif Nat.beq n 240 then (2, 76) else (0, 0))) else (bif Nat.beq n 239 then (20, 89) else (0, 0))) else (bif Nat.ble 238 n then (bif Nat.beq n 238 then (6, 89) else (0, 0)) else (bif Nat.beq n 237 then (2, 75) else (0, 0))))) else (bif Nat.ble 232 n then (bif Nat.ble 234 n then (bif Nat.ble 235 n then (bif Nat.ble 236 n then (bif Nat.beq n 236 then (20, 88) else (0, 0)) else (bif Nat.beq n 235 then (6, 88) else (0, 0))) else (bif Nat.beq n 234 then (2, 74) else (0, 0))) else (bif Nat.ble 233 n then (bif Nat.beq n 233 then (20, 87) else (0, 0)) else (bif Nat.beq n 232 then (6, 87) else (0, 0)))) else (bif Nat.ble 229 n then (bif Nat.ble 230 n then (bif Nat.ble 231 n then (bif Nat.beq n 231 then (2, 73) else (0, 0)) else (bif Nat.beq n 230 then (20, 86) else (0, 0))) else (bif Nat.beq n 229 then (6, 86) else (0, 0))) else (bif Nat.ble 228 n then (bif Nat.beq n 228 then (2, 72) else (0, 0)) else (bif Nat.beq n 227 then (20, 85) else (0, 0)))))) else (bif Nat.ble 216 n then (bif Nat.ble 221 n then (bif Nat.ble 224 n then (bif Nat.ble 225 n then (bif Nat.ble 226 n then (bif Nat.beq n 226 then (6, 85) else (0, 0)) else (bif Nat.beq n 225 then (2, 71) else (0, 0))) else (bif Nat.beq n 224 then (20, 84) else (0, 0))) else (bif Nat.ble 222 n then (bif Nat.ble 223 n then (bif Nat.beq n 223 then (6, 84) else (0, 0)) else (bif Nat.beq n 222 then (2, 70) else (0, 0))) else (bif Nat.beq n 221 then (20, 83) else (0, 0)))) else (bif Nat.ble 218 n then (bif Nat.ble 219 n then (bif Nat.ble 220 n then (bif Nat.beq n 220 then (6, 83) else (0, 0)) else (bif Nat.beq n 219 then (2, 69) else (0, 0))) else (bif Nat.beq n 218 then (20, 82) else (0, 0))) else (bif Nat.ble 217 n then (bif Nat.beq n 217 then (6, 82) else (0, 0)) else (bif Nat.beq n 216 then (2, 68) else (0, 0))))) else (bif Nat.ble 211 n then (bif Nat.ble 213 n then (bif Nat.ble 214 n then (bif Nat.ble 215 n then (bif Nat.beq n 215 then (20, 81) else (0, 0)) else (bif Nat.beq n 214 then (6, 81) else (0, 0))) else (bif Nat.beq n 213 then (2, 67) else (0, 0))) else (bif Nat.ble 212 n then (bif Nat.beq n 212 then (20, 80) else (0, 0)) else (bif Nat.beq n 211 then (6, 80) else (0, 0)))) else (bif Nat.ble 208 n then (bif Nat.ble 209 n then (bif Nat.ble 210 n then (bif Nat.beq n 210 then (2, 66) else (0, 0)) else (bif Nat.beq n 209 then (20, 79) else (0, 0))) else (bif Nat.beq n 208 then (6, 79) else (0, 0))) else (bif Nat.ble 207 n then (bif Nat.beq n 207 then (2, 65) else (0, 0)) else (bif Nat.beq n 206 then (20, 78) else (0, 0))))))) else (bif Nat.ble 185 n then (bif Nat.ble 195 n then (bif Nat.ble 200 n then (bif Nat.ble 203 n then (bif Nat.ble 204 n then (bif Nat.ble 205 n then (bif Nat.beq n 205 then (6, 78) else (0, 0)) else (bif Nat.beq n 204 then (2, 64) else (0, 0))) else (bif Nat.beq n 203 then (20, 77) else (0, 0))) else (bif Nat.ble 201 n then (bif Nat.ble 202 n then (bif Nat.beq n 202 then (6, 77) else (0, 0)) else (bif Nat.beq n 201 then (2, 63) else (0, 0))) else (bif Nat.beq n 200 then (20, 76) else (0, 0)))) else (bif Nat.ble 197 n then (bif Nat.ble 198 n then (bif Nat.ble 199 n then (bif Nat.beq n 199 then (6, 76) else (0, 0)) else (bif Nat.beq n 198 then (2, 62) else (0, 0))) else (bif Nat.beq n 197 then (20, 75) else (0, 0))) else (bif Nat.ble 196 n then (bif Nat.beq n 196 then (6, 75) else (0, 0)) else (bif Nat.beq n 195 then (2, 61) else (0, 0))))) else (bif Nat.ble 190 n then (bif Nat.ble 192 n then (bif Nat.ble 193 n then (bif Nat.ble 194 n then (bif Nat.beq n 194 then (20, 74) else (0, 0)) else (bif Nat.beq n 193 then (6, 74) else (0, 0))) else (bif Nat.beq n 192 then (2, 60) else (0, 0))) else (bif Nat.ble 191 n then (bif Nat.beq n 191 then (20, 73) else (0, 0)) else (bif Nat.beq n 190 then (6, 73) else (0, 0)))) else (bif Nat.ble 187 n then (bif Nat.ble 188 n then (bif Nat.ble 189 n then (bif Nat.beq n 189 then (2, 59) else (0, 0)) else (bif Nat.beq n 188 then (20, 72) else (0, 0))) else (bif Nat.beq n 187 then (6, 72) else (0, 0))) else (bif Nat.ble 186 n then (bif Nat.beq n 186 then (2, 58) else (0, 0)) else (bif Nat.beq n 185 then (20, 71) else (0, 0)))))) else (bif Nat.ble 175 n then (bif Nat.ble 180 n then (bif Nat.ble 182 n then (bif Nat.ble 183 n then (bif Nat.ble 184 n then (bif Nat.beq n 184 then (6, 71) else (0, 0)) else (bif Nat.beq n 183 then (2, 57) else (0, 0))) else (bif Nat.beq n 182 then (20, 70) else (0, 0))) else (bif Nat.ble 181 n then (bif Nat.beq n 181 then (6, 70) else (0, 0)) else (bif Nat.beq n 180 then (2, 56) else (0, 0)))) else (bif Nat.ble 177 n then (bif Nat.ble 178 n then (bif Nat.ble 179 n then (bif Nat.beq n 179 then (20, 69) else (0, 0)) else (bif Nat.beq n 178 then (6, 69) else (0, 0))) else (bif Nat.beq n 177 then (2, 55) else (0, 0))) else (bif Nat.ble 176 n then (bif Nat.beq n 176 then (20, 68) else (0, 0)) else (bif Nat.beq n 175 then (6, 68) else (0, 0))))) else (bif Nat.ble 170 n then (bif Nat.ble 172 n then (bif Nat.ble 173 n then (bif Nat.ble 174 n then (bif Nat.beq n 174 then (2, 54) else (0, 0)) else (bif Nat.beq n 173 then (20, 67) else (0, 0))) else (bif Nat.beq n 172 then (6, 67) else (0, 0))) else (bif Nat.ble 171 n then (bif Nat.beq n 171 then (2, 53) else (0, 0)) else (bif Nat.beq n 170 then (20, 66) else (0, 0)))) else (bif Nat.ble 167 n then (bif Nat.ble 168 n then (bif Nat.ble 169 n then (bif Nat.beq n 169 then (6, 66) else (0, 0)) else (bif Nat.beq n 168 then (2, 52) else (0, 0))) else (bif Nat.beq n 167 then (20, 65) else (0, 0))) else (bif Nat.ble 166 n then (bif Nat.beq n 166 then (6, 65) else (0, 0)) else (bif Nat.beq n 165 then (2, 51) else (0, 0))))))))) else (bif Nat.ble 82 n then (bif Nat.ble 123 n then (bif Nat.ble 144 n then (bif Nat.ble 154 n then (bif Nat.ble 159 n then (bif Nat.ble 162 n then (bif Nat.ble 163 n then (bif Nat.ble 164 n then (bif Nat.beq n 164 then (20, 64) else (0, 0)) else (bif Nat.beq n 163 then (6, 64) else (0, 0))) else (bif Nat.beq n 162 then (2, 50) else (0, 0))) else (bif Nat.ble 160 n then (bif Nat.ble 161 n then (bif Nat.beq n 161 then (20, 63) else (0, 0)) else (bif Nat.beq n 160 then (6, 63) else (0, 0))) else (bif Nat.beq n 159 then (2, 49) else (0, 0)))) else (bif Nat.ble 156 n then (bif Nat.ble 157 n then (bif Nat.ble 158 n then (bif Nat.beq n 158 then (20, 62) else (0, 0)) else (bif Nat.beq n 157 then (6, 62) else (0, 0))) else (bif Nat.beq n 156 then (2, 48) else (0, 0))) else (bif Nat.ble 155 n then (bif Nat.beq n 155 then (20, 61) else (0, 0)) else (bif Nat.beq n 154 then (6, 61) else (0, 0))))) else (bif Nat.ble 149 n then (bif Nat.ble 151 n then (bif Nat.ble 152 n then (bif Nat.ble 153 n then (bif Nat.beq n 153 then (2, 47) else (0, 0)) else (bif Nat.beq n 152 then (20, 60) else (0, 0))) else (bif Nat.beq n 151 then (6, 60) else (0, 0))) else (bif Nat.ble 150 n then (bif Nat.beq n 150 then (2, 46) else (0, 0)) else (bif Nat.beq n 149 then (20, 59) else (0, 0)))) else (bif Nat.ble 146 n then (bif Nat.ble 147 n then (bif Nat.ble 148 n then (bif Nat.beq n 148 then (6, 59) else (0, 0)) else (bif Nat.beq n 147 then (2, 45) else (0, 0))) else (bif Nat.beq n 146 then (20, 58) else (0, 0))) else (bif Nat.ble 145 n then (bif Nat.beq n 145 then (6, 58) else (0, 0)) else (bif Nat.beq n 144 then (2, 44) else (0, 0)))))) else (bif Nat.ble 133 n then (bif Nat.ble 138 n then (bif Nat.ble 141 n then (bif Nat.ble 142 n then (bif Nat.ble 143 n then (bif Nat.beq n 143 then (20, 57) else (0, 0)) else (bif Nat.beq n 142 then (6, 57) else (0, 0))) else (bif Nat.beq n 141 then (2, 43) else (0, 0))) else (bif Nat.ble 139 n then (bif Nat.ble 140 n then (bif Nat.beq n 140 then (20, 56) else (0, 0)) else (bif Nat.beq n 139 then (6, 56) else (0, 0))) else (bif Nat.beq n 138 then (2, 42) else (0, 0)))) else (bif Nat.ble 135 n then (bif Nat.ble 136 n then (bif Nat.ble 137 n then (bif Nat.beq n 137 then (20, 55) else (0, 0)) else (bif Nat.beq n 136 then (6, 55) else (0, 0))) else (bif Nat.beq n 135 then (2, 41) else (0, 0))) else (bif Nat.ble 134 n then (bif Nat.beq n 134 then (20, 54) else (0, 0)) else (bif Nat.beq n 133 then (6, 54) else (0, 0))))) else (bif Nat.ble 128 n then (bif Nat.ble 130 n then (bif Nat.ble 131 n then (bif Nat.ble 132 n then (bif Nat.beq n 132 then (2, 40) else (0, 0)) else (bif Nat.beq n 131 then (20, 3) else (0, 0))) else (bif Nat.beq n 130 then (6, 3) else (0, 0))) else (bif Nat.ble 129 n then (bif Nat.beq n 129 then (22, 1) else (0, 0)) else (bif Nat.beq n 128 then (4, 1) else (0, 0)))) else (bif Nat.ble 125 n then (bif Nat.ble 126 n then (bif Nat.ble 127 n then (bif Nat.beq n 127 then (20, 53) else (0, 0)) else (bif Nat.beq n 126 then (6, 53) else (0, 0))) else (bif Nat.beq n 125 then (2, 39) else (0, 0))) else (bif Nat.ble 124 n then (bif Nat.beq n 124 then (20, 52) else (0, 0)) else (bif Nat.beq n 123 then (6, 52) else (0, 0))))))) else (bif Nat.ble 102 n then (bif Nat.ble 112 n then (bif Nat.ble 117 n then (bif Nat.ble 120 n then (bif Nat.ble 121 n then (bif Nat.ble 122 n then (bif Nat.beq n 122 then (2, 38) else (0, 0)) else (bif Nat.beq n 121 then (20, 51) else (0, 0))) else (bif Nat.beq n 120 then (6, 51) else (0, 0))) else (bif Nat.ble 118 n then (bif Nat.ble 119 n then (bif Nat.beq n 119 then (2, 37) else (0, 0)) else (bif Nat.beq n 118 then (20, 50) else (0, 0))) else (bif Nat.beq n 117 then (6, 50) else (0, 0)))) else (bif Nat.ble 114 n then (bif Nat.ble 115 n then (bif Nat.ble 116 n then (bif Nat.beq n 116 then (2, 36) else (0, 0)) else (bif Nat.beq n 115 then (20, 49) else (0, 0))) else (bif Nat.beq n 114 then (6, 49) else (0, 0))) else (bif Nat.ble 113 n then (bif Nat.beq n 113 then (2, 35) else (0, 0)) else (bif Nat.beq n 112 then (20, 48) else (0, 0))))) else (bif Nat.ble 107 n then (bif Nat.ble 109 n then (bif Nat.ble 110 n then (bif Nat.ble 111 n then (bif Nat.beq n 111 then (6, 48) else (0, 0)) else (bif Nat.beq n 110 then (2, 34) else (0, 0))) else (bif Nat.beq n 109 then (20, 47) else (0, 0))) else (bif Nat.ble 108 n then (bif Nat.beq n 108 then (6, 47) else (0, 0)) else (bif Nat.beq n 107 then (2, 33) else (0, 0)))) else (bif Nat.ble 104 n then (bif Nat.ble 105 n then (bif Nat.ble 106 n then (bif Nat.beq n 106 then (20, 46) else (0, 0)) else (bif Nat.beq n 105 then (6, 46) else (0, 0))) else (bif Nat.beq n 104 then (2, 32) else (0, 0))) else (bif Nat.ble 103 n then (bif Nat.beq n 103 then (20, 45) else (0, 0)) else (bif Nat.beq n 102 then (6, 45) else (0, 0)))))) else (bif Nat.ble 92 n then (bif Nat.ble 97 n then (bif Nat.ble 99 n then (bif Nat.ble 100 n then (bif Nat.ble 101 n then (bif Nat.beq n 101 then (2, 31) else (0, 0)) else (bif Nat.beq n 100 then (20, 44) else (0, 0))) else (bif Nat.beq n 99 then (6, 44) else (0, 0))) else (bif Nat.ble 98 n then (bif Nat.beq n 98 then (2, 30) else (0, 0)) else (bif Nat.beq n 97 then (20, 43) else (0, 0)))) else (bif Nat.ble 94 n then (bif Nat.ble 95 n then (bif Nat.ble 96 n then (bif Nat.beq n 96 then (6, 43) else (0, 0)) else (bif Nat.beq n 95 then (2, 29) else (0, 0))) else (bif Nat.beq n 94 then (20, 42) else (0, 0))) else (bif Nat.ble 93 n then (bif Nat.beq n 93 then (6, 42) else (0, 0)) else (bif Nat.beq n 92 then (2, 28) else (0, 0))))) else (bif Nat.ble 87 n then (bif Nat.ble 89 n then (bif Nat.ble 90 n then (bif Nat.ble 91 n then (bif Nat.beq n 91 then (20, 41) else (0, 0)) else (bif Nat.beq n 90 then (6, 41) else (0, 0))) else (bif Nat.beq n 89 then (2, 27) else (0, 0))) else (bif Nat.ble 88 n then (bif Nat.beq n 88 then (20, 40) else (0, 0)) else (bif Nat.beq n 87 then (6, 40) else (0, 0)))) else (bif Nat.ble 84 n then (bif Nat.ble 85 n then (bif Nat.ble 86 n then (bif Nat.beq n 86 then (2, 26) else (0, 0)) else (bif Nat.beq n 85 then (20, 39) else (0, 0))) else (bif Nat.beq n 84 then (6, 39) else (0, 0))) else (bif Nat.ble 83 n then (bif Nat.beq n 83 then (2, 25) else (0, 0)) else (bif Nat.beq n 82 then (20, 38) else (0, 0)))))))) else (bif Nat.ble 41 n then (bif Nat.ble 61 n then (bif Nat.ble 71 n then (bif Nat.ble 76 n then (bif Nat.ble 79 n then (bif Nat.ble 80 n then (bif Nat.ble 81 n then (bif Nat.beq n 81 then (6, 38) else (0, 0)) else (bif Nat.beq n 80 then (2, 24) else (0, 0))) else (bif Nat.beq n 79 then (20, 37) else (0, 0))) else (bif Nat.ble 77 n then (bif Nat.ble 78 n then (bif Nat.beq n 78 then (6, 37) else (0, 0)) else (bif Nat.beq n 77 then (2, 23) else (0, 0))) else (bif Nat.beq n 76 then (20, 36) else (0, 0)))) else (bif Nat.ble 73 n then (bif Nat.ble 74 n then (bif Nat.ble 75 n then (bif Nat.beq n 75 then (6, 36) else (0, 0)) else (bif Nat.beq n 74 then (2, 22) else (0, 0))) else (bif Nat.beq n 73 then (20, 35) else (0, 0))) else (bif Nat.ble 72 n then (bif Nat.beq n 72 then (6, 35) else (0, 0)) else (bif Nat.beq n 71 then (2, 21) else (0, 0))))) else (bif Nat.ble 66 n then (bif Nat.ble 68 n then (bif Nat.ble 69 n then (bif Nat.ble 70 n then (bif Nat.beq n 70 then (20, 34) else (0, 0)) else (bif Nat.beq n 69 then (6, 34) else (0, 0))) else (bif Nat.beq n 68 then (2, 20) else (0, 0))) else (bif Nat.ble 67 n then (bif Nat.beq n 67 then (20, 33) else (0, 0)) else (bif Nat.beq n 66 then (6, 33) else (0, 0)))) else (bif Nat.ble 63 n then (bif Nat.ble 64 n then (bif Nat.ble 65 n then (bif Nat.beq n 65 then (2, 19) else (0, 0)) else (bif Nat.beq n 64 then (20, 32) else (0, 0))) else (bif Nat.beq n 63 then (6, 32) else (0, 0))) else (bif Nat.ble 62 n then (bif Nat.beq n 62 then (2, 18) else (0, 0)) else (bif Nat.beq n 61 then (20, 31) else (0, 0)))))) else (bif Nat.ble 51 n then (bif Nat.ble 56 n then (bif Nat.ble 58 n then (bif Nat.ble 59 n then (bif Nat.ble 60 n then (bif Nat.beq n 60 then (6, 31) else (0, 0)) else (bif Nat.beq n 59 then (2, 17) else (0, 0))) else (bif Nat.beq n 58 then (20, 30) else (0, 0))) else (bif Nat.ble 57 n then (bif Nat.beq n 57 then (6, 30) else (0, 0)) else (bif Nat.beq n 56 then (2, 16) else (0, 0)))) else (bif Nat.ble 53 n then (bif Nat.ble 54 n then (bif Nat.ble 55 n then (bif Nat.beq n 55 then (20, 29) else (0, 0)) else (bif Nat.beq n 54 then (6, 29) else (0, 0))) else (bif Nat.beq n 53 then (2, 15) else (0, 0))) else (bif Nat.ble 52 n then (bif Nat.beq n 52 then (20, 28) else (0, 0)) else (bif Nat.beq n 51 then (6, 28) else (0, 0))))) else (bif Nat.ble 46 n then (bif Nat.ble 48 n then (bif Nat.ble 49 n then (bif Nat.ble 50 n then (bif Nat.beq n 50 then (2, 14) else (0, 0)) else (bif Nat.beq n 49 then (20, 27) else (0, 0))) else (bif Nat.beq n 48 then (6, 27) else (0, 0))) else (bif Nat.ble 47 n then (bif Nat.beq n 47 then (2, 13) else (0, 0)) else (bif Nat.beq n 46 then (20, 26) else (0, 0)))) else (bif Nat.ble 43 n then (bif Nat.ble 44 n then (bif Nat.ble 45 n then (bif Nat.beq n 45 then (6, 26) else (0, 0)) else (bif Nat.beq n 44 then (2, 12) else (0, 0))) else (bif Nat.beq n 43 then (20, 25) else (0, 0))) else (bif Nat.ble 42 n then (bif Nat.beq n 42 then (6, 25) else (0, 0)) else (bif Nat.beq n 41 then (2, 11) else (0, 0))))))) else (bif Nat.ble 20 n then (bif Nat.ble 30 n then (bif Nat.ble 35 n then (bif Nat.ble 38 n then (bif Nat.ble 39 n then (bif Nat.ble 40 n then (bif Nat.beq n 40 then (20, 24) else (0, 0)) else (bif Nat.beq n 39 then (6, 24) else (0, 0))) else (bif Nat.beq n 38 then (2, 10) else (0, 0))) else (bif Nat.ble 36 n then (bif Nat.ble 37 n then (bif Nat.beq n 37 then (20, 23) else (0, 0)) else (bif Nat.beq n 36 then (6, 23) else (0, 0))) else (bif Nat.beq n 35 then (2, 9) else (0, 0)))) else (bif Nat.ble 32 n then (bif Nat.ble 33 n then (bif Nat.ble 34 n then (bif Nat.beq n 34 then (20, 22) else (0, 0)) else (bif Nat.beq n 33 then (6, 22) else (0, 0))) else (bif Nat.beq n 32 then (2, 8) else (0, 0))) else (bif Nat.ble 31 n then (bif Nat.beq n 31 then (20, 21) else (0, 0)) else (bif Nat.beq n 30 then (6, 21) else (0, 0))))) else (bif Nat.ble 25 n then (bif Nat.ble 27 n then (bif Nat.ble 28 n then (bif Nat.ble 29 n then (bif Nat.beq n 29 then (2, 7) else (0, 0)) else (bif Nat.beq n 28 then (20, 20) else (0, 0))) else (bif Nat.beq n 27 then (6, 20) else (0, 0))) else (bif Nat.ble 26 n then (bif Nat.beq n 26 then (2, 6) else (0, 0)) else (bif Nat.beq n 25 then (20, 19) else (0, 0)))) else (bif Nat.ble 22 n then (bif Nat.ble 23 n then (bif Nat.ble 24 n then (bif Nat.beq n 24 then (6, 19) else (0, 0)) else (bif Nat.beq n 23 then (2, 5) else (0, 0))) else (bif Nat.beq n 22 then (20, 18) else (0, 0))) else (bif Nat.ble 21 n then (bif Nat.beq n 21 then (6, 18) else (0, 0)) else (bif Nat.beq n 20 then (2, 4) else (0, 0)))))) else (bif Nat.ble 10 n then (bif Nat.ble 15 n then (bif Nat.ble 17 n then (bif Nat.ble 18 n then (bif Nat.ble 19 n then (bif Nat.beq n 19 then (20, 17) else (0, 0)) else (bif Nat.beq n 18 then (6, 17) else (0, 0))) else (bif Nat.beq n 17 then (2, 3) else (0, 0))) else (bif Nat.ble 16 n then (bif Nat.beq n 16 then (20, 16) else (0, 0)) else (bif Nat.beq n 15 then (6, 16) else (0, 0)))) else (bif Nat.ble 12 n then (bif Nat.ble 13 n then (bif Nat.ble 14 n then (bif Nat.beq n 14 then (2, 2) else (0, 0)) else (bif Nat.beq n 13 then (20, 15) else (0, 0))) else (bif Nat.beq n 12 then (6, 15) else (0, 0))) else (bif Nat.ble 11 n then (bif Nat.beq n 11 then (2, 1) else (0, 0)) else (bif Nat.beq n 10 then (20, 14) else (0, 0))))) else (bif Nat.ble 5 n then (bif Nat.ble 7 n then (bif Nat.ble 8 n then (bif Nat.ble 9 n then (bif Nat.beq n 9 then (6, 14) else (0, 0)) else (bif Nat.beq n 8 then (2, 0) else (0, 0))) else (bif Nat.beq n 7 then (20, 2) else (0, 0))) else (bif Nat.ble 6 n then (bif Nat.beq n 6 then (6, 2) else (0, 0)) else (bif Nat.beq n 5 then (22, 0) else (0, 0)))) else (bif Nat.ble 2 n then (bif Nat.ble 3 n then (bif Nat.ble 4 n then (bif Nat.beq n 4 then (4, 0) else (0, 0)) else (bif Nat.beq n 3 then (27, 2) else (0, 0))) else (bif Nat.beq n 2 then (9, 0) else (0, 0))) else (bif Nat.ble 1 n then (bif Nat.beq n 1 then (8, 0) else (0, 0)) else (bif Nat.beq n 0 then (10, 0) else (0, 0)))))))))
def sl_ad (base b c i : Nat) : Nat := bif c == 41 then b else base + sl_od c i
theorem sl_ct_le {c : Nat} (h : sl_ct c ≠ 0) : c < 74 := by
  rcases Nat.lt_or_ge c 74 with q | q
  · exact q
  · refine absurd ?_ h
    unfold sl_ct
    split <;> first | rfl | omega
theorem sl_sq_od : ∀ c, c < 74 → c ≠ 41 → ∀ i, i < sl_ct c → sl_sq (sl_od c i) = (c, i) ∧ sl_od c i < 331 := by decide +kernel
theorem sl_ct_in {c : Nat} (h : sl_ct c ≠ 0) : c = 1 ∨ c = 2 ∨ c = 3 ∨ c = 4 ∨ c = 5 ∨ c = 6 ∨ c = 7 ∨ c = 8 ∨ c = 9 ∨ c = 10 ∨ c = 11 ∨ c = 20 ∨ c = 22 ∨ c = 23 ∨ c = 24 ∨ c = 25 ∨ c = 26 ∨ c = 27 ∨ c = 30 ∨ c = 40 ∨ c = 41 ∨ c = 50 ∨ c = 51 ∨ c = 52 ∨ c = 53 ∨ c = 54 ∨ c = 55 ∨ c = 56 ∨ c = 57 ∨ c = 58 ∨ c = 59 ∨ c = 60 ∨ c = 61 ∨ c = 62 ∨ c = 63 ∨ c = 64 ∨ c = 65 ∨ c = 66 ∨ c = 67 ∨ c = 68 ∨ c = 70 ∨ c = 71 ∨ c = 72 ∨ c = 73 := by
  unfold sl_ct at h
  split at h <;> first | exact absurd rfl h | simp
def sl_VS (_ : sl_M) (q : Nat × Nat) : Prop := q.2 < sl_ct q.1
theorem sl_ap {base b : Nat} (hb : b < base) {q r : Nat × Nat} (hq : q.2 < sl_ct q.1) (hr : r.2 < sl_ct r.1) (h : sl_ad base b q.1 q.2 = sl_ad base b r.1 r.2) : q = r := by
  obtain ⟨c, i⟩ := q
  obtain ⟨c1, i1⟩ := r
  dsimp only at hq hr h
  have hc : c < 74 := sl_ct_le (by omega)
  have hc1 : c1 < 74 := sl_ct_le (by omega)
  unfold sl_ad at h
  cases e : (c == 41) with
  | true =>
    cases e1 : (c1 == 41) with
    | true =>
      have z := eq_of_beq e
      have z1 := eq_of_beq e1
      subst z; subst z1
      have y : sl_ct 41 = 1 := rfl
      rw [y] at hq hr
      rw [show i = 0 by omega, show i1 = 0 by omega]
    | false => rw [e, e1] at h; dsimp only [cond] at h; omega
  | false =>
    cases e1 : (c1 == 41) with
    | true => rw [e, e1] at h; dsimp only [cond] at h; omega
    | false =>
      rw [e, e1] at h; dsimp only [cond] at h
      have h1 := (sl_sq_od c hc (by simpa using e) i hq).1
      have h2 := (sl_sq_od c1 hc1 (by simpa using e1) i1 hr).1
      rw [show sl_od c i = sl_od c1 i1 by omega] at h1
      exact h1.symm.trans h2
theorem sl_up_at (m : sl_M) (c i k : Nat) (x : Int32) (c1 i1 k1 : Nat) : (sl_up m c i k x).1 c1 i1 k1 = if c1 = c ∧ i1 = i ∧ k1 = k then x else m.1 c1 i1 k1 := by
  show (bif c1 == c && sl_hit c i k i1 k1 then x else m.1 c1 i1 k1) = _
  by_cases h1 : c1 = c
  · by_cases h2 : i1 = i
    · by_cases h3 : k1 = k
      · cases h4 : (c == 30) <;> simp [sl_hit, h1, h2, h3, h4]
      · have b3 : (k1 == k) = false := beq_eq_false_iff_ne.mpr h3
        cases h4 : (c == 30) <;> simp [sl_hit, h1, h2, h3, b3, h4]
    · have b2 : (i1 == i) = false := beq_eq_false_iff_ne.mpr h2
      cases h4 : (c == 30) <;> simp [sl_hit, h1, h2, b2, h4]
  · have b1 : (c1 == c) = false := beq_eq_false_iff_ne.mpr h1
    simp [h1, b1]
theorem sl_up_2 (m : sl_M) (c i k : Nat) (x : Int32) : (sl_up m c i k x).2 = m.2 := rfl
theorem sl_rdc1 {m m1 : sl_M} {i k : Nat} (h : m1.1 1 i k = m.1 1 i k) : sl_rd1 m1 i k = sl_rd1 m i k := by
  unfold sl_rd1
  split <;> first | rfl | rw [h]
theorem sl_rdc2 {m m1 : sl_M} {i k : Nat} (h : m1.1 2 i k = m.1 2 i k) : sl_rd2 m1 i k = sl_rd2 m i k := by
  unfold sl_rd2
  split <;> first | rfl | rw [h]
theorem sl_rdc3 {m m1 : sl_M} {i k : Nat} (h : m1.1 3 i k = m.1 3 i k) : sl_rd3 m1 i k = sl_rd3 m i k := by
  unfold sl_rd3
  split <;> first | rfl | rw [h]
theorem sl_rdc4 {m m1 : sl_M} {i k : Nat} (h : m1.1 4 i k = m.1 4 i k) : sl_rd4 m1 i k = sl_rd4 m i k := by
  unfold sl_rd4
  split <;> first | rfl | rw [h]
theorem sl_rdc5 {m m1 : sl_M} {i k : Nat} (h : m1.1 5 i k = m.1 5 i k) : sl_rd5 m1 i k = sl_rd5 m i k := by
  unfold sl_rd5
  split <;> first | rfl | rw [h]
theorem sl_rdc6 {m m1 : sl_M} {i k : Nat} (h : m1.1 6 i k = m.1 6 i k) : sl_rd6 m1 i k = sl_rd6 m i k := by
  unfold sl_rd6
  split <;> first | rfl | rw [h]
theorem sl_rdc7 {m m1 : sl_M} {i k : Nat} (h : m1.1 7 i k = m.1 7 i k) : sl_rd7 m1 i k = sl_rd7 m i k := by
  unfold sl_rd7
  split <;> first | rfl | rw [h]
theorem sl_rdc8 {m m1 : sl_M} {i k : Nat} (h : m1.1 8 i k = m.1 8 i k) : sl_rd8 m1 i k = sl_rd8 m i k := by
  unfold sl_rd8
  split <;> first | rfl | rw [h]
theorem sl_rdc9 {m m1 : sl_M} {i k : Nat} (h : m1.1 9 i k = m.1 9 i k) : sl_rd9 m1 i k = sl_rd9 m i k := by
  unfold sl_rd9
  split <;> first | rfl | rw [h]
theorem sl_rdc10 {m m1 : sl_M} {i k : Nat} (h : m1.1 10 i k = m.1 10 i k) : sl_rd10 m1 i k = sl_rd10 m i k := by
  unfold sl_rd10
  split <;> first | rfl | rw [h]
theorem sl_rdc11 {m m1 : sl_M} {i k : Nat} (h : m1.1 11 i k = m.1 11 i k) : sl_rd11 m1 i k = sl_rd11 m i k := by
  unfold sl_rd11
  split <;> first | rfl | rw [h]
theorem sl_rdc {m m1 : sl_M} {c i k : Nat} (h : m1.1 c i k = m.1 c i k) (h2 : c = 40 → m1.2 = m.2) : sl_rd m1 c i k = sl_rd m c i k := by
  unfold sl_rd
  cases Nat.ble 70 c with
  | true => rw [cond_true, cond_true, h]
  | false =>
    cases Nat.ble 50 c with
    | true => rw [cond_false, cond_false, cond_true, cond_true, h]
    | false =>
      rw [cond_false, cond_false, cond_false, cond_false]
      split <;> first
        | exact sl_rdc1 h
        | exact sl_rdc2 h
        | exact sl_rdc3 h
        | exact sl_rdc4 h
        | exact sl_rdc5 h
        | exact sl_rdc6 h
        | exact sl_rdc7 h
        | exact sl_rdc8 h
        | exact sl_rdc9 h
        | exact sl_rdc10 h
        | exact sl_rdc11 h
        | rw [h]
        | rw [h2 rfl]
        | rfl
theorem sl_rdw {m : sl_M} {c i k : Nat} {x : Int32} (hc : i < sl_ct c) (hw : sl_wk c k = true) : sl_rd (sl_up m c i k x) c i k = sl_nf c (.inl x) := by
  have hx : (sl_up m c i k x).1 c i k = x := by rw [sl_up_at]; simp
  have hcc := sl_ct_in (c := c) (by omega)
  rcases hcc with rfl | rfl | rfl | rfl | rfl | rfl | rfl | rfl | rfl | rfl | rfl | rfl | rfl | rfl | rfl | rfl | rfl | rfl | rfl | rfl | rfl | rfl | rfl | rfl | rfl | rfl | rfl | rfl | rfl | rfl | rfl | rfl | rfl | rfl | rfl | rfl | rfl | rfl | rfl | rfl | rfl | rfl | rfl | rfl
  · have hk : k = 5 := by
      have hw : (k == 5) = true := hw
      simp only [Bool.or_eq_true, beq_iff_eq] at hw
      omega
    subst hk
    show Sum.inl _ = _
    rw [hx]; rfl
  · have hk : k = 1 ∨ k = 2 ∨ k = 3 ∨ k = 4 := by
      have hw : (k == 1 || k == 2 || k == 3 || k == 4) = true := hw
      simp only [Bool.or_eq_true, beq_iff_eq] at hw
      omega
    rcases hk with rfl | rfl | rfl | rfl <;> (show Sum.inl _ = _; rw [hx]; rfl)
  · have hk : k = 0 ∨ k = 1 := by
      have hw : (k == 0 || k == 1) = true := hw
      simp only [Bool.or_eq_true, beq_iff_eq] at hw
      omega
    rcases hk with rfl | rfl <;> (show Sum.inl _ = _; rw [hx]; rfl)
  · have hk : k = 3 ∨ k = 4 := by
      have hw : (k == 3 || k == 4) = true := hw
      simp only [Bool.or_eq_true, beq_iff_eq] at hw
      omega
    rcases hk with rfl | rfl <;> (show Sum.inl _ = _; rw [hx]; rfl)
  · have hk : k = 4 := by
      have hw : (k == 4) = true := hw
      simp only [Bool.or_eq_true, beq_iff_eq] at hw
      omega
    subst hk
    show Sum.inl _ = _
    rw [hx]; rfl
  · have hk : k = 1 := by
      have hw : (k == 1) = true := hw
      simp only [Bool.or_eq_true, beq_iff_eq] at hw
      omega
    subst hk
    show Sum.inl _ = _
    rw [hx]; rfl
  · have hk : k = 4 ∨ k = 5 ∨ k = 6 ∨ k = 7 ∨ k = 8 := by
      have hw : (k == 4 || k == 5 || k == 6 || k == 7 || k == 8) = true := hw
      simp only [Bool.or_eq_true, beq_iff_eq] at hw
      omega
    rcases hk with rfl | rfl | rfl | rfl | rfl <;> (show Sum.inl _ = _; rw [hx]; rfl)
  · have hk : k = 0 ∨ k = 1 ∨ k = 2 ∨ k = 3 ∨ k = 4 := by
      have hw : (k == 0 || k == 1 || k == 2 || k == 3 || k == 4) = true := hw
      simp only [Bool.or_eq_true, beq_iff_eq] at hw
      omega
    rcases hk with rfl | rfl | rfl | rfl | rfl <;> (show Sum.inl _ = _; rw [hx]; rfl)
  · cases hw
  · cases hw
  · have hk : k = 0 ∨ k = 2 ∨ k = 4 ∨ k = 6 ∨ k = 7 ∨ k = 9 ∨ k = 10 ∨ k = 11 ∨ k = 12 ∨ k = 13 := by
      have hw : (k == 0 || k == 2 || k == 4 || k == 6 || k == 7 || k == 9 || k == 10 || k == 11 || k == 12 || k == 13) = true := hw
      simp only [Bool.or_eq_true, beq_iff_eq] at hw
      omega
    rcases hk with rfl | rfl | rfl | rfl | rfl | rfl | rfl | rfl | rfl | rfl <;> (show Sum.inl _ = _; rw [hx]; rfl)
  · show Sum.inl (sl_sx _) = _
    rw [hx]; rfl
  · cases hw
  · show Sum.inl _ = _
    rw [hx]; rfl
  · show Sum.inl _ = _
    rw [hx]; rfl
  · show Sum.inl _ = _
    rw [hx]; rfl
  · show Sum.inl (_ &&& 1) = _
    rw [hx]; rfl
  · show Sum.inl _ = _
    rw [hx]; rfl
  · show Sum.inl (sl_sx _) = _
    rw [hx]; rfl
  · cases hw
  · cases hw
  · show Sum.inl _ = _
    rw [hx]; rfl
  · show Sum.inl _ = _
    rw [hx]; rfl
  · show Sum.inl _ = _
    rw [hx]; rfl
  · show Sum.inl _ = _
    rw [hx]; rfl
  · show Sum.inl _ = _
    rw [hx]; rfl
  · show Sum.inl _ = _
    rw [hx]; rfl
  · show Sum.inl _ = _
    rw [hx]; rfl
  · show Sum.inl _ = _
    rw [hx]; rfl
  · show Sum.inl _ = _
    rw [hx]; rfl
  · show Sum.inl _ = _
    rw [hx]; rfl
  · show Sum.inl _ = _
    rw [hx]; rfl
  · show Sum.inl _ = _
    rw [hx]; rfl
  · show Sum.inl _ = _
    rw [hx]; rfl
  · show Sum.inl _ = _
    rw [hx]; rfl
  · show Sum.inl _ = _
    rw [hx]; rfl
  · show Sum.inl _ = _
    rw [hx]; rfl
  · show Sum.inl _ = _
    rw [hx]; rfl
  · show Sum.inl _ = _
    rw [hx]; rfl
  · show Sum.inl _ = _
    rw [hx]; rfl
  · show Sum.inl (_ &&& 1) = _
    rw [hx]; rfl
  · show Sum.inl (_ &&& 1) = _
    rw [hx]; rfl
  · show Sum.inl (_ &&& 1) = _
    rw [hx]; rfl
  · show Sum.inl (_ &&& 1) = _
    rw [hx]; rfl
theorem sl_rdr {m : sl_M} {c i k : Nat} {q : Nat × Nat} (hc : i < sl_ct c) (hk : 20 ≤ c → k < sl_ln c i) (h : sl_rd m c i k = .inr (.inl (some q))) : q.2 < sl_ct q.1 := by
  have hcc := sl_ct_in (c := c) (by omega)
  rcases hcc with rfl | rfl | rfl | rfl | rfl | rfl | rfl | rfl | rfl | rfl | rfl | rfl | rfl | rfl | rfl | rfl | rfl | rfl | rfl | rfl | rfl | rfl | rfl | rfl | rfl | rfl | rfl | rfl | rfl | rfl | rfl | rfl | rfl | rfl | rfl | rfl | rfl | rfl | rfl | rfl | rfl | rfl | rfl | rfl
  · have h : sl_rd1 m i k = .inr (.inl (some q)) := h
    unfold sl_rd1 at h
    split at h <;> first | (cases h; done) | (cases h; dsimp only; first | decide | (have e1 : sl_ct 1 = 2 := rfl; rw [e1] at hc; first | exact hc | (show _ < 94; omega) | (show _ < 3; omega) | (show _ < 2; omega)))
  · have h : sl_rd2 m i k = .inr (.inl (some q)) := h
    unfold sl_rd2 at h
    split at h <;> first | (cases h; done) | (cases h; dsimp only; first | decide | (have e1 : sl_ct 2 = 80 := rfl; rw [e1] at hc; first | exact hc | (show _ < 94; omega) | (show _ < 3; omega) | (show _ < 2; omega)))
  · have h : sl_rd3 m i k = .inr (.inl (some q)) := h
    unfold sl_rd3 at h
    split at h <;> first | (cases h; done) | (cases h; dsimp only; first | decide | (have e1 : sl_ct 3 = 3 := rfl; rw [e1] at hc; first | exact hc | (show _ < 94; omega) | (show _ < 3; omega) | (show _ < 2; omega)))
  · have h : sl_rd4 m i k = .inr (.inl (some q)) := h
    unfold sl_rd4 at h
    split at h <;> first | (cases h; done) | (cases h; dsimp only; first | decide | (have e1 : sl_ct 4 = 2 := rfl; rw [e1] at hc; first | exact hc | (show _ < 94; omega) | (show _ < 3; omega) | (show _ < 2; omega)))
  · have h : sl_rd5 m i k = .inr (.inl (some q)) := h
    unfold sl_rd5 at h
    split at h <;> first | (cases h; done) | (cases h; dsimp only; first | decide | (have e1 : sl_ct 5 = 2 := rfl; rw [e1] at hc; first | exact hc | (show _ < 94; omega) | (show _ < 3; omega) | (show _ < 2; omega)))
  · have h : sl_rd6 m i k = .inr (.inl (some q)) := h
    unfold sl_rd6 at h
    split at h <;> first | (cases h; done) | (cases h; dsimp only; first | decide | (have e1 : sl_ct 6 = 94 := rfl; rw [e1] at hc; first | exact hc | (show _ < 94; omega) | (show _ < 3; omega) | (show _ < 2; omega)))
  · have h : sl_rd7 m i k = .inr (.inl (some q)) := h
    unfold sl_rd7 at h
    split at h <;> first | (cases h; done) | (cases h; dsimp only; first | decide | (have e1 : sl_ct 7 = 2 := rfl; rw [e1] at hc; first | exact hc | (show _ < 94; omega) | (show _ < 3; omega) | (show _ < 2; omega)))
  · have h : sl_rd8 m i k = .inr (.inl (some q)) := h
    unfold sl_rd8 at h
    split at h <;> first | (cases h; done) | (cases h; dsimp only; first | decide | (have e1 : sl_ct 8 = 1 := rfl; rw [e1] at hc; first | exact hc | (show _ < 94; omega) | (show _ < 3; omega) | (show _ < 2; omega)))
  · have h : sl_rd9 m i k = .inr (.inl (some q)) := h
    unfold sl_rd9 at h
    split at h <;> first | (cases h; done) | (cases h; dsimp only; first | decide | (have e1 : sl_ct 9 = 1 := rfl; rw [e1] at hc; first | exact hc | (show _ < 94; omega) | (show _ < 3; omega) | (show _ < 2; omega)))
  · have h : sl_rd10 m i k = .inr (.inl (some q)) := h
    unfold sl_rd10 at h
    split at h <;> first | (cases h; done) | (cases h; dsimp only; first | decide | (have e1 : sl_ct 10 = 1 := rfl; rw [e1] at hc; first | exact hc | (show _ < 94; omega) | (show _ < 3; omega) | (show _ < 2; omega)))
  · have h : sl_rd11 m i k = .inr (.inl (some q)) := h
    unfold sl_rd11 at h
    split at h <;> first | (cases h; done) | (cases h; dsimp only; first | decide | (have e1 : sl_ct 11 = 1 := rfl; rw [e1] at hc; first | exact hc | (show _ < 94; omega) | (show _ < 3; omega) | (show _ < 2; omega)))
  · cases h
  · have h : (Sum.inr (Sum.inl (some (2, 40 * i + k))) : sl_V) = .inr (.inl (some q)) := h
    cases h
    have e1 : sl_ct 22 = 2 := rfl
    have e2 : sl_ln 22 i = 40 := rfl
    have hk := hk (by omega)
    rw [e1] at hc; rw [e2] at hk
    show _ < 80
    omega
  · cases h
  · cases h
  · cases h
  · cases h
  · cases h
  · cases h
  · cases h
  · cases h
  · cases h
  · cases h
  · cases h
  · cases h
  · cases h
  · cases h
  · cases h
  · cases h
  · cases h
  · cases h
  · cases h
  · cases h
  · cases h
  · cases h
  · cases h
  · cases h
  · cases h
  · cases h
  · cases h
  · cases h
  · cases h
  · cases h
  · cases h
def sl_MS (_ : sl_M) : Prop := True
def sl_cS (_ : sl_M) : Nat := 331
def sl_sS (_ : sl_M) : Nat := 0
theorem sl_wr_in {m m1 : sl_M} {c i k : Nat} {v : sl_V} (h : sl_wr m c i k v = some m1) : (∃ x, v = .inl x ∧ sl_wk c k = true ∧ m1 = sl_up m c i k x) ∨ (∃ y, v = .inr (.inr y) ∧ c = 40 ∧ m1 = sl_u2 m y) := by
  unfold sl_wr at h
  split at h
  · rename_i x
    cases hw : sl_wk c k with
    | false => rw [hw] at h; cases h
    | true => rw [hw] at h; exact Or.inl ⟨x, rfl, rfl, (Option.some.inj h).symm⟩
  · rename_i y
    cases hw : (c == 40) with
    | false => rw [hw] at h; cases h
    | true => rw [hw] at h; exact Or.inr ⟨y, rfl, eq_of_beq hw, (Option.some.inj h).symm⟩
  · cases h
theorem sl_wk41 (k : Nat) : sl_wk 41 k = false := rfl
theorem sl_memS {base b : Nat} (hb : b < base) : sl_Mem (sl_ad base b) base 331 sl_ln sl_rd sl_VS sl_cS sl_wr sl_al sl_MS sl_sS := by
  refine ⟨fun m c i k v m1 hw hv hq hI hc => ?_, fun m c i k q hv _ hk h => sl_rdr hv hk h, fun m q r hq hr h => sl_ap hb hq hr h, fun m t x q m1 h => by cases h⟩
  have hv : i < sl_ct c := hv
  rcases sl_wr_in hw with ⟨x, rfl, hwk, rfl⟩ | ⟨y, rfl, rfl, rfl⟩
  · refine ⟨trivial, rfl, rfl, fun _ => Iff.rfl, ?_, fun c1 i1 _ hne => ?_, fun k1 => ?_⟩
    · unfold sl_ad
      cases e : (c == 41) with
      | true => rw [eq_of_beq e, sl_wk41] at hwk; cases hwk
      | false => exact Nat.le_add_right _ _
    · funext k1
      refine sl_rdc ?_ (fun _ => rfl)
      rw [sl_up_at, if_neg]
      rintro ⟨rfl, rfl, -⟩
      exact hne rfl
    · intro _
      by_cases hk : k1 = k
      · subst hk
        rw [if_pos rfl]
        exact sl_rdw hv hwk
      · rw [if_neg hk]
        refine sl_rdc ?_ (fun _ => rfl)
        rw [sl_up_at, if_neg]
        rintro ⟨-, -, h⟩
        exact hk h
  · refine ⟨trivial, rfl, rfl, fun _ => Iff.rfl, Nat.le_add_right _ _, fun c1 i1 h1 hne => ?_, fun k1 => ?_⟩
    · funext k1
      refine sl_rdc rfl (fun h => ?_)
      subst h
      have h1 : i1 < 1 := h1
      have hv : i < 1 := hv
      exact absurd (by rw [show i1 = 0 by omega, show i = 0 by omega]) hne
    · intro hk
      have hk := hk (by omega)
      have e2 : sl_ln 40 i = 1 := rfl
      rw [e2] at hk
      rw [if_pos (by omega)]
      rfl
theorem sl_moS : sl_Mo sl_wr sl_al sl_cS sl_sS := ⟨fun _ _ _ _ _ _ _ => ⟨rfl, rfl⟩, fun _ _ _ _ _ h => by cases h⟩
end
