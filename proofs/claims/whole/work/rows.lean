section
-- ===== PART A: goes FIRST, ahead of the names: the tables' words, and 'selects' of the private methods out of them =====
/-- a private method of a class that the tables say can be made, by its rows of tables_1 -/
def lw_okq (q : MethodName × Nat) : Prop := (q.1.cls ≠ "java/lang/invoke/MethodHandle" ∧ q.1.cls ≠ "java/lang/invoke/VarHandle") ∧ Cond.instantiable q.1.cls q.2 ∈ tables_1 ∧ Cond.privateMethod q.1 ∈ tables_1 ∧ Cond.instanceMethod q.1 ∈ tables_1
theorem lw_p0 : lw_okq (⟨"PrePressRoom$Places", "sortByForm", "(IIII)V"⟩, 4) := ⟨⟨by decide +kernel, by decide +kernel⟩, List.mem_of_getElem? (i := 80) (by decide +kernel), List.mem_of_getElem? (i := 95) (by decide +kernel), List.mem_of_getElem? (i := 96) (by decide +kernel)⟩
theorem lw_p1 : lw_okq (⟨"PrePressRoom$Screen", "shiftOfRows", "(II)I"⟩, 6) := ⟨⟨by decide +kernel, by decide +kernel⟩, List.mem_of_getElem? (i := 123) (by decide +kernel), List.mem_of_getElem? (i := 136) (by decide +kernel), List.mem_of_getElem? (i := 137) (by decide +kernel)⟩
theorem lw_p2 : lw_okq (⟨"PrePressRoom$Screen", "isOfLattice", "(IIII)Z"⟩, 6) := ⟨⟨by decide +kernel, by decide +kernel⟩, List.mem_of_getElem? (i := 123) (by decide +kernel), List.mem_of_getElem? (i := 140) (by decide +kernel), List.mem_of_getElem? (i := 141) (by decide +kernel)⟩
theorem lw_p3 : lw_okq (⟨"PrePressRoom$Screen", "giveRanks", "([II)V"⟩, 6) := ⟨⟨by decide +kernel, by decide +kernel⟩, List.mem_of_getElem? (i := 123) (by decide +kernel), List.mem_of_getElem? (i := 152) (by decide +kernel), List.mem_of_getElem? (i := 153) (by decide +kernel)⟩
theorem lw_p4 : lw_okq (⟨"PrePressRoom$Screen", "classAt", "(II)I"⟩, 6) := ⟨⟨by decide +kernel, by decide +kernel⟩, List.mem_of_getElem? (i := 123) (by decide +kernel), List.mem_of_getElem? (i := 159) (by decide +kernel), List.mem_of_getElem? (i := 160) (by decide +kernel)⟩
theorem lw_p5 : lw_okq (⟨"java/lang/Throwable", "fillInStackTrace", "(I)Ljava/lang/Throwable;"⟩, 6) := ⟨⟨by decide +kernel, by decide +kernel⟩, List.mem_of_getElem? (i := 309) (by decide +kernel), List.mem_of_getElem? (i := 307) (by decide +kernel), List.mem_of_getElem? (i := 308) (by decide +kernel)⟩
theorem lw_p6 : lw_okq (⟨"PrePressRoom", "hasOtherSpot", "(II)Z"⟩, 8) := ⟨⟨by decide +kernel, by decide +kernel⟩, List.mem_of_getElem? (i := 21) (by decide +kernel), List.mem_of_getElem? (i := 358) (by decide +kernel), List.mem_of_getElem? (i := 359) (by decide +kernel)⟩
theorem lw_p7 : lw_okq (⟨"PrePressRoom$Job", "moveToBlack", "(II)V"⟩, 5) := ⟨⟨by decide +kernel, by decide +kernel⟩, List.mem_of_getElem? (i := 32) (by decide +kernel), List.mem_of_getElem? (i := 421) (by decide +kernel), List.mem_of_getElem? (i := 422) (by decide +kernel)⟩
theorem lw_p8 : lw_okq (⟨"PrePressRoom$Job", "keepLimit", "(II)V"⟩, 5) := ⟨⟨by decide +kernel, by decide +kernel⟩, List.mem_of_getElem? (i := 32) (by decide +kernel), List.mem_of_getElem? (i := 428) (by decide +kernel), List.mem_of_getElem? (i := 429) (by decide +kernel)⟩
theorem lw_p9 : lw_okq (⟨"PrePressRoom$Job", "countColours", "()I"⟩, 5) := ⟨⟨by decide +kernel, by decide +kernel⟩, List.mem_of_getElem? (i := 32) (by decide +kernel), List.mem_of_getElem? (i := 435) (by decide +kernel), List.mem_of_getElem? (i := 436) (by decide +kernel)⟩
theorem lw_p10 : lw_okq (⟨"PrePressRoom", "madeJob", "(III)LPrePressRoom$Job;"⟩, 8) := ⟨⟨by decide +kernel, by decide +kernel⟩, List.mem_of_getElem? (i := 21) (by decide +kernel), List.mem_of_getElem? (i := 452) (by decide +kernel), List.mem_of_getElem? (i := 453) (by decide +kernel)⟩
theorem lw_p11 : lw_okq (⟨"PrePressRoom$Spreader", "weigh", "(LPrePressRoom$Job;)V"⟩, 5) := ⟨⟨by decide +kernel, by decide +kernel⟩, List.mem_of_getElem? (i := 55) (by decide +kernel), List.mem_of_getElem? (i := 481) (by decide +kernel), List.mem_of_getElem? (i := 482) (by decide +kernel)⟩
theorem lw_p12 : lw_okq (⟨"PrePressRoom$Spreader", "lighterShyOf", "(I)J"⟩, 5) := ⟨⟨by decide +kernel, by decide +kernel⟩, List.mem_of_getElem? (i := 55) (by decide +kernel), List.mem_of_getElem? (i := 495) (by decide +kernel), List.mem_of_getElem? (i := 496) (by decide +kernel)⟩
theorem lw_p13 : lw_okq (⟨"PrePressRoom$Spreader", "isShy", "(II)Z"⟩, 5) := ⟨⟨by decide +kernel, by decide +kernel⟩, List.mem_of_getElem? (i := 55) (by decide +kernel), List.mem_of_getElem? (i := 499) (by decide +kernel), List.mem_of_getElem? (i := 500) (by decide +kernel)⟩
theorem lw_p14 : lw_okq (⟨"PrePressRoom$Spreader", "isLighter", "(II)Z"⟩, 5) := ⟨⟨by decide +kernel, by decide +kernel⟩, List.mem_of_getElem? (i := 55) (by decide +kernel), List.mem_of_getElem? (i := 503) (by decide +kernel), List.mem_of_getElem? (i := 504) (by decide +kernel)⟩
theorem lw_p15 : lw_okq (⟨"PrePressRoom$Spreader", "widenAcross", "()V"⟩, 5) := ⟨⟨by decide +kernel, by decide +kernel⟩, List.mem_of_getElem? (i := 55) (by decide +kernel), List.mem_of_getElem? (i := 511) (by decide +kernel), List.mem_of_getElem? (i := 512) (by decide +kernel)⟩
def lw_privs_1 : List (MethodName × Nat) := [(⟨"PrePressRoom$Places", "sortByForm", "(IIII)V"⟩, 4), (⟨"PrePressRoom$Screen", "shiftOfRows", "(II)I"⟩, 6), (⟨"PrePressRoom$Screen", "isOfLattice", "(IIII)Z"⟩, 6), (⟨"PrePressRoom$Screen", "giveRanks", "([II)V"⟩, 6), (⟨"PrePressRoom$Screen", "classAt", "(II)I"⟩, 6), (⟨"java/lang/Throwable", "fillInStackTrace", "(I)Ljava/lang/Throwable;"⟩, 6), (⟨"PrePressRoom", "hasOtherSpot", "(II)Z"⟩, 8), (⟨"PrePressRoom$Job", "moveToBlack", "(II)V"⟩, 5), (⟨"PrePressRoom$Job", "keepLimit", "(II)V"⟩, 5), (⟨"PrePressRoom$Job", "countColours", "()I"⟩, 5), (⟨"PrePressRoom", "madeJob", "(III)LPrePressRoom$Job;"⟩, 8), (⟨"PrePressRoom$Spreader", "weigh", "(LPrePressRoom$Job;)V"⟩, 5), (⟨"PrePressRoom$Spreader", "lighterShyOf", "(I)J"⟩, 5), (⟨"PrePressRoom$Spreader", "isShy", "(II)Z"⟩, 5), (⟨"PrePressRoom$Spreader", "isLighter", "(II)Z"⟩, 5), (⟨"PrePressRoom$Spreader", "widenAcross", "()V"⟩, 5)]
theorem lw_r1 : ∀ q ∈ lw_privs_1, lw_okq q := List.forall_mem_cons.mpr ⟨lw_p0, List.forall_mem_cons.mpr ⟨lw_p1, List.forall_mem_cons.mpr ⟨lw_p2, List.forall_mem_cons.mpr ⟨lw_p3, List.forall_mem_cons.mpr ⟨lw_p4, List.forall_mem_cons.mpr ⟨lw_p5, List.forall_mem_cons.mpr ⟨lw_p6, List.forall_mem_cons.mpr ⟨lw_p7, List.forall_mem_cons.mpr ⟨lw_p8, List.forall_mem_cons.mpr ⟨lw_p9, List.forall_mem_cons.mpr ⟨lw_p10, List.forall_mem_cons.mpr ⟨lw_p11, List.forall_mem_cons.mpr ⟨lw_p12, List.forall_mem_cons.mpr ⟨lw_p13, List.forall_mem_cons.mpr ⟨lw_p14, List.forall_mem_cons.mpr ⟨lw_p15, fun _ h => absurd h List.not_mem_nil⟩⟩⟩⟩⟩⟩⟩⟩⟩⟩⟩⟩⟩⟩⟩⟩
theorem lw_p16 : lw_okq (⟨"PrePressRoom$Spreader", "widenDown", "()V"⟩, 5) := ⟨⟨by decide +kernel, by decide +kernel⟩, List.mem_of_getElem? (i := 55) (by decide +kernel), List.mem_of_getElem? (i := 515) (by decide +kernel), List.mem_of_getElem? (i := 516) (by decide +kernel)⟩
theorem lw_p17 : lw_okq (⟨"PrePressRoom$Spreader", "markReached", "(LPrePressRoom$Job;)I"⟩, 5) := ⟨⟨by decide +kernel, by decide +kernel⟩, List.mem_of_getElem? (i := 55) (by decide +kernel), List.mem_of_getElem? (i := 519) (by decide +kernel), List.mem_of_getElem? (i := 520) (by decide +kernel)⟩
theorem lw_p18 : lw_okq (⟨"PrePressRoom", "isPrinted", "(LPrePressRoom$Job;III)Z"⟩, 8) := ⟨⟨by decide +kernel, by decide +kernel⟩, List.mem_of_getElem? (i := 21) (by decide +kernel), List.mem_of_getElem? (i := 583) (by decide +kernel), List.mem_of_getElem? (i := 584) (by decide +kernel)⟩
theorem lw_p19 : lw_okq (⟨"PrePressRoom$Sheets", "fold", "(LPrePressRoom$Leaf;II)V"⟩, 5) := ⟨⟨by decide +kernel, by decide +kernel⟩, List.mem_of_getElem? (i := 188) (by decide +kernel), List.mem_of_getElem? (i := 632) (by decide +kernel), List.mem_of_getElem? (i := 633) (by decide +kernel)⟩
theorem lw_p20 : lw_okq (⟨"PrePressRoom$Leaf", "turnOver", "(I)V"⟩, 5) := ⟨⟨by decide +kernel, by decide +kernel⟩, List.mem_of_getElem? (i := 195) (by decide +kernel), List.mem_of_getElem? (i := 640) (by decide +kernel), List.mem_of_getElem? (i := 641) (by decide +kernel)⟩
theorem lw_p21 : lw_okq (⟨"PrePressRoom", "needLaid", "()V"⟩, 8) := ⟨⟨by decide +kernel, by decide +kernel⟩, List.mem_of_getElem? (i := 21) (by decide +kernel), List.mem_of_getElem? (i := 663) (by decide +kernel), List.mem_of_getElem? (i := 664) (by decide +kernel)⟩
theorem lw_p22 : lw_okq (⟨"PrePressRoomModel", "fail", "(I)I"⟩, 31) := ⟨⟨by decide +kernel, by decide +kernel⟩, List.mem_of_getElem? (i := 709) (by decide +kernel), List.mem_of_getElem? (i := 821) (by decide +kernel), List.mem_of_getElem? (i := 822) (by decide +kernel)⟩
theorem lw_p23 : lw_okq (⟨"PrePressRoomModel", "separateColour", "(II)V"⟩, 31) := ⟨⟨by decide +kernel, by decide +kernel⟩, List.mem_of_getElem? (i := 709) (by decide +kernel), List.mem_of_getElem? (i := 850) (by decide +kernel), List.mem_of_getElem? (i := 851) (by decide +kernel)⟩
theorem lw_p24 : lw_okq (⟨"PrePressRoomModel", "has", "(IIII)Z"⟩, 31) := ⟨⟨by decide +kernel, by decide +kernel⟩, List.mem_of_getElem? (i := 709) (by decide +kernel), List.mem_of_getElem? (i := 858) (by decide +kernel), List.mem_of_getElem? (i := 859) (by decide +kernel)⟩
theorem lw_p25 : lw_okq (⟨"PrePressRoomModel", "amountAt", "(IIII)I"⟩, 31) := ⟨⟨by decide +kernel, by decide +kernel⟩, List.mem_of_getElem? (i := 709) (by decide +kernel), List.mem_of_getElem? (i := 862) (by decide +kernel), List.mem_of_getElem? (i := 863) (by decide +kernel)⟩
theorem lw_p26 : lw_okq (⟨"PrePressRoomModel", "amount", "(III)I"⟩, 31) := ⟨⟨by decide +kernel, by decide +kernel⟩, List.mem_of_getElem? (i := 709) (by decide +kernel), List.mem_of_getElem? (i := 866) (by decide +kernel), List.mem_of_getElem? (i := 867) (by decide +kernel)⟩
theorem lw_p27 : lw_okq (⟨"PrePressRoomModel", "spreading", "(IIII)I"⟩, 31) := ⟨⟨by decide +kernel, by decide +kernel⟩, List.mem_of_getElem? (i := 709) (by decide +kernel), List.mem_of_getElem? (i := 874) (by decide +kernel), List.mem_of_getElem? (i := 875) (by decide +kernel)⟩
theorem lw_p28 : lw_okq (⟨"PrePressRoomModel", "isLighter", "(III)Z"⟩, 31) := ⟨⟨by decide +kernel, by decide +kernel⟩, List.mem_of_getElem? (i := 709) (by decide +kernel), List.mem_of_getElem? (i := 878) (by decide +kernel), List.mem_of_getElem? (i := 879) (by decide +kernel)⟩
theorem lw_p29 : lw_okq (⟨"PrePressRoomModel", "weight", "(II)I"⟩, 31) := ⟨⟨by decide +kernel, by decide +kernel⟩, List.mem_of_getElem? (i := 709) (by decide +kernel), List.mem_of_getElem? (i := 882) (by decide +kernel), List.mem_of_getElem? (i := 883) (by decide +kernel)⟩
theorem lw_p30 : lw_okq (⟨"PrePressRoomModel", "isShy", "(III)Z"⟩, 31) := ⟨⟨by decide +kernel, by decide +kernel⟩, List.mem_of_getElem? (i := 709) (by decide +kernel), List.mem_of_getElem? (i := 886) (by decide +kernel), List.mem_of_getElem? (i := 887) (by decide +kernel)⟩
theorem lw_p31 : lw_okq (⟨"PrePressRoomModel", "rankOf", "(III)I"⟩, 31) := ⟨⟨by decide +kernel, by decide +kernel⟩, List.mem_of_getElem? (i := 709) (by decide +kernel), List.mem_of_getElem? (i := 902) (by decide +kernel), List.mem_of_getElem? (i := 903) (by decide +kernel)⟩
def lw_privs_2 : List (MethodName × Nat) := [(⟨"PrePressRoom$Spreader", "widenDown", "()V"⟩, 5), (⟨"PrePressRoom$Spreader", "markReached", "(LPrePressRoom$Job;)I"⟩, 5), (⟨"PrePressRoom", "isPrinted", "(LPrePressRoom$Job;III)Z"⟩, 8), (⟨"PrePressRoom$Sheets", "fold", "(LPrePressRoom$Leaf;II)V"⟩, 5), (⟨"PrePressRoom$Leaf", "turnOver", "(I)V"⟩, 5), (⟨"PrePressRoom", "needLaid", "()V"⟩, 8), (⟨"PrePressRoomModel", "fail", "(I)I"⟩, 31), (⟨"PrePressRoomModel", "separateColour", "(II)V"⟩, 31), (⟨"PrePressRoomModel", "has", "(IIII)Z"⟩, 31), (⟨"PrePressRoomModel", "amountAt", "(IIII)I"⟩, 31), (⟨"PrePressRoomModel", "amount", "(III)I"⟩, 31), (⟨"PrePressRoomModel", "spreading", "(IIII)I"⟩, 31), (⟨"PrePressRoomModel", "isLighter", "(III)Z"⟩, 31), (⟨"PrePressRoomModel", "weight", "(II)I"⟩, 31), (⟨"PrePressRoomModel", "isShy", "(III)Z"⟩, 31), (⟨"PrePressRoomModel", "rankOf", "(III)I"⟩, 31)]
theorem lw_r2 : ∀ q ∈ lw_privs_2, lw_okq q := List.forall_mem_cons.mpr ⟨lw_p16, List.forall_mem_cons.mpr ⟨lw_p17, List.forall_mem_cons.mpr ⟨lw_p18, List.forall_mem_cons.mpr ⟨lw_p19, List.forall_mem_cons.mpr ⟨lw_p20, List.forall_mem_cons.mpr ⟨lw_p21, List.forall_mem_cons.mpr ⟨lw_p22, List.forall_mem_cons.mpr ⟨lw_p23, List.forall_mem_cons.mpr ⟨lw_p24, List.forall_mem_cons.mpr ⟨lw_p25, List.forall_mem_cons.mpr ⟨lw_p26, List.forall_mem_cons.mpr ⟨lw_p27, List.forall_mem_cons.mpr ⟨lw_p28, List.forall_mem_cons.mpr ⟨lw_p29, List.forall_mem_cons.mpr ⟨lw_p30, List.forall_mem_cons.mpr ⟨lw_p31, fun _ h => absurd h List.not_mem_nil⟩⟩⟩⟩⟩⟩⟩⟩⟩⟩⟩⟩⟩⟩⟩⟩
theorem lw_p32 : lw_okq (⟨"PrePressRoomModel", "know", "(I)V"⟩, 31) := ⟨⟨by decide +kernel, by decide +kernel⟩, List.mem_of_getElem? (i := 709) (by decide +kernel), List.mem_of_getElem? (i := 906) (by decide +kernel), List.mem_of_getElem? (i := 907) (by decide +kernel)⟩
theorem lw_p33 : lw_okq (⟨"PrePressRoomModel", "findHeart", "(III)V"⟩, 31) := ⟨⟨by decide +kernel, by decide +kernel⟩, List.mem_of_getElem? (i := 709) (by decide +kernel), List.mem_of_getElem? (i := 910) (by decide +kernel), List.mem_of_getElem? (i := 911) (by decide +kernel)⟩
theorem lw_p34 : lw_okq (⟨"PrePressRoomModel", "sizeOf", "(I)I"⟩, 31) := ⟨⟨by decide +kernel, by decide +kernel⟩, List.mem_of_getElem? (i := 709) (by decide +kernel), List.mem_of_getElem? (i := 914) (by decide +kernel), List.mem_of_getElem? (i := 915) (by decide +kernel)⟩
theorem lw_p35 : lw_okq (⟨"PrePressRoomModel", "isBefore", "(IIIII)Z"⟩, 31) := ⟨⟨by decide +kernel, by decide +kernel⟩, List.mem_of_getElem? (i := 709) (by decide +kernel), List.mem_of_getElem? (i := 921) (by decide +kernel), List.mem_of_getElem? (i := 922) (by decide +kernel)⟩
theorem lw_p36 : lw_okq (⟨"PrePressRoomModel", "formOf", "(III)I"⟩, 31) := ⟨⟨by decide +kernel, by decide +kernel⟩, List.mem_of_getElem? (i := 709) (by decide +kernel), List.mem_of_getElem? (i := 925) (by decide +kernel), List.mem_of_getElem? (i := 926) (by decide +kernel)⟩
theorem lw_p37 : lw_okq (⟨"PrePressRoomModel", "heartNumber", "(I)I"⟩, 31) := ⟨⟨by decide +kernel, by decide +kernel⟩, List.mem_of_getElem? (i := 709) (by decide +kernel), List.mem_of_getElem? (i := 929) (by decide +kernel), List.mem_of_getElem? (i := 930) (by decide +kernel)⟩
theorem lw_p38 : lw_okq (⟨"PrePressRoomModel", "addHeart", "(I)V"⟩, 31) := ⟨⟨by decide +kernel, by decide +kernel⟩, List.mem_of_getElem? (i := 709) (by decide +kernel), List.mem_of_getElem? (i := 933) (by decide +kernel), List.mem_of_getElem? (i := 934) (by decide +kernel)⟩
theorem lw_p39 : lw_okq (⟨"PrePressRoomModel", "isDot", "(IIII)Z"⟩, 31) := ⟨⟨by decide +kernel, by decide +kernel⟩, List.mem_of_getElem? (i := 709) (by decide +kernel), List.mem_of_getElem? (i := 941) (by decide +kernel), List.mem_of_getElem? (i := 942) (by decide +kernel)⟩
theorem lw_p40 : lw_okq (⟨"PrePressRoomModel", "fold", "(ZI)V"⟩, 31) := ⟨⟨by decide +kernel, by decide +kernel⟩, List.mem_of_getElem? (i := 709) (by decide +kernel), List.mem_of_getElem? (i := 957) (by decide +kernel), List.mem_of_getElem? (i := 958) (by decide +kernel)⟩
def lw_privs_3 : List (MethodName × Nat) := [(⟨"PrePressRoomModel", "know", "(I)V"⟩, 31), (⟨"PrePressRoomModel", "findHeart", "(III)V"⟩, 31), (⟨"PrePressRoomModel", "sizeOf", "(I)I"⟩, 31), (⟨"PrePressRoomModel", "isBefore", "(IIIII)Z"⟩, 31), (⟨"PrePressRoomModel", "formOf", "(III)I"⟩, 31), (⟨"PrePressRoomModel", "heartNumber", "(I)I"⟩, 31), (⟨"PrePressRoomModel", "addHeart", "(I)V"⟩, 31), (⟨"PrePressRoomModel", "isDot", "(IIII)Z"⟩, 31), (⟨"PrePressRoomModel", "fold", "(ZI)V"⟩, 31)]
theorem lw_r3 : ∀ q ∈ lw_privs_3, lw_okq q := List.forall_mem_cons.mpr ⟨lw_p32, List.forall_mem_cons.mpr ⟨lw_p33, List.forall_mem_cons.mpr ⟨lw_p34, List.forall_mem_cons.mpr ⟨lw_p35, List.forall_mem_cons.mpr ⟨lw_p36, List.forall_mem_cons.mpr ⟨lw_p37, List.forall_mem_cons.mpr ⟨lw_p38, List.forall_mem_cons.mpr ⟨lw_p39, List.forall_mem_cons.mpr ⟨lw_p40, fun _ h => absurd h List.not_mem_nil⟩⟩⟩⟩⟩⟩⟩⟩⟩
def lw_privs : List (MethodName × Nat) := lw_privs_1 ++ (lw_privs_2 ++ (lw_privs_3))
def lw_tbl : List Cond := k2_sels lw_privs ++ tables_1
theorem lw_privs_ok : ∀ q ∈ lw_privs, lw_okq q := by
  show ∀ q ∈ lw_privs_1 ++ (lw_privs_2 ++ (lw_privs_3)), lw_okq q
  exact List.forall_mem_append.mpr ⟨lw_r1, List.forall_mem_append.mpr ⟨lw_r2, lw_r3⟩⟩
end
section
/-! A small machine over the method's own instructions: its heap is a function from addresses to pictures of cells; what an instruction names stands beside it. -/
abbrev xE : Type := (Nat × vp_A) ⊕ (Nat × List Value)
abbrev xH : Type := (Nat → Option xE) × Nat × Nat
abbrev xF : Type := Nat × List (Option Value) × List Value
/-- an instruction, the next pc, two numbers, a value, places in the list of words -/
abbrev xI : Type := Instr × Nat × Nat × Nat × Value × List Nat
abbrev xO : Type := Option Value ⊕ (Nat × Nat)
abbrev xR : Type := xO × xH
/-- code by pc; handlers (from, to, at, the entry that names the kind, the kind); size of the frame; name; bytes; result; frames and words of room -/
abbrev xM : Type := (Nat → Option xI) × List (Nat × Nat × Nat × Nat × Nat) × Nat × MethodName × ByteArray × Option FieldType × Nat × Nat
abbrev xcd (M : xM) : Nat → Option xI := M.1
abbrev xhs (M : xM) : List (Nat × Nat × Nat × Nat × Nat) := M.2.1
abbrev xml (M : xM) : Nat := M.2.2.1
abbrev xnm (M : xM) : MethodName := M.2.2.2.1
abbrev xby (M : xM) : ByteArray := M.2.2.2.2.1
abbrev xrt (M : xM) : Option FieldType := M.2.2.2.2.2.1
abbrev xdp (M : xM) : Nat := M.2.2.2.2.2.2.1
abbrev xlc (M : xM) : Nat := M.2.2.2.2.2.2.2
def xlk1 : List (Nat × xI) → Nat → Option xI
  | [], _ => none
  | (k, e) :: t, pc => bif Nat.beq k pc then some e else xlk1 t pc
def xlk : List (Nat × List (Nat × xI)) → Nat → Option xI
  | [], _ => none
  | (b, c) :: t, pc => bif Nat.blt pc b then xlk1 c pc else xlk t pc
def xset (h : xH) (a : Nat) (e : xE) : xH := (fun q => if q = a then some e else h.1 q, h.2.1, h.2.2)
def xnew (h : xH) (e : xE) (n : Nat) : xH := (fun q => if q = h.2.1 then some e else h.1 q, h.2.1 + 1, h.2.2 + n)
def xget : List (Option Value) → Nat → Option Value
  | [], _ => none
  | x :: _, 0 => x
  | _ :: t, i + 1 => xget t i
def xnth : List Value → Nat → Option Value
  | [], _ => none
  | x :: _, 0 => some x
  | _ :: t, i + 1 => xnth t i
def xupd : List Value → Nat → Value → List Value
  | [], _, _ => []
  | _ :: t, 0, v => v :: t
  | x :: t, i + 1, v => x :: xupd t i v
/-- what stays of the slot in front of a slot that is written -/
def xkeep : Option Value → Option Value
  | some (.int x) => some (.int x)
  | some (.ref x) => some (.ref x)
  | some .null => some .null
  | _ => none
def xst1 (v : Value) : Nat → List (Option Value) → Option (List (Option Value))
  | 0, _ :: t => some (some v :: t)
  | 1, x :: _ :: t => some (xkeep x :: some v :: t)
  | i + 2, x :: t => match xst1 v (i + 1) t with
    | some t' => some (x :: t')
    | none => none
  | _, _ => none
def xst2 (v : Value) : Nat → List (Option Value) → Option (List (Option Value))
  | 0, _ :: _ :: t => some (some v :: none :: t)
  | 1, x :: _ :: _ :: t => some (xkeep x :: some v :: none :: t)
  | i + 2, x :: t => match xst2 v (i + 1) t with
    | some t' => some (x :: t')
    | none => none
  | _, _ => none
/-- the slots with which a method begins -/
def xpad : Nat → Bool → List Value → List (Option Value)
  | 0, _, _ => []
  | n + 1, true, vs => none :: xpad n false vs
  | n + 1, false, [] => none :: xpad n false []
  | n + 1, false, v :: vs => some v :: xpad n (v.category == 2) vs
def xpop : Nat → List Value → List Value → Option (List Value × List Value)
  | 0, acc, st => some (acc, st)
  | n + 1, acc, v :: st => xpop n (v :: acc) st
  | _ + 1, _, [] => none
def xwt : List Value → Nat
  | [] => 0
  | v :: t => v.category + xwt t
def xif (c : ClassFile.Cond) (x y : Int32) (A B : Option xR) : Option xR := match c with
  | .eq => if x = y then A else B
  | .ne => if x = y then B else A
  | .lt => if x < y then A else B
  | .ge => if y ≤ x then A else B
  | .gt => if y < x then A else B
  | .le => if x ≤ y then A else B
def xhd : List (Nat × Nat × Nat × Nat × Nat) → Nat → Nat → Option Nat
  | [], _, _ => none
  | (s, e, p, _, k) :: t, pc, c => bif Nat.ble s pc && Nat.blt pc e && Nat.beq k c then some p else xhd t pc c
/-- which field types: 0 an int, 1 a boolean, 2 a reference -/
def xfit : Nat → Value → Bool
  | 0, .int _ => true
  | 1, .int x => decide (x = 0 ∨ x = 1)
  | 2, .ref _ => true
  | _, _ => false
/-- the arrays' kinds: 0 int, 1 long, 2 boolean, 3 an int array that is only read, 4 int arrays, 5 + c objects of the kind c -/
abbrev xint (f : Nat → Int32) : (Nat → Int32) ⊕ (Nat → Int64) ⊕ (Nat → UInt32) ⊕ (Nat → UInt64) ⊕ (Nat → Option Nat) := .inl f
abbrev xlng (f : Nat → Int64) : (Nat → Int32) ⊕ (Nat → Int64) ⊕ (Nat → UInt32) ⊕ (Nat → UInt64) ⊕ (Nat → Option Nat) := .inr (.inl f)
abbrev xref (f : Nat → Option Nat) : (Nat → Int32) ⊕ (Nat → Int64) ⊕ (Nat → UInt32) ⊕ (Nat → UInt64) ⊕ (Nat → Option Nat) := .inr (.inr (.inr (.inr f)))
def xzero : Nat → (Nat → Int32) ⊕ (Nat → Int64) ⊕ (Nat → UInt32) ⊕ (Nat → UInt64) ⊕ (Nat → Option Nat)
  | 0 => xint (fun _ => 0)
  | 1 => xlng (fun _ => 0)
  | 2 => xint (fun _ => 0)
  | _ => xref (fun _ => none)
abbrev xA (t n : Nat) (c : (Nat → Int32) ⊕ (Nat → Int64) ⊕ (Nat → UInt32) ⊕ (Nat → UInt64) ⊕ (Nat → Option Nat)) : xE := .inl (t, n, c)
abbrev xO' (c : Nat) (fs : List Value) : xE := .inr (c, fs)
def xgrid (h : xH) (ta tb n k : Nat) : xH :=
  (fun q => if q = h.2.1 then some (xA ta n (xref (fun j => if j < n then some (h.2.1 + 1 + j) else none))) else if h.2.1 < q ∧ q ≤ h.2.1 + n then some (xA tb k (xzero tb)) else h.1 q, h.2.1 + 1 + n, h.2.2 + n + n * k)
/-! the shapes of a stack, of a cell -/
def xI1 (st : List Value) (k : Int32 → List Value → Option xR) : Option xR := match st with
  | .int x :: t => k x t
  | _ => none
def xI2 (st : List Value) (k : Int32 → Int32 → List Value → Option xR) : Option xR := match st with
  | .int y :: .int x :: t => k x y t
  | _ => none
def xL1 (st : List Value) (k : Int64 → List Value → Option xR) : Option xR := match st with
  | .long x :: t => k x t
  | _ => none
def xL2 (st : List Value) (k : Int64 → Int64 → List Value → Option xR) : Option xR := match st with
  | .long y :: .long x :: t => k x y t
  | _ => none
def xLI (st : List Value) (k : Int64 → Int32 → List Value → Option xR) : Option xR := match st with
  | .int y :: .long x :: t => k x y t
  | _ => none
def xA1 (st : List Value) (k : Nat → List Value → Option xR) : Option xR := match st with
  | .ref o :: t => k o t
  | _ => none
def xAI (st : List Value) (k : Nat → Int32 → List Value → Option xR) : Option xR := match st with
  | .int j :: .ref o :: t => k o j t
  | _ => none
def xAII (st : List Value) (k : Nat → Int32 → Int32 → List Value → Option xR) : Option xR := match st with
  | .int x :: .int j :: .ref o :: t => k o j x t
  | _ => none
def xAIL (st : List Value) (k : Nat → Int32 → Int64 → List Value → Option xR) : Option xR := match st with
  | .long x :: .int j :: .ref o :: t => k o j x t
  | _ => none
def xAIA (st : List Value) (k : Nat → Int32 → Nat → List Value → Option xR) : Option xR := match st with
  | .ref w :: .int j :: .ref o :: t => k o j w t
  | _ => none
def xAV (st : List Value) (k : Nat → Value → List Value → Option xR) : Option xR := match st with
  | w :: .ref o :: t => k o w t
  | _ => none
def xcopy (st : List Value) (k : Nat → Int32 → Nat → Int32 → Int32 → List Value → Option xR) : Option xR := match st with
  | .int n :: .int dp :: .ref d :: .int sp :: .ref s :: t => k s sp d dp n t
  | _ => none
def xvI (o : Option Value) (k : Int32 → Option xR) : Option xR := match o with
  | some (.int x) => k x
  | _ => none
def xvL (o : Option Value) (k : Int64 → Option xR) : Option xR := match o with
  | some (.long x) => k x
  | _ => none
def xvA (o : Option Value) (k : Nat → Option xR) : Option xR := match o with
  | some (.ref x) => k x
  | _ => none
def xvN (o : Value) (k : Int32 → Option xR) : Option xR := match o with
  | .int x => k x
  | _ => none
def xvK (o : Value) (k : Nat → Option xR) : Option xR := match o with
  | .retAddr x => k x
  | _ => none
def xS {α : Type} (o : Option α) (k : α → Option xR) : Option xR := match o with
  | some x => k x
  | none => none
def xB (b : Bool) (k : Option xR) : Option xR := match b with
  | true => k
  | false => none
def xN (c : Prop) [Decidable c] (k : Option xR) : Option xR := if c then none else k
def xcI (o : Option xE) (k : Nat → Nat → (Nat → Int32) → Option xR) : Option xR := match o with
  | some (.inl (t, n, .inl g)) => k t n g
  | _ => none
def xcL (o : Option xE) (k : Nat → Nat → (Nat → Int64) → Option xR) : Option xR := match o with
  | some (.inl (t, n, .inr (.inl g))) => k t n g
  | _ => none
def xcR (o : Option xE) (k : Nat → Nat → (Nat → Option Nat) → Option xR) : Option xR := match o with
  | some (.inl (t, n, .inr (.inr (.inr (.inr g))))) => k t n g
  | _ => none
def xcA (o : Option xE) (k : Nat → Option xR) : Option xR := match o with
  | some (.inl (_, n, _)) => k n
  | _ => none
def xcO (o : Option xE) (k : Nat → List Value → Option xR) : Option xR := match o with
  | some (.inr (c, fs)) => k c fs
  | _ => none
def xcat1 : Value → Bool
  | .int _ => true
  | .ref _ => true
  | .null => true
  | _ => false
/-- behind a call -/
def xback (ih : xM → xF → xH → Option xR) (M : xM) (pc nx : Nat) (l : List (Option Value)) (rest : List Value) (r : xR) : Option xR := match r with
  | (.inl none, h) => ih M (nx, l, rest) h
  | (.inl (some v), h) => ih M (nx, l, v :: rest) h
  | (.inr (c, a), h) => match xhs M with
    | [] => some (.inr (c, a), h)
    | t => xS (xhd t pc c) fun p => ih M (p, l, [.ref a]) h
def xcall (G : Nat → xM) (ih : xM → xF → xH → Option xR) (M : xM) (pc nx : Nat) (l : List (Option Value)) (z : Nat) (as rest : List Value) (h : xH) : Option xR :=
  xB (Nat.ble (xwt rest) 8 && Nat.ble (xwt as) (xml (G z))) (xS (ih (G z) (0, xpad (xml (G z)) false as, []) h) fun r => xback ih M pc nx l rest r)
def xop (V : Nat → Value) (F : Nat → List Value) (G : Nat → xM) (ih : xM → xF → xH → Option xR) (M : xM) (f : xF) (h : xH) (i : Instr) (nx a b : Nat) (v : Value) : Option xR :=
  match i with
  | .iconst _ => ih M (nx, f.2.1, v :: f.2.2) h
  | .bipush _ => ih M (nx, f.2.1, v :: f.2.2) h
  | .sipush _ => ih M (nx, f.2.1, v :: f.2.2) h
  | .lconst _ => ih M (nx, f.2.1, v :: f.2.2) h
  | .ldc _ => ih M (nx, f.2.1, v :: f.2.2) h
  | .ldc_w _ => ih M (nx, f.2.1, v :: f.2.2) h
  | .ldc2_w _ => ih M (nx, f.2.1, v :: f.2.2) h
  | .getstatic _ => ih M (nx, f.2.1, V a :: f.2.2) h
  | .iload _ => xvI (xget f.2.1 a) fun x => ih M (nx, f.2.1, .int x :: f.2.2) h
  | .iload_n _ => xvI (xget f.2.1 a) fun x => ih M (nx, f.2.1, .int x :: f.2.2) h
  | .lload _ => xvL (xget f.2.1 a) fun x => ih M (nx, f.2.1, .long x :: f.2.2) h
  | .lload_n _ => xvL (xget f.2.1 a) fun x => ih M (nx, f.2.1, .long x :: f.2.2) h
  | .aload _ => xvA (xget f.2.1 a) fun x => ih M (nx, f.2.1, .ref x :: f.2.2) h
  | .aload_n _ => xvA (xget f.2.1 a) fun x => ih M (nx, f.2.1, .ref x :: f.2.2) h
  | .istore _ => xI1 f.2.2 fun x st => xS (xst1 (.int x) a f.2.1) fun l => ih M (nx, l, st) h
  | .istore_n _ => xI1 f.2.2 fun x st => xS (xst1 (.int x) a f.2.1) fun l => ih M (nx, l, st) h
  | .astore _ => xA1 f.2.2 fun x st => xS (xst1 (.ref x) a f.2.1) fun l => ih M (nx, l, st) h
  | .astore_n _ => xA1 f.2.2 fun x st => xS (xst1 (.ref x) a f.2.1) fun l => ih M (nx, l, st) h
  | .lstore _ => xL1 f.2.2 fun x st => xS (xst2 (.long x) a f.2.1) fun l => ih M (nx, l, st) h
  | .lstore_n _ => xL1 f.2.2 fun x st => xS (xst2 (.long x) a f.2.1) fun l => ih M (nx, l, st) h
  | .iinc _ _ => xvI (xget f.2.1 a) fun x => xvN v fun c => xS (xst1 (.int (x + c)) a f.2.1) fun l => ih M (nx, l, f.2.2) h
  | .iadd => xI2 f.2.2 fun x y st => ih M (nx, f.2.1, .int (x + y) :: st) h
  | .isub => xI2 f.2.2 fun x y st => ih M (nx, f.2.1, .int (x - y) :: st) h
  | .imul => xI2 f.2.2 fun x y st => ih M (nx, f.2.1, .int (x * y) :: st) h
  | .iand => xI2 f.2.2 fun x y st => ih M (nx, f.2.1, .int (x &&& y) :: st) h
  | .ior => xI2 f.2.2 fun x y st => ih M (nx, f.2.1, .int (x ||| y) :: st) h
  | .ixor => xI2 f.2.2 fun x y st => ih M (nx, f.2.1, .int (x ^^^ y) :: st) h
  | .ishl => xI2 f.2.2 fun x y st => ih M (nx, f.2.1, .int (x <<< (y &&& 31)) :: st) h
  | .ishr => xI2 f.2.2 fun x y st => ih M (nx, f.2.1, .int (x >>> (y &&& 31)) :: st) h
  | .iushr => xI2 f.2.2 fun x y st => ih M (nx, f.2.1, .int ((x.toUInt32 >>> (y.toUInt32 &&& Int32.toUInt32 31)).toInt32) :: st) h
  | .idiv => xI2 f.2.2 fun x y st => xN (y = 0) (ih M (nx, f.2.1, .int (x / y) :: st) h)
  | .irem => xI2 f.2.2 fun x y st => xN (y = 0) (ih M (nx, f.2.1, .int (x - x / y * y) :: st) h)
  | .ineg => xI1 f.2.2 fun x st => ih M (nx, f.2.1, .int (-x) :: st) h
  | .ladd => xL2 f.2.2 fun x y st => ih M (nx, f.2.1, .long (x + y) :: st) h
  | .lsub => xL2 f.2.2 fun x y st => ih M (nx, f.2.1, .long (x - y) :: st) h
  | .land => xL2 f.2.2 fun x y st => ih M (nx, f.2.1, .long (x &&& y) :: st) h
  | .lor => xL2 f.2.2 fun x y st => ih M (nx, f.2.1, .long (x ||| y) :: st) h
  | .lshl => xLI f.2.2 fun x y st => ih M (nx, f.2.1, .long (x <<< (y.toInt64 &&& 63)) :: st) h
  | .lushr => xLI f.2.2 fun x y st => ih M (nx, f.2.1, .long ((x.toUInt64 >>> (y.toInt64.toUInt64 &&& Int64.toUInt64 63)).toInt64) :: st) h
  | .lcmp => xL2 f.2.2 fun x y st => ih M (nx, f.2.1, .int (lg_cmp x y) :: st) h
  | .i2l => xI1 f.2.2 fun x st => ih M (nx, f.2.1, .long x.toInt64 :: st) h
  | .l2i => xL1 f.2.2 fun x st => ih M (nx, f.2.1, .int x.toInt32 :: st) h
  | .dup => match f.2.2 with
    | w :: st => xB (xcat1 w) (ih M (nx, f.2.1, w :: w :: st) h)
    | _ => none
  | .dup2 => match f.2.2 with
    | w :: u :: st => xB (xcat1 w && xcat1 u) (ih M (nx, f.2.1, w :: u :: w :: u :: st) h)
    | _ => none
  | .dup_x1 => match f.2.2 with
    | w :: u :: st => xB (xcat1 w && xcat1 u) (ih M (nx, f.2.1, w :: u :: w :: st) h)
    | _ => none
  | .dup_x2 => match f.2.2 with
    | w :: u :: t :: st => xB (xcat1 w && xcat1 u && xcat1 t) (ih M (nx, f.2.1, w :: u :: t :: w :: st) h)
    | _ => none
  | .pop => match f.2.2 with
    | w :: st => xB (xcat1 w) (ih M (nx, f.2.1, st) h)
    | _ => none
  | .ifCond c _ => xI1 f.2.2 fun x st => xif c x 0 (ih M (a, f.2.1, st) h) (ih M (nx, f.2.1, st) h)
  | .if_icmp c _ => xI2 f.2.2 fun x y st => xif c x y (ih M (a, f.2.1, st) h) (ih M (nx, f.2.1, st) h)
  | .goto _ => ih M (a, f.2.1, f.2.2) h
  | .tableswitch _ lo hi offs => xI1 f.2.2 fun x st => if x.toInt < lo ∨ hi < x.toInt then ih M (a, f.2.1, st) h else
      xS offs[(x.toInt - lo).toNat]? fun o => xN ((f.1 : Int) + o < 0) (ih M (((f.1 : Int) + o).toNat, f.2.1, st) h)
  | .ireturn => match f.2.2, xrt M with
    | [.int x], some .int => some (.inl (some (.int x)), h)
    | [.int x], some .boolean => xB (decide (x = 0 ∨ x = 1)) (some (.inl (some (.int x)), h))
    | _, _ => none
  | .lreturn => match f.2.2, xrt M with
    | [.long x], some .long => some (.inl (some (.long x)), h)
    | _, _ => none
  | .areturn => match f.2.2, xrt M with
    | [.ref x], some (.object _) => some (.inl (some (.ref x)), h)
    | [.ref x], some (.array _) => some (.inl (some (.ref x)), h)
    | _, _ => none
  | .return_ => match f.2.2, xrt M with
    | [], none => some (.inl none, h)
    | _, _ => none
  | .getfield _ => xA1 f.2.2 fun o st => xcO (h.1 o) fun c fs => xB (Nat.beq c a) (xS (xnth fs b) fun w => ih M (nx, f.2.1, w :: st) h)
  | .putfield _ => xAV f.2.2 fun o w st => xvK v fun k => xcO (h.1 o) fun c fs => xB (Nat.beq c a && Nat.blt b fs.length && xfit k w) (ih M (nx, f.2.1, st) (xset h o (xO' c (xupd fs b w))))
  | .iaload => xAI f.2.2 fun o j st => xcI (h.1 o) fun t n g => xB (Nat.beq t 0 || Nat.beq t 3) (xN (j < 0 ∨ n ≤ j.toNatClampNeg) (ih M (nx, f.2.1, .int (g j.toNatClampNeg) :: st) h))
  | .baload => xAI f.2.2 fun o j st => xcI (h.1 o) fun t n g => xB (Nat.beq t 2) (xN (j < 0 ∨ n ≤ j.toNatClampNeg) (ih M (nx, f.2.1, .int (g j.toNatClampNeg) :: st) h))
  | .laload => xAI f.2.2 fun o j st => xcL (h.1 o) fun t n g => xB (Nat.beq t 1) (xN (j < 0 ∨ n ≤ j.toNatClampNeg) (ih M (nx, f.2.1, .long (g j.toNatClampNeg) :: st) h))
  | .aaload => xAI f.2.2 fun o j st => xcR (h.1 o) fun t n g => xB (Nat.ble 4 t) (xN (j < 0 ∨ n ≤ j.toNatClampNeg) (xS (g j.toNatClampNeg) fun w => ih M (nx, f.2.1, .ref w :: st) h))
  | .iastore => xAII f.2.2 fun o j x st => xcI (h.1 o) fun t n g => xB (Nat.beq t 0) (xN (j < 0 ∨ n ≤ j.toNatClampNeg) (ih M (nx, f.2.1, st) (xset h o (xA t n (xint (upd g j.toNatClampNeg x))))))
  | .bastore => xAII f.2.2 fun o j x st => xcI (h.1 o) fun t n g => xB (Nat.beq t 2 && decide (x = 0 ∨ x = 1)) (xN (j < 0 ∨ n ≤ j.toNatClampNeg) (ih M (nx, f.2.1, st) (xset h o (xA t n (xint (upd g j.toNatClampNeg x))))))
  | .lastore => xAIL f.2.2 fun o j x st => xcL (h.1 o) fun t n g => xB (Nat.beq t 1) (xN (j < 0 ∨ n ≤ j.toNatClampNeg) (ih M (nx, f.2.1, st) (xset h o (xA t n (xlng (vp_updL g j.toNatClampNeg x))))))
  | .aastore => xAIA f.2.2 fun o j w st => xcR (h.1 o) fun t n g => xcO (h.1 w) fun c _ => xB (Nat.beq t (5 + c)) (xN (j < 0 ∨ n ≤ j.toNatClampNeg) (ih M (nx, f.2.1, st) (xset h o (xA t n (xref (va_up g j.toNatClampNeg (some w)))))))
  | .arraylength => xA1 f.2.2 fun o st => xcA (h.1 o) fun n => ih M (nx, f.2.1, .int (Int32.ofNat n) :: st) h
  | .newarray _ => xI1 f.2.2 fun n st => xN (n < 0 ∨ 1000000 < n.toNatClampNeg) (ih M (nx, f.2.1, .ref h.2.1 :: st) (xnew h (xA a n.toNatClampNeg (xzero a)) n.toNatClampNeg))
  | .anewarray _ => xI1 f.2.2 fun n st => xN (n < 0 ∨ 1000000 < n.toNatClampNeg) (ih M (nx, f.2.1, .ref h.2.1 :: st) (xnew h (xA a n.toNatClampNeg (xzero a)) n.toNatClampNeg))
  | .multianewarray _ _ => xI2 f.2.2 fun n k st => xN (n < 0 ∨ 1000 < n.toNatClampNeg ∨ k < 0 ∨ 1000000 < k.toNatClampNeg) (ih M (nx, f.2.1, .ref h.2.1 :: st) (xgrid h a b n.toNatClampNeg k.toNatClampNeg))
  | .new _ => match v with
    | .null => match f.2.2 with
      | [] => some (.inr (a, h.2.1), xnew h (xO' a []) b)
      | _ => none
    | _ => ih M (nx, f.2.1, .ref h.2.1 :: f.2.2) (xnew h (xO' a (F a)) b)
  | .invokestatic _ => match v with
    | .retAddr _ => xcopy f.2.2 fun s sp d dp n st => xcI (h.1 s) fun t n0 g => xcI (h.1 d) fun t' n1 g' => xB (Nat.beq t 0 && Nat.beq t' 0)
        (xN (sp < 0 ∨ dp < 0 ∨ n < 0 ∨ n0 < sp.toNatClampNeg + n.toNatClampNeg ∨ n1 < dp.toNatClampNeg + n.toNatClampNeg)
          (xB (Nat.ble (xwt st) 8) (ih M (nx, f.2.1, st) (xset h d (xA t' n1 (xint (va_cpy g g' sp.toNatClampNeg dp.toNatClampNeg n.toNatClampNeg)))))))
    | _ => xS (xpop b [] f.2.2) fun q => xcall G ih M f.1 nx f.2.1 a q.1 q.2 h
  | .invokevirtual _ => xS (xpop b [] f.2.2) fun q => match q.1 with
    | .ref o :: as => xvK v fun k => xcO (h.1 o) fun c _ => xB (Nat.beq c k) (xcall G ih M f.1 nx f.2.1 a (.ref o :: as) q.2 h)
    | _ => none
  | .invokespecial _ => match v with
    | .null => xA1 f.2.2 fun _ st => xB (Nat.ble (xwt st) 8) (ih M (nx, f.2.1, st) h)
    | _ => xS (xpop b [] f.2.2) fun q => match q.1 with
      | .ref o :: as => xcall G ih M f.1 nx f.2.1 a (.ref o :: as) q.2 h
      | _ => none
  | _ => none
def xbody (V : Nat → Value) (F : Nat → List Value) (G : Nat → xM) (ih : xM → xF → xH → Option xR) (M : xM) (f : xF) (h : xH) : Option xR :=
  xS (xcd M f.1) fun q => xop V F G ih M f h q.1 q.2.1 q.2.2.1 q.2.2.2.1 q.2.2.2.2.1
def xrun (V : Nat → Value) (F : Nat → List Value) (G : Nat → xM) (n : Nat) : xM → xF → xH → Option xR :=
  Nat.rec (fun _ _ _ => none) (fun _ ih => xbody V F G ih) n
theorem xrun_succ (V : Nat → Value) (F : Nat → List Value) (G : Nat → xM) (n : Nat) : xrun V F G (n + 1) = xbody V F G (xrun V F G n) := rfl
/-! what a success says -/
theorem xI1_s {st : List Value} {k : Int32 → List Value → Option xR} {r : xR} (h : xI1 st k = some r) : ∃ x t, st = .int x :: t ∧ k x t = some r := by
  unfold xI1 at h; split at h
  · exact ⟨_, _, rfl, h⟩
  · cases h
theorem xI2_s {st : List Value} {k : Int32 → Int32 → List Value → Option xR} {r : xR} (h : xI2 st k = some r) : ∃ x y t, st = .int y :: .int x :: t ∧ k x y t = some r := by
  unfold xI2 at h; split at h
  · exact ⟨_, _, _, rfl, h⟩
  · cases h
theorem xL1_s {st : List Value} {k : Int64 → List Value → Option xR} {r : xR} (h : xL1 st k = some r) : ∃ x t, st = .long x :: t ∧ k x t = some r := by
  unfold xL1 at h; split at h
  · exact ⟨_, _, rfl, h⟩
  · cases h
theorem xL2_s {st : List Value} {k : Int64 → Int64 → List Value → Option xR} {r : xR} (h : xL2 st k = some r) : ∃ x y t, st = .long y :: .long x :: t ∧ k x y t = some r := by
  unfold xL2 at h; split at h
  · exact ⟨_, _, _, rfl, h⟩
  · cases h
theorem xLI_s {st : List Value} {k : Int64 → Int32 → List Value → Option xR} {r : xR} (h : xLI st k = some r) : ∃ x y t, st = .int y :: .long x :: t ∧ k x y t = some r := by
  unfold xLI at h; split at h
  · exact ⟨_, _, _, rfl, h⟩
  · cases h
theorem xA1_s {st : List Value} {k : Nat → List Value → Option xR} {r : xR} (h : xA1 st k = some r) : ∃ o t, st = .ref o :: t ∧ k o t = some r := by
  unfold xA1 at h; split at h
  · exact ⟨_, _, rfl, h⟩
  · cases h
theorem xAI_s {st : List Value} {k : Nat → Int32 → List Value → Option xR} {r : xR} (h : xAI st k = some r) : ∃ o j t, st = .int j :: .ref o :: t ∧ k o j t = some r := by
  unfold xAI at h; split at h
  · exact ⟨_, _, _, rfl, h⟩
  · cases h
theorem xAII_s {st : List Value} {k : Nat → Int32 → Int32 → List Value → Option xR} {r : xR} (h : xAII st k = some r) : ∃ o j x t, st = .int x :: .int j :: .ref o :: t ∧ k o j x t = some r := by
  unfold xAII at h; split at h
  · exact ⟨_, _, _, _, rfl, h⟩
  · cases h
theorem xAIL_s {st : List Value} {k : Nat → Int32 → Int64 → List Value → Option xR} {r : xR} (h : xAIL st k = some r) : ∃ o j x t, st = .long x :: .int j :: .ref o :: t ∧ k o j x t = some r := by
  unfold xAIL at h; split at h
  · exact ⟨_, _, _, _, rfl, h⟩
  · cases h
theorem xAIA_s {st : List Value} {k : Nat → Int32 → Nat → List Value → Option xR} {r : xR} (h : xAIA st k = some r) : ∃ o j w t, st = .ref w :: .int j :: .ref o :: t ∧ k o j w t = some r := by
  unfold xAIA at h; split at h
  · exact ⟨_, _, _, _, rfl, h⟩
  · cases h
theorem xAV_s {st : List Value} {k : Nat → Value → List Value → Option xR} {r : xR} (h : xAV st k = some r) : ∃ o w t, st = w :: .ref o :: t ∧ k o w t = some r := by
  unfold xAV at h; split at h
  · exact ⟨_, _, _, rfl, h⟩
  · cases h
theorem xcopy_s {st : List Value} {k : Nat → Int32 → Nat → Int32 → Int32 → List Value → Option xR} {r : xR} (h : xcopy st k = some r) : ∃ s sp d dp n t, st = .int n :: .int dp :: .ref d :: .int sp :: .ref s :: t ∧ k s sp d dp n t = some r := by
  unfold xcopy at h; split at h
  · exact ⟨_, _, _, _, _, _, rfl, h⟩
  · cases h
theorem xvI_s {o : Option Value} {k : Int32 → Option xR} {r : xR} (h : xvI o k = some r) : ∃ x, o = some (.int x) ∧ k x = some r := by
  unfold xvI at h; split at h
  · exact ⟨_, rfl, h⟩
  · cases h
theorem xvL_s {o : Option Value} {k : Int64 → Option xR} {r : xR} (h : xvL o k = some r) : ∃ x, o = some (.long x) ∧ k x = some r := by
  unfold xvL at h; split at h
  · exact ⟨_, rfl, h⟩
  · cases h
theorem xvA_s {o : Option Value} {k : Nat → Option xR} {r : xR} (h : xvA o k = some r) : ∃ x, o = some (.ref x) ∧ k x = some r := by
  unfold xvA at h; split at h
  · exact ⟨_, rfl, h⟩
  · cases h
theorem xvN_s {o : Value} {k : Int32 → Option xR} {r : xR} (h : xvN o k = some r) : ∃ x, o = .int x ∧ k x = some r := by
  unfold xvN at h; split at h
  · exact ⟨_, rfl, h⟩
  · cases h
theorem xvK_s {o : Value} {k : Nat → Option xR} {r : xR} (h : xvK o k = some r) : ∃ x, o = .retAddr x ∧ k x = some r := by
  unfold xvK at h; split at h
  · exact ⟨_, rfl, h⟩
  · cases h
theorem xS_s {α : Type} {o : Option α} {k : α → Option xR} {r : xR} (h : xS o k = some r) : ∃ x, o = some x ∧ k x = some r := by
  unfold xS at h; split at h
  · exact ⟨_, rfl, h⟩
  · cases h
theorem xB_s {b : Bool} {k : Option xR} {r : xR} (h : xB b k = some r) : b = true ∧ k = some r := by
  unfold xB at h; split at h
  · exact ⟨rfl, h⟩
  · cases h
theorem xN_s {c : Prop} [Decidable c] {k : Option xR} {r : xR} (h : xN c k = some r) : ¬ c ∧ k = some r := by
  unfold xN at h; split at h
  · cases h
  · next hc => exact ⟨hc, h⟩
theorem xcI_s {o : Option xE} {k : Nat → Nat → (Nat → Int32) → Option xR} {r : xR} (h : xcI o k = some r) : ∃ t n g, o = some (.inl (t, n, .inl g)) ∧ k t n g = some r := by
  unfold xcI at h; split at h
  · exact ⟨_, _, _, rfl, h⟩
  · cases h
theorem xcL_s {o : Option xE} {k : Nat → Nat → (Nat → Int64) → Option xR} {r : xR} (h : xcL o k = some r) : ∃ t n g, o = some (.inl (t, n, .inr (.inl g))) ∧ k t n g = some r := by
  unfold xcL at h; split at h
  · exact ⟨_, _, _, rfl, h⟩
  · cases h
theorem xcR_s {o : Option xE} {k : Nat → Nat → (Nat → Option Nat) → Option xR} {r : xR} (h : xcR o k = some r) : ∃ t n g, o = some (.inl (t, n, .inr (.inr (.inr (.inr g))))) ∧ k t n g = some r := by
  unfold xcR at h; split at h
  · exact ⟨_, _, _, rfl, h⟩
  · cases h
theorem xcA_s {o : Option xE} {k : Nat → Option xR} {r : xR} (h : xcA o k = some r) : ∃ t n g, o = some (.inl (t, n, g)) ∧ k n = some r := by
  unfold xcA at h; split at h
  · exact ⟨_, _, _, rfl, h⟩
  · cases h
theorem xcO_s {o : Option xE} {k : Nat → List Value → Option xR} {r : xR} (h : xcO o k = some r) : ∃ c fs, o = some (.inr (c, fs)) ∧ k c fs = some r := by
  unfold xcO at h; split at h
  · exact ⟨_, _, rfl, h⟩
  · cases h
theorem xcat1_s {w : Value} (h : xcat1 w = true) : w.category = 1 := by
  cases w <;> simp [xcat1] at h <;> rfl
end
section
/-! what a table of instructions must keep, decided by a program -/
def xin (WL : List Cond) (k : Nat) (w : Cond) : Bool := decide (WL[k]? = some w)
theorem xin_mem {WL : List Cond} {k : Nat} {w : Cond} (h : xin WL k w = true) : w ∈ WL := List.mem_of_getElem? (of_decide_eq_true h)
def xdec (M : xM) (pc nx : Nat) (i : Instr) (k : Nat) : Bool := decide (decode (xby M) pc = .ok (i, k)) && Nat.beq nx (pc + k)
theorem xdec_spec {M : xM} {pc nx : Nat} {i : Instr} {k : Nat} (h : xdec M pc nx i k = true) : decode (xby M) pc = .ok (i, k) ∧ nx = pc + k := by
  simp only [xdec, Bool.and_eq_true] at h
  exact ⟨of_decide_eq_true h.1, Nat.eq_of_beq_eq_true h.2⟩
def xkind : Nat → FieldType → Bool
  | 0, .int => true
  | 1, .boolean => true
  | 2, .object _ => true
  | 2, .array _ => true
  | _, _ => false
def xnat (a : Nat) (t : ArrayType) : Bool := decide ((a = 0 ∧ newarray.typeOf t = .int) ∨ (a = 1 ∧ newarray.typeOf t = .long) ∨ (a = 2 ∧ newarray.typeOf t = .boolean))
def xlink (WL : List Cond) (host own : String) (p k : Nat) (y : MethodName) : Bool := xin WL p (.methodLink own k y) || xin WL p (.methodLinkNest own k y host)
def xpar (Z : xM) (b : Nat) : Bool := decide ((parseMethodDescriptor (xnm Z).desc).map (fun d => d.parameters.length) = some b)
def xroom (M Z : xM) : Bool := Nat.ble (xdp Z + 1) (xdp M) && Nat.ble (8 + (xml Z + 11) + xlc Z) (xlc M)
/-- a making and throwing: new, dup, ldc, the constructor, athrow -/
def xtok (WL HL : List Cond) (cl : List vw_C) (SL : List (String × Nat × String)) (NM : List String) (M : xM) (pc k a b : Nat) (hs : List Nat) : Bool :=
  decide (decode (xby M) pc = .ok (.new k, 3)) && decide (decode (xby M) (pc + 3) = .ok (.dup, 1)) && decide (decode (xby M) (pc + 4) = .ok (.ldc (hs.getD 0 0), 2)) && decide (decode (xby M) (pc + 6) = .ok (.invokespecial (hs.getD 1 0), 3)) && decide (decode (xby M) (pc + 9) = .ok (.athrow, 1)) &&
  decide (xhs M = []) && Nat.beq b 6 && Nat.ble 6 (xdp M) && Nat.ble 90 (xlc M) &&
  (match cl[a]? with
  | some (C, _, N) => Nat.beq N 0 && xin WL (hs.getD 2 0) (.classLink (xnm M).cls k C) && xin WL (hs.getD 3 0) (.instantiable C 6) && xin WL (hs.getD 4 0) (.initialized C) && Bundle.fit C &&
      (Bundle.ownAtoms (xnm M).cls (hs.getD 1 0) C NM).all (fun w => (decide (w ∈ WL)) || (decide (w ∈ HL)))
  | none => false) &&
  SL.any (fun q => decide (q.1 = (xnm M).cls) && Nat.beq q.2.1 (hs.getD 0 0))
def xok (WL HL : List Cond) (cl : List vw_C) (SL : List (String × Nat × String)) (NM : List String) (ty0 : Nat → Nat → FieldType) (sf : String × String × String) (host : String) (nG : Nat) (G : Nat → xM) (M : xM) (pc : Nat) (e : xI) : Bool := match e with
  | (i, nx, a, b, v, hs) => match i with
    | .iconst n => xdec M pc nx (.iconst n) 1 && decide (v = .int (Int32.ofInt n))
    | .bipush n => xdec M pc nx (.bipush n) 2 && decide (v = .int (Int8.ofInt n).toInt32)
    | .sipush n => xdec M pc nx (.sipush n) 3 && decide (v = .int (Int16.ofInt n).toInt32)
    | .lconst n => xdec M pc nx (.lconst n) 1 && decide (v = .long (Int64.ofNat n.val))
    | .ldc k => xdec M pc nx (.ldc k) 2 && (match v with | .int x => xin WL (hs.getD 0 0) (.constant (xnm M).cls k x) | _ => false)
    | .ldc_w k => xdec M pc nx (.ldc_w k) 3 && (match v with | .int x => xin WL (hs.getD 0 0) (.constant (xnm M).cls k x) | _ => false)
    | .ldc2_w k => xdec M pc nx (.ldc2_w k) 3 && (match v with | .long x => xin WL (hs.getD 0 0) (.constantLong (xnm M).cls k x) | _ => false)
    | .getstatic k => xdec M pc nx (.getstatic k) 3 && Nat.beq a 0 && xin WL (hs.getD 0 0) (.fieldLink (xnm M).cls k sf.1 sf.2.1 sf.2.2)
    | .iload k => xdec M pc nx (.iload k) 2 && Nat.beq a k
    | .iload_n k => xdec M pc nx (.iload_n k) 1 && Nat.beq a k.val
    | .lload k => xdec M pc nx (.lload k) 2 && Nat.beq a k
    | .lload_n k => xdec M pc nx (.lload_n k) 1 && Nat.beq a k.val
    | .aload k => xdec M pc nx (.aload k) 2 && Nat.beq a k
    | .aload_n k => xdec M pc nx (.aload_n k) 1 && Nat.beq a k.val
    | .istore k => xdec M pc nx (.istore k) 2 && Nat.beq a k
    | .istore_n k => xdec M pc nx (.istore_n k) 1 && Nat.beq a k.val
    | .lstore k => xdec M pc nx (.lstore k) 2 && Nat.beq a k
    | .lstore_n k => xdec M pc nx (.lstore_n k) 1 && Nat.beq a k.val
    | .astore k => xdec M pc nx (.astore k) 2 && Nat.beq a k
    | .astore_n k => xdec M pc nx (.astore_n k) 1 && Nat.beq a k.val
    | .iinc k n => xdec M pc nx (.iinc k n) 3 && Nat.beq a k && decide (v = .int (Int32.ofInt n))
    | .iadd => xdec M pc nx .iadd 1
    | .isub => xdec M pc nx .isub 1
    | .imul => xdec M pc nx .imul 1
    | .iand => xdec M pc nx .iand 1
    | .ior => xdec M pc nx .ior 1
    | .ixor => xdec M pc nx .ixor 1
    | .idiv => xdec M pc nx .idiv 1
    | .irem => xdec M pc nx .irem 1
    | .ineg => xdec M pc nx .ineg 1
    | .ishl => xdec M pc nx .ishl 1
    | .ishr => xdec M pc nx .ishr 1
    | .iushr => xdec M pc nx .iushr 1
    | .ladd => xdec M pc nx .ladd 1
    | .lsub => xdec M pc nx .lsub 1
    | .land => xdec M pc nx .land 1
    | .lor => xdec M pc nx .lor 1
    | .lshl => xdec M pc nx .lshl 1
    | .lushr => xdec M pc nx .lushr 1
    | .lcmp => xdec M pc nx .lcmp 1
    | .i2l => xdec M pc nx .i2l 1
    | .l2i => xdec M pc nx .l2i 1
    | .dup => xdec M pc nx .dup 1
    | .dup2 => xdec M pc nx .dup2 1
    | .dup_x1 => xdec M pc nx .dup_x1 1
    | .dup_x2 => xdec M pc nx .dup_x2 1
    | .pop => xdec M pc nx .pop 1
    | .ifCond c o => xdec M pc nx (.ifCond c o) 3 && decide ((pc : Int) + o = (a : Int))
    | .if_icmp c o => xdec M pc nx (.if_icmp c o) 3 && decide ((pc : Int) + o = (a : Int))
    | .goto o => xdec M pc nx (.goto o) 3 && decide ((pc : Int) + o = (a : Int))
    | .tableswitch d lo hi offs => decide (decode (xby M) pc = .ok (.tableswitch d lo hi offs, nx - pc)) && decide ((pc : Int) + d = (a : Int))
    | .ireturn => xdec M pc nx .ireturn 1
    | .lreturn => xdec M pc nx .lreturn 1
    | .areturn => xdec M pc nx .areturn 1
    | .return_ => xdec M pc nx .return_ 1
    | .getfield k => xdec M pc nx (.getfield k) 3 && (match cl[a]? with
      | some (_, T, N) => Nat.blt b N && xin WL (hs.getD 0 0) (.fieldLink (xnm M).cls k (T b).1 (T b).2.1 (T b).2.2.1)
      | none => false)
    | .putfield k => xdec M pc nx (.putfield k) 3 && (match cl[a]? with
      | some (_, T, N) => Nat.blt b N && xin WL (hs.getD 0 0) (.fieldLink (xnm M).cls k (T b).1 (T b).2.1 (T b).2.2.1) && (!(T b).2.2.2 || (decide ((xnm M).name = "<init>") && decide ((T b).1 = (xnm M).cls))) && (match v with | .retAddr q => xkind q (ty0 a b) | _ => false)
      | none => false)
    | .iaload => xdec M pc nx .iaload 1
    | .baload => xdec M pc nx .baload 1
    | .laload => xdec M pc nx .laload 1
    | .aaload => xdec M pc nx .aaload 1
    | .iastore => xdec M pc nx .iastore 1
    | .bastore => xdec M pc nx .bastore 1
    | .lastore => xdec M pc nx .lastore 1
    | .aastore => xdec M pc nx .aastore 1
    | .arraylength => xdec M pc nx .arraylength 1
    | .newarray t => xdec M pc nx (.newarray t) 2 && xnat a t && xin WL (hs.getD 0 0) (.arrayClass (newarray.typeOf t))
    | .anewarray k => xdec M pc nx (.anewarray k) 3 && Nat.ble 5 a && (match cl[a - 5]? with
      | some r => xin WL (hs.getD 0 0) (.classLink (xnm M).cls k r.1) && xin WL (hs.getD 1 0) (.arrayOver (.object r.1))
      | none => false)
    | .multianewarray k d => xdec M pc nx (.multianewarray k d) 4 && Nat.beq d 2 && Nat.beq a 4 && Nat.beq b 0 && xin WL (hs.getD 0 0) (.classLink (xnm M).cls k "[[I") && xin WL (hs.getD 1 0) (.arrayOver (.array .int)) && xin WL (hs.getD 2 0) (.arrayClass .int)
    | .new k => match v with
      | .null => xtok WL HL cl SL NM M pc k a b hs
      | _ => xdec M pc nx (.new k) 3 && (match cl[a]? with
        | some (C, _, _) => xin WL (hs.getD 0 0) (.classLink (xnm M).cls k C) && xin WL (hs.getD 1 0) (.instantiable C b) && xin WL (hs.getD 2 0) (.initialized C)
        | none => false)
    | .invokestatic k => match v with
      | .retAddr _ => xdec M pc nx (.invokestatic k) 3 && xin WL (hs.getD 0 0) (.methodLink (xnm M).cls k arraycopyName) && xin WL (hs.getD 1 0) (.native arraycopyName) && xin WL (hs.getD 2 0) (.static arraycopyName) && xin WL (hs.getD 3 0) (.initialized "java/lang/System") && Nat.ble 1 (xdp M) && Nat.ble (8 + (nativeFrameWords "java/lang/System" "arraycopy" 5 + 11)) (xlc M)
      | _ => xdec M pc nx (.invokestatic k) 3 && Nat.blt a nG && xlink WL host (xnm M).cls (hs.getD 0 0) k (xnm (G a)) && xin WL (hs.getD 1 0) (.static (xnm (G a))) && xpar (G a) b && xroom M (G a)
    | .invokevirtual k => xdec M pc nx (.invokevirtual k) 3 && Nat.blt a nG && xlink WL host (xnm M).cls (hs.getD 0 0) k (xnm (G a)) && xin WL (hs.getD 1 0) (.instanceMethod (xnm (G a))) && xin WL (hs.getD 2 0) (.selects (xnm (G a)).cls (xnm (G a)) (xnm (G a))) && Nat.blt 0 b && xpar (G a) (b - 1) && xroom M (G a) &&
        (match v with | .retAddr q => (match cl[q]? with | some (C, _, _) => decide (C = (xnm (G a)).cls) | none => false) | _ => false)
    | .invokespecial k => match v with
      | .null => xdec M pc nx (.invokespecial k) 3 && xin WL (hs.getD 0 0) (.methodLink (xnm M).cls k Lib.objectInit) && xin WL (hs.getD 1 0) (.instanceMethod Lib.objectInit) && xin WL (hs.getD 2 0) (.code Lib.objectInit ⟨#[0xb1]⟩ 1 none) && Nat.ble 1 (xdp M) && Nat.ble 20 (xlc M)
      | _ => xdec M pc nx (.invokespecial k) 3 && Nat.blt a nG && xlink WL host (xnm M).cls (hs.getD 0 0) k (xnm (G a)) && xin WL (hs.getD 1 0) (.instanceMethod (xnm (G a))) && decide ((xnm (G a)).name = "<init>") && decide (xhs (G a) = []) && decide (xrt (G a) = none) && Nat.blt 0 b && xpar (G a) (b - 1) && xroom M (G a)
    | _ => false
/-- a method's own words: its code, its holder -/
def xmok (WL : List Cond) (cl : List vw_C) (M : xM) (hs : List Nat) : Bool :=
  plainFor (xnm M) && decide ((xnm M).cls ≠ "java/lang/invoke/MethodHandle") && decide ((xnm M).cls ≠ "java/lang/invoke/VarHandle") &&
  (match xhs M with
  | [] => xin WL (hs.getD 0 0) (.code (xnm M) (xby M) (xml M) (xrt M))
  | _ => xin WL (hs.getD 0 0) (.codeWith (xnm M) (xby M) (xml M) (xrt M) ((xhs M).map (fun y => (y.1, y.2.1, y.2.2.1, y.2.2.2.1))))) &&
  xin WL (hs.getD 1 0) (.initialized (xnm M).cls) &&
  (xhs M).all (fun y => !(Nat.beq y.2.2.2.1 0) && (match cl[y.2.2.2.2]? with
    | some (C, _, _) => (WL.any (fun w => decide (w = .classLink (xnm M).cls y.2.2.2.1 C)))
    | none => false))
theorem xlk1_mem : ∀ (t : List (Nat × xI)) (pc : Nat) (e : xI), xlk1 t pc = some e → (pc, e) ∈ t
  | [], _, _, h => by simp [xlk1] at h
  | (k, x) :: t, pc, e, h => by
    simp only [xlk1] at h
    cases hb : Nat.beq k pc with
    | true =>
      rw [hb] at h
      simp only [cond_true, Option.some.injEq] at h
      rw [← h, Nat.eq_of_beq_eq_true hb]
      exact List.mem_cons_self
    | false =>
      rw [hb] at h
      exact List.mem_cons_of_mem _ (xlk1_mem t pc e h)
theorem xlk_mem : ∀ (t : List (Nat × List (Nat × xI))) (pc : Nat) (e : xI), xlk t pc = some e → ∃ c ∈ t, (pc, e) ∈ c.2
  | [], _, _, h => by simp [xlk] at h
  | (k, x) :: t, pc, e, h => by
    simp only [xlk] at h
    cases hb : Nat.blt pc k with
    | true =>
      rw [hb] at h
      exact ⟨(k, x), List.mem_cons_self, xlk1_mem x pc e h⟩
    | false =>
      rw [hb] at h
      obtain ⟨c, h1, h2⟩ := xlk_mem t pc e h
      exact ⟨c, List.mem_cons_of_mem _ h1, h2⟩
theorem xall {P : Nat → xI → Bool} {t : List (Nat × List (Nat × xI))} (h : t.all (fun c => c.2.all (fun q => P q.1 q.2)) = true) : ∀ (pc : Nat) (e : xI), xlk t pc = some e → P pc e = true := by
  intro pc e he
  obtain ⟨c, h1, h2⟩ := xlk_mem t pc e he
  exact List.all_eq_true.mp (List.all_eq_true.mp h c h1) (pc, e) h2
end
section
/-! the tables of the small machine, written by wip/gen.py out of the Statement -/
def xC0 : String := "PrePressRoom"
def xT0 : u_T := fun k => match k with
  | 0 => ("PrePressRoom", "amounts", "[I", true)
  | 1 => ("PrePressRoom", "pages", "[[I", true)
  | 2 => ("PrePressRoom", "jobs", "[LPrePressRoom$Job;", true)
  | 3 => ("PrePressRoom", "spreader", "LPrePressRoom$Spreader;", true)
  | 4 => ("PrePressRoom", "screens", "[LPrePressRoom$Screen;", true)
  | 5 => ("PrePressRoom", "sheets", "LPrePressRoom$Sheets;", true)
  | 6 => ("PrePressRoom", "blackShare", "I", false)
  | _ => ("PrePressRoom", "inkLimit", "I", false)
def xY0 : Nat → FieldType := fun k => match k with
  | 0 => .array .int
  | 1 => .array (.array .int)
  | 2 => .array (.object "PrePressRoom$Job")
  | 3 => .object "PrePressRoom$Spreader"
  | 4 => .array (.object "PrePressRoom$Screen")
  | 5 => .object "PrePressRoom$Sheets"
  | 6 => .int
  | _ => .int
def xC1 : String := "PrePressRoom$Job"
def xT1 : u_T := fun k => match k with
  | 0 => ("PrePressRoom$Job", "colours", "[I", true)
  | 1 => ("PrePressRoom$Job", "lighter", "[I", true)
  | 2 => ("PrePressRoom$Job", "amounts", "[I", true)
  | 3 => ("PrePressRoom$Job", "made", "Z", false)
  | _ => ("PrePressRoom$Job", "spread", "Z", false)
def xY1 : Nat → FieldType := fun k => match k with
  | 0 => .array .int
  | 1 => .array .int
  | 2 => .array .int
  | 3 => .boolean
  | _ => .boolean
def xC2 : String := "PrePressRoom$Spreader"
def xT2 : u_T := fun k => match k with
  | 0 => ("PrePressRoom$Spreader", "inks", "[I", true)
  | 1 => ("PrePressRoom$Spreader", "weights", "[I", true)
  | 2 => ("PrePressRoom$Spreader", "lighterShy", "[J", true)
  | 3 => ("PrePressRoom$Spreader", "near", "[J", true)
  | _ => ("PrePressRoom$Spreader", "across", "[J", true)
def xY2 : Nat → FieldType := fun k => match k with
  | 0 => .array .int
  | 1 => .array .int
  | 2 => .array .long
  | 3 => .array .long
  | _ => .array .long
def xC3 : String := "PrePressRoom$Places"
def xT3 : u_T := fun k => match k with
  | 0 => ("PrePressRoom$Places", "byDistance", "[I", true)
  | 1 => ("PrePressRoom$Places", "byForm", "[I", true)
  | 2 => ("PrePressRoom$Places", "starts", "[I", true)
  | _ => ("PrePressRoom$Places", "count", "I", true)
def xY3 : Nat → FieldType := fun k => match k with
  | 0 => .array .int
  | 1 => .array .int
  | 2 => .array .int
  | _ => .int
def xC4 : String := "PrePressRoom$Screen"
def xT4 : u_T := fun k => match k with
  | 0 => ("PrePressRoom$Screen", "places", "LPrePressRoom$Places;", true)
  | 1 => ("PrePressRoom$Screen", "rankOfClass", "[I", true)
  | 2 => ("PrePressRoom$Screen", "heartOfRank", "[I", true)
  | 3 => ("PrePressRoom$Screen", "classes", "I", false)
  | 4 => ("PrePressRoom$Screen", "rows", "I", false)
  | _ => ("PrePressRoom$Screen", "shift", "I", false)
def xY4 : Nat → FieldType := fun k => match k with
  | 0 => .object "PrePressRoom$Places"
  | 1 => .array .int
  | 2 => .array .int
  | 3 => .int
  | 4 => .int
  | _ => .int
def xC5 : String := "PrePressRoom$Sheets"
def xT5 : u_T := fun k => match k with
  | 0 => ("PrePressRoom$Sheets", "leafOfSlot", "[LPrePressRoom$Leaf;", true)
  | 1 => ("PrePressRoom$Sheets", "slotFromTop", "[I", true)
  | 2 => ("PrePressRoom$Sheets", "count", "I", false)
  | 3 => ("PrePressRoom$Sheets", "leaves", "I", false)
  | _ => ("PrePressRoom$Sheets", "creep", "I", false)
def xY5 : Nat → FieldType := fun k => match k with
  | 0 => .array (.object "PrePressRoom$Leaf")
  | 1 => .array .int
  | 2 => .int
  | 3 => .int
  | _ => .int
def xC6 : String := "PrePressRoom$Leaf"
def xT6 : u_T := fun k => match k with
  | 0 => ("PrePressRoom$Leaf", "column", "I", false)
  | 1 => ("PrePressRoom$Leaf", "row", "I", false)
  | 2 => ("PrePressRoom$Leaf", "above", "I", false)
  | 3 => ("PrePressRoom$Leaf", "upperSide", "I", false)
  | _ => ("PrePressRoom$Leaf", "turn", "I", false)
def xY6 : Nat → FieldType := fun k => match k with
  | 0 => .int
  | 1 => .int
  | 2 => .int
  | 3 => .int
  | _ => .int
def xC7 : String := "PrePressRoomModel"
def xT7 : u_T := fun k => match k with
  | 0 => ("PrePressRoomModel", "thrown", "I", false)
  | 1 => ("PrePressRoomModel", "amounts", "[I", true)
  | 2 => ("PrePressRoomModel", "cells", "[I", true)
  | 3 => ("PrePressRoomModel", "share", "I", false)
  | 4 => ("PrePressRoomModel", "limit", "I", false)
  | 5 => ("PrePressRoomModel", "hasJob", "[Z", true)
  | 6 => ("PrePressRoomModel", "isTrapped", "[Z", true)
  | 7 => ("PrePressRoomModel", "jobCells", "[I", true)
  | 8 => ("PrePressRoomModel", "jobAmounts", "[I", true)
  | 9 => ("PrePressRoomModel", "traps", "[I", true)
  | 10 => ("PrePressRoomModel", "used", "[Z", true)
  | 11 => ("PrePressRoomModel", "four", "[I", true)
  | 12 => ("PrePressRoomModel", "as", "[I", true)
  | 13 => ("PrePressRoomModel", "bs", "[I", true)
  | 14 => ("PrePressRoomModel", "shapes", "[I", true)
  | 15 => ("PrePressRoomModel", "isKnown", "[Z", true)
  | 16 => ("PrePressRoomModel", "hearts", "[I", true)
  | 17 => ("PrePressRoomModel", "heartX", "[I", true)
  | 18 => ("PrePressRoomModel", "heartY", "[I", true)
  | 19 => ("PrePressRoomModel", "hx", "I", false)
  | 20 => ("PrePressRoomModel", "hy", "I", false)
  | 21 => ("PrePressRoomModel", "sheets", "I", false)
  | 22 => ("PrePressRoomModel", "folds", "I", false)
  | 23 => ("PrePressRoomModel", "leaves", "I", false)
  | 24 => ("PrePressRoomModel", "creep", "I", false)
  | 25 => ("PrePressRoomModel", "slotOf", "[I", true)
  | 26 => ("PrePressRoomModel", "upper", "[I", true)
  | 27 => ("PrePressRoomModel", "turns", "[I", true)
  | 28 => ("PrePressRoomModel", "column", "[I", true)
  | 29 => ("PrePressRoomModel", "row", "[I", true)
  | _ => ("PrePressRoomModel", "depth", "[I", true)
def xY7 : Nat → FieldType := fun k => match k with
  | 0 => .int
  | 1 => .array .int
  | 2 => .array .int
  | 3 => .int
  | 4 => .int
  | 5 => .array .boolean
  | 6 => .array .boolean
  | 7 => .array .int
  | 8 => .array .int
  | 9 => .array .int
  | 10 => .array .boolean
  | 11 => .array .int
  | 12 => .array .int
  | 13 => .array .int
  | 14 => .array .int
  | 15 => .array .boolean
  | 16 => .array .int
  | 17 => .array .int
  | 18 => .array .int
  | 19 => .int
  | 20 => .int
  | 21 => .int
  | 22 => .int
  | 23 => .int
  | 24 => .int
  | 25 => .array .int
  | 26 => .array .int
  | 27 => .array .int
  | 28 => .array .int
  | 29 => .array .int
  | _ => .array .int
def xC8 : String := "java/lang/IndexOutOfBoundsException"
def xT8 : u_T := fun k => match k with
  | _ => ("", "", "", false)
def xY8 : Nat → FieldType := fun k => match k with
  | _ => .int
def xC9 : String := "java/lang/IllegalArgumentException"
def xT9 : u_T := fun k => match k with
  | _ => ("", "", "", false)
def xY9 : Nat → FieldType := fun k => match k with
  | _ => .int
def xC10 : String := "java/lang/IllegalStateException"
def xT10 : u_T := fun k => match k with
  | _ => ("", "", "", false)
def xY10 : Nat → FieldType := fun k => match k with
  | _ => .int
def xcl : List vw_C := [(xC0, xT0, 8), (xC1, xT1, 5), (xC2, xT2, 5), (xC3, xT3, 4), (xC4, xT4, 6), (xC5, xT5, 5), (xC6, xT6, 5), (xC7, xT7, 31), (xC8, xT8, 0), (xC9, xT9, 0), (xC10, xT10, 0)]
def xty0 : Nat → Nat → FieldType := fun c => match c with
  | 0 => xY0
  | 1 => xY1
  | 2 => xY2
  | 3 => xY3
  | 4 => xY4
  | 5 => xY5
  | 6 => xY6
  | 7 => xY7
  | 8 => xY8
  | 9 => xY9
  | _ => xY10
def xF0 : Nat → List Value := fun c => match c with
  | 0 => [.null, .null, .null, .null, .null, .null, .int 0, .int 0]
  | 1 => [.null, .null, .null, .int 0, .int 0]
  | 2 => [.null, .null, .null, .null, .null]
  | 3 => [.null, .null, .null, .int 0]
  | 4 => [.null, .null, .null, .int 0, .int 0, .int 0]
  | 5 => [.null, .null, .int 0, .int 0, .int 0]
  | 6 => [.int 0, .int 0, .int 0, .int 0, .int 0]
  | 7 => [.int 0, .null, .null, .int 0, .int 0, .null, .null, .null, .null, .null, .null, .null, .null, .null, .null, .null, .null, .null, .null, .int 0, .int 0, .int 0, .int 0, .int 0, .int 0, .null, .null, .null, .null, .null, .null]
  | 8 => []
  | 9 => []
  | _ => []
def xSL : List (String × Nat × String) := [("PrePressRoom", 174, "no such number"), ("PrePressRoom", 177, "out of its range"), ("PrePressRoom", 72, "another spot ink is above 0"), ("PrePressRoom", 181, "the page has no job"), ("PrePressRoom", 105, "no job without traps"), ("PrePressRoom", 143, "not whole sheets"), ("PrePressRoom", 179, "nothing is laid")]
def xNM : List String := ["java/lang/RuntimeException", "java/lang/Exception"]
def xEX : List Nat := [8, 9, 10]
def xsf : String × String × String := ("PrePressRoom$Job", "WEIGHTS", "[I")
end
section
def t_Room_init : List (Nat × List (Nat × xI)) := [(34, [(0, .aload_n 0, 1, 0, 0, .int 0, []),
    (1, .invokespecial 3, 4, 0, 0, .null, [67, 68, 69]),
    (4, .aload_n 0, 5, 0, 0, .int 0, []),
    (5, .sipush 512, 8, 0, 0, .int 512, []),
    (8, .newarray .int, 10, 0, 0, .int 0, [95]),
    (10, .putfield 9, 13, 0, 0, .retAddr 2, [274]),
    (13, .aload_n 0, 14, 0, 0, .int 0, []),
    (14, .iconst 4, 15, 0, 0, .int 4, []),
    (15, .sipush 3072, 18, 0, 0, .int 3072, []),
    (18, .multianewarray 13 2, 22, 4, 0, .int 0, [70, 71, 95]),
    (22, .putfield 15, 25, 0, 1, .retAddr 2, [275]),
    (25, .aload_n 0, 26, 0, 0, .int 0, []),
    (26, .iconst 4, 27, 0, 0, .int 4, []),
    (27, .anewarray 18, 30, 6, 0, .int 0, [72, 73]),
    (30, .putfield 20, 33, 0, 2, .retAddr 2, [276]),
    (33, .iconst 0, 34, 0, 0, .int 0, [])]),
  (64, [(34, .istore_n 1, 35, 1, 0, .int 0, []),
    (35, .iload_n 1, 36, 1, 0, .int 0, []),
    (36, .iconst 4, 37, 0, 0, .int 4, []),
    (37, .if_icmp .ge 22, 40, 59, 0, .int 0, []),
    (40, .aload_n 0, 41, 0, 0, .int 0, []),
    (41, .getfield 20, 44, 0, 2, .int 0, [276]),
    (44, .iload_n 1, 45, 1, 0, .int 0, []),
    (45, .new 18, 48, 1, 5, .int 0, [72, 74, 44]),
    (48, .dup, 49, 0, 0, .int 0, []),
    (49, .invokespecial 24, 52, 1, 1, .int 0, [75, 76]),
    (52, .aastore, 53, 0, 0, .int 0, []),
    (53, .iinc 1 1, 56, 1, 0, .int 1, []),
    (56, .goto (-21), 59, 35, 0, .int 0, []),
    (59, .aload_n 0, 60, 0, 0, .int 0, []),
    (60, .new 25, 63, 2, 5, .int 0, [96, 97, 45]),
    (63, .dup, 64, 0, 0, .int 0, [])]),
  (96, [(64, .invokespecial 27, 67, 2, 1, .int 0, [98, 99]),
    (67, .putfield 28, 70, 0, 3, .retAddr 2, [277]),
    (70, .aload_n 0, 71, 0, 0, .int 0, []),
    (71, .bipush 8, 73, 0, 0, .int 8, []),
    (73, .anewarray 32, 76, 9, 0, .int 0, [119, 120]),
    (76, .putfield 34, 79, 0, 4, .retAddr 2, [278]),
    (79, .new 38, 82, 3, 4, .int 0, [121, 122, 46]),
    (82, .dup, 83, 0, 0, .int 0, []),
    (83, .invokespecial 40, 86, 3, 1, .int 0, [123, 124]),
    (86, .astore_n 1, 87, 1, 0, .int 0, []),
    (87, .iconst 0, 88, 0, 0, .int 0, []),
    (88, .istore_n 2, 89, 2, 0, .int 0, []),
    (89, .iload_n 2, 90, 2, 0, .int 0, []),
    (90, .bipush 8, 92, 0, 0, .int 8, []),
    (92, .if_icmp .ge 23, 95, 115, 0, .int 0, []),
    (95, .aload_n 0, 96, 0, 0, .int 0, [])]),
  (128, [(96, .getfield 34, 99, 0, 4, .int 0, [278]),
    (99, .iload_n 2, 100, 2, 0, .int 0, []),
    (100, .new 32, 103, 4, 6, .int 0, [119, 165, 50]),
    (103, .dup, 104, 0, 0, .int 0, []),
    (104, .aload_n 1, 105, 1, 0, .int 0, []),
    (105, .invokespecial 41, 108, 11, 2, .int 0, [166, 167]),
    (108, .aastore, 109, 0, 0, .int 0, []),
    (109, .iinc 2 1, 112, 2, 0, .int 1, []),
    (112, .goto (-23), 115, 89, 0, .int 0, []),
    (115, .aload_n 0, 116, 0, 0, .int 0, []),
    (116, .new 44, 119, 5, 5, .int 0, [229, 230, 51]),
    (119, .dup, 120, 0, 0, .int 0, []),
    (120, .invokespecial 46, 123, 22, 1, .int 0, [231, 232]),
    (123, .putfield 47, 126, 0, 5, .retAddr 2, [279]),
    (126, .aload_n 0, 127, 0, 0, .int 0, []),
    (127, .iconst 0, 128, 0, 0, .int 0, [])]),
  (100000, [(128, .putfield 51, 131, 0, 6, .retAddr 0, [280]),
    (131, .aload_n 0, 132, 0, 0, .int 0, []),
    (132, .sipush 1020, 135, 0, 0, .int 1020, []),
    (135, .putfield 55, 138, 0, 7, .retAddr 0, [281]),
    (138, .return_, 139, 0, 0, .int 0, [])])]
def m_Room_init : xM := (xlk t_Room_init, [], 3, ⟨"PrePressRoom", "<init>", "()V"⟩, prog_1_method_1_code, none, 7, 158)
def t_Job_init : List (Nat × List (Nat × xI)) := [(100000, [(0, .aload_n 0, 1, 0, 0, .int 0, []),
    (1, .invokespecial 3, 4, 0, 0, .null, [78, 68, 69]),
    (4, .aload_n 0, 5, 0, 0, .int 0, []),
    (5, .sipush 3072, 8, 0, 0, .int 3072, []),
    (8, .newarray .int, 10, 0, 0, .int 0, [95]),
    (10, .putfield 9, 13, 1, 0, .retAddr 2, [79]),
    (13, .aload_n 0, 14, 0, 0, .int 0, []),
    (14, .sipush 3072, 17, 0, 0, .int 3072, []),
    (17, .newarray .int, 19, 0, 0, .int 0, [95]),
    (19, .putfield 15, 22, 1, 1, .retAddr 2, [80]),
    (22, .aload_n 0, 23, 0, 0, .int 0, []),
    (23, .sipush 512, 26, 0, 0, .int 512, []),
    (26, .newarray .int, 28, 0, 0, .int 0, [95]),
    (28, .putfield 18, 31, 1, 2, .retAddr 2, [81]),
    (31, .return_, 32, 0, 0, .int 0, [])])]
def m_Job_init : xM := (xlk t_Job_init, [], 1, ⟨"PrePressRoom$Job", "<init>", "()V"⟩, prog_2_method_1_code, none, 1, 20)
def t_Spr_init : List (Nat × List (Nat × xI)) := [(32, [(0, .aload_n 0, 1, 0, 0, .int 0, []),
    (1, .invokespecial 3, 4, 0, 0, .null, [101, 68, 69]),
    (4, .aload_n 0, 5, 0, 0, .int 0, []),
    (5, .bipush 64, 7, 0, 0, .int 64, []),
    (7, .newarray .int, 9, 0, 0, .int 0, [95]),
    (9, .putfield 9, 12, 2, 0, .retAddr 2, [102]),
    (12, .aload_n 0, 13, 0, 0, .int 0, []),
    (13, .bipush 64, 15, 0, 0, .int 64, []),
    (15, .newarray .int, 17, 0, 0, .int 0, [95]),
    (17, .putfield 15, 20, 2, 1, .retAddr 2, [103]),
    (20, .aload_n 0, 21, 0, 0, .int 0, []),
    (21, .bipush 64, 23, 0, 0, .int 64, []),
    (23, .newarray .long, 25, 1, 0, .int 0, [118]),
    (25, .putfield 18, 28, 2, 2, .retAddr 2, [104]),
    (28, .aload_n 0, 29, 0, 0, .int 0, []),
    (29, .sipush 3072, 32, 0, 0, .int 3072, [])]),
  (100000, [(32, .newarray .long, 34, 1, 0, .int 0, [118]),
    (34, .putfield 22, 37, 2, 3, .retAddr 2, [105]),
    (37, .aload_n 0, 38, 0, 0, .int 0, []),
    (38, .sipush 3072, 41, 0, 0, .int 3072, []),
    (41, .newarray .long, 43, 1, 0, .int 0, [118]),
    (43, .putfield 25, 46, 2, 4, .retAddr 2, [106]),
    (46, .return_, 47, 0, 0, .int 0, [])])]
def m_Spr_init : xM := (xlk t_Spr_init, [], 1, ⟨"PrePressRoom$Spreader", "<init>", "()V"⟩, prog_7_method_1_code, none, 1, 20)
def t_Pla_init : List (Nat × List (Nat × xI)) := [(33, [(0, .aload_n 0, 1, 0, 0, .int 0, []),
    (1, .invokespecial 3, 4, 0, 0, .null, [126, 68, 69]),
    (4, .aload_n 0, 5, 0, 0, .int 0, []),
    (5, .sipush 1681, 8, 0, 0, .int 1681, []),
    (8, .newarray .int, 10, 0, 0, .int 0, [95]),
    (10, .putfield 11, 13, 3, 0, .retAddr 2, [152]),
    (13, .aload_n 0, 14, 0, 0, .int 0, []),
    (14, .sipush 1681, 17, 0, 0, .int 1681, []),
    (17, .newarray .int, 19, 0, 0, .int 0, [95]),
    (19, .putfield 15, 22, 3, 1, .retAddr 2, [153]),
    (22, .aload_n 0, 23, 0, 0, .int 0, []),
    (23, .sipush 402, 26, 0, 0, .int 402, []),
    (26, .newarray .int, 28, 0, 0, .int 0, [95]),
    (28, .putfield 18, 31, 3, 2, .retAddr 2, [154]),
    (31, .iconst 0, 32, 0, 0, .int 0, []),
    (32, .istore_n 1, 33, 1, 0, .int 0, [])]),
  (65, [(33, .iconst 0, 34, 0, 0, .int 0, []),
    (34, .istore_n 2, 35, 2, 0, .int 0, []),
    (35, .iload_n 2, 36, 2, 0, .int 0, []),
    (36, .sipush 1681, 39, 0, 0, .int 1681, []),
    (39, .if_icmp .ge 29, 42, 68, 0, .int 0, []),
    (42, .iload_n 2, 43, 2, 0, .int 0, []),
    (43, .invokestatic 21, 46, 4, 1, .int 0, [127, 128]),
    (46, .sipush 400, 49, 0, 0, .int 400, []),
    (49, .if_icmp .gt 13, 52, 62, 0, .int 0, []),
    (52, .aload_n 0, 53, 0, 0, .int 0, []),
    (53, .getfield 11, 56, 3, 0, .int 0, [152]),
    (56, .iload_n 1, 57, 1, 0, .int 0, []),
    (57, .iload_n 2, 58, 2, 0, .int 0, []),
    (58, .iastore, 59, 0, 0, .int 0, []),
    (59, .iinc 1 1, 62, 1, 0, .int 1, []),
    (62, .iinc 2 1, 65, 2, 0, .int 1, [])]),
  (93, [(65, .goto (-30), 68, 35, 0, .int 0, []),
    (68, .aload_n 0, 69, 0, 0, .int 0, []),
    (69, .iload_n 1, 70, 1, 0, .int 0, []),
    (70, .putfield 25, 73, 3, 3, .retAddr 0, [155]),
    (73, .aload_n 0, 74, 0, 0, .int 0, []),
    (74, .aload_n 0, 75, 0, 0, .int 0, []),
    (75, .getfield 25, 78, 3, 3, .int 0, [155]),
    (78, .iconst 1, 79, 0, 0, .int 1, []),
    (79, .iconst 0, 80, 0, 0, .int 0, []),
    (80, .iconst 0, 81, 0, 0, .int 0, []),
    (81, .invokevirtual 29, 84, 7, 5, .retAddr 3, [136, 138, 1]),
    (84, .aload_n 0, 85, 0, 0, .int 0, []),
    (85, .getfield 15, 88, 3, 1, .int 0, [153]),
    (88, .iconst 0, 89, 0, 0, .int 0, []),
    (89, .aload_n 0, 90, 0, 0, .int 0, []),
    (90, .getfield 11, 93, 3, 0, .int 0, [152])]),
  (100000, [(93, .iconst 0, 94, 0, 0, .int 0, []),
    (94, .aload_n 0, 95, 0, 0, .int 0, []),
    (95, .getfield 25, 98, 3, 3, .int 0, [155]),
    (98, .invokestatic 33, 101, 0, 0, .retAddr 0, [149, 151, 150, 49]),
    (101, .return_, 102, 0, 0, .int 0, [])])]
def m_Pla_init : xM := (xlk t_Pla_init, [], 3, ⟨"PrePressRoom$Places", "<init>", "()V"⟩, prog_4_method_1_code, none, 4, 89)
def t_Pla_distanceOf : List (Nat × List (Nat × xI)) := [(100000, [(0, .iload_n 0, 1, 0, 0, .int 0, []),
    (1, .invokestatic 39, 4, 5, 1, .int 0, [130, 131]),
    (4, .iload_n 0, 5, 0, 0, .int 0, []),
    (5, .invokestatic 39, 8, 5, 1, .int 0, [130, 131]),
    (8, .imul, 9, 0, 0, .int 0, []),
    (9, .iload_n 0, 10, 0, 0, .int 0, []),
    (10, .invokestatic 42, 13, 6, 1, .int 0, [133, 134]),
    (13, .iload_n 0, 14, 0, 0, .int 0, []),
    (14, .invokestatic 42, 17, 6, 1, .int 0, [133, 134]),
    (17, .imul, 18, 0, 0, .int 0, []),
    (18, .iadd, 19, 0, 0, .int 0, []),
    (19, .ireturn, 20, 0, 0, .int 0, [])])]
def m_Pla_distanceOf : xM := (xlk t_Pla_distanceOf, [], 1, ⟨"PrePressRoom$Places", "distanceOf", "(I)I"⟩, prog_4_method_4_code, (some .int), 1, 20)
def t_Pla_xOf : List (Nat × List (Nat × xI)) := [(100000, [(0, .iload_n 0, 1, 0, 0, .int 0, []),
    (1, .bipush 41, 3, 0, 0, .int 41, []),
    (3, .irem, 4, 0, 0, .int 0, []),
    (4, .bipush 20, 6, 0, 0, .int 20, []),
    (6, .isub, 7, 0, 0, .int 0, []),
    (7, .ireturn, 8, 0, 0, .int 0, [])])]
def m_Pla_xOf : xM := (xlk t_Pla_xOf, [], 1, ⟨"PrePressRoom$Places", "xOf", "(I)I"⟩, prog_4_method_2_code, (some .int), 0, 0)
def t_Pla_yOf : List (Nat × List (Nat × xI)) := [(100000, [(0, .iload_n 0, 1, 0, 0, .int 0, []),
    (1, .bipush 41, 3, 0, 0, .int 41, []),
    (3, .idiv, 4, 0, 0, .int 0, []),
    (4, .bipush 20, 6, 0, 0, .int 20, []),
    (6, .isub, 7, 0, 0, .int 0, []),
    (7, .ireturn, 8, 0, 0, .int 0, [])])]
def m_Pla_yOf : xM := (xlk t_Pla_yOf, [], 1, ⟨"PrePressRoom$Places", "yOf", "(I)I"⟩, prog_4_method_3_code, (some .int), 0, 0)
def t_Pla_sortByForm : List (Nat × List (Nat × xI)) := [(29, [(0, .aload_n 0, 1, 0, 0, .int 0, []),
    (1, .getfield 18, 4, 3, 2, .int 0, [154]),
    (4, .iconst 0, 5, 0, 0, .int 0, []),
    (5, .invokestatic 50, 8, 8, 2, .int 0, [140, 141]),
    (8, .iconst 0, 9, 0, 0, .int 0, []),
    (9, .istore 5, 11, 5, 0, .int 0, []),
    (11, .iload 5, 13, 5, 0, .int 0, []),
    (13, .iload_n 1, 14, 1, 0, .int 0, []),
    (14, .if_icmp .ge 34, 17, 48, 0, .int 0, []),
    (17, .aload_n 0, 18, 0, 0, .int 0, []),
    (18, .getfield 18, 21, 3, 2, .int 0, [154]),
    (21, .aload_n 0, 22, 0, 0, .int 0, []),
    (22, .getfield 11, 25, 3, 0, .int 0, [152]),
    (25, .iload 5, 27, 5, 0, .int 0, []),
    (27, .iaload, 28, 0, 0, .int 0, []),
    (28, .iload_n 2, 29, 2, 0, .int 0, [])]),
  (54, [(29, .iload_n 3, 30, 3, 0, .int 0, []),
    (30, .iload 4, 32, 4, 0, .int 0, []),
    (32, .invokestatic 56, 35, 9, 4, .int 0, [143, 144]),
    (35, .iconst 1, 36, 0, 0, .int 1, []),
    (36, .iadd, 37, 0, 0, .int 0, []),
    (37, .dup2, 38, 0, 0, .int 0, []),
    (38, .iaload, 39, 0, 0, .int 0, []),
    (39, .iconst 1, 40, 0, 0, .int 1, []),
    (40, .iadd, 41, 0, 0, .int 0, []),
    (41, .iastore, 42, 0, 0, .int 0, []),
    (42, .iinc 5 1, 45, 5, 0, .int 1, []),
    (45, .goto (-34), 48, 11, 0, .int 0, []),
    (48, .iconst 1, 49, 0, 0, .int 1, []),
    (49, .istore 5, 51, 5, 0, .int 0, []),
    (51, .iload 5, 53, 5, 0, .int 0, []),
    (53, .aload_n 0, 54, 0, 0, .int 0, [])]),
  (80, [(54, .getfield 18, 57, 3, 2, .int 0, [154]),
    (57, .arraylength, 58, 0, 0, .int 0, []),
    (58, .if_icmp .ge 28, 61, 86, 0, .int 0, []),
    (61, .aload_n 0, 62, 0, 0, .int 0, []),
    (62, .getfield 18, 65, 3, 2, .int 0, [154]),
    (65, .iload 5, 67, 5, 0, .int 0, []),
    (67, .dup2, 68, 0, 0, .int 0, []),
    (68, .iaload, 69, 0, 0, .int 0, []),
    (69, .aload_n 0, 70, 0, 0, .int 0, []),
    (70, .getfield 18, 73, 3, 2, .int 0, [154]),
    (73, .iload 5, 75, 5, 0, .int 0, []),
    (75, .iconst 1, 76, 0, 0, .int 1, []),
    (76, .isub, 77, 0, 0, .int 0, []),
    (77, .iaload, 78, 0, 0, .int 0, []),
    (78, .iadd, 79, 0, 0, .int 0, []),
    (79, .iastore, 80, 0, 0, .int 0, [])]),
  (111, [(80, .iinc 5 1, 83, 5, 0, .int 1, []),
    (83, .goto (-32), 86, 51, 0, .int 0, []),
    (86, .iconst 0, 87, 0, 0, .int 0, []),
    (87, .istore 5, 89, 5, 0, .int 0, []),
    (89, .iload 5, 91, 5, 0, .int 0, []),
    (91, .iload_n 1, 92, 1, 0, .int 0, []),
    (92, .if_icmp .ge 55, 95, 147, 0, .int 0, []),
    (95, .aload_n 0, 96, 0, 0, .int 0, []),
    (96, .getfield 11, 99, 3, 0, .int 0, [152]),
    (99, .iload 5, 101, 5, 0, .int 0, []),
    (101, .iaload, 102, 0, 0, .int 0, []),
    (102, .iload_n 2, 103, 2, 0, .int 0, []),
    (103, .iload_n 3, 104, 3, 0, .int 0, []),
    (104, .iload 4, 106, 4, 0, .int 0, []),
    (106, .invokestatic 56, 109, 9, 4, .int 0, [143, 144]),
    (109, .istore 6, 111, 6, 0, .int 0, [])]),
  (138, [(111, .aload_n 0, 112, 0, 0, .int 0, []),
    (112, .getfield 15, 115, 3, 1, .int 0, [153]),
    (115, .aload_n 0, 116, 0, 0, .int 0, []),
    (116, .getfield 18, 119, 3, 2, .int 0, [154]),
    (119, .iload 6, 121, 6, 0, .int 0, []),
    (121, .iaload, 122, 0, 0, .int 0, []),
    (122, .aload_n 0, 123, 0, 0, .int 0, []),
    (123, .getfield 11, 126, 3, 0, .int 0, [152]),
    (126, .iload 5, 128, 5, 0, .int 0, []),
    (128, .iaload, 129, 0, 0, .int 0, []),
    (129, .iastore, 130, 0, 0, .int 0, []),
    (130, .aload_n 0, 131, 0, 0, .int 0, []),
    (131, .getfield 18, 134, 3, 2, .int 0, [154]),
    (134, .iload 6, 136, 6, 0, .int 0, []),
    (136, .dup2, 137, 0, 0, .int 0, []),
    (137, .iaload, 138, 0, 0, .int 0, [])]),
  (100000, [(138, .iconst 1, 139, 0, 0, .int 1, []),
    (139, .iadd, 140, 0, 0, .int 0, []),
    (140, .iastore, 141, 0, 0, .int 0, []),
    (141, .iinc 5 1, 144, 5, 0, .int 1, []),
    (144, .goto (-55), 147, 89, 0, .int 0, []),
    (147, .return_, 148, 0, 0, .int 0, [])])]
def m_Pla_sortByForm : xM := (xlk t_Pla_sortByForm, [], 7, ⟨"PrePressRoom$Places", "sortByForm", "(IIII)V"⟩, prog_4_method_8_code, none, 3, 63)
def t_Arrays_fill : List (Nat × List (Nat × xI)) := [(100000, [(0, .iconst 0, 1, 0, 0, .int 0, []),
    (1, .istore_n 2, 2, 2, 0, .int 0, []),
    (2, .aload_n 0, 3, 0, 0, .int 0, []),
    (3, .arraylength, 4, 0, 0, .int 0, []),
    (4, .istore_n 3, 5, 3, 0, .int 0, []),
    (5, .iload_n 2, 6, 2, 0, .int 0, []),
    (6, .iload_n 3, 7, 3, 0, .int 0, []),
    (7, .if_icmp .ge 13, 10, 20, 0, .int 0, []),
    (10, .aload_n 0, 11, 0, 0, .int 0, []),
    (11, .iload_n 2, 12, 2, 0, .int 0, []),
    (12, .iload_n 1, 13, 1, 0, .int 0, []),
    (13, .iastore, 14, 0, 0, .int 0, []),
    (14, .iinc 2 1, 17, 2, 0, .int 1, []),
    (17, .goto (-12), 20, 5, 0, .int 0, []),
    (20, .return_, 21, 0, 0, .int 0, [])])]
def m_Arrays_fill : xM := (xlk t_Arrays_fill, [], 4, ⟨"java/util/Arrays", "fill", "([II)V"⟩, prog_21_method_103_code, none, 0, 0)
def t_Pla_formOf : List (Nat × List (Nat × xI)) := [(26, [(0, .iload_n 3, 1, 3, 0, .int 0, []),
    (1, .ifCond .ne 8, 4, 9, 0, .int 0, []),
    (4, .iload_n 0, 5, 0, 0, .int 0, []),
    (5, .invokestatic 21, 8, 4, 1, .int 0, [127, 128]),
    (8, .ireturn, 9, 0, 0, .int 0, []),
    (9, .iload_n 3, 10, 3, 0, .int 0, []),
    (10, .iconst 1, 11, 0, 0, .int 1, []),
    (11, .if_icmp .ne 20, 14, 31, 0, .int 0, []),
    (14, .iload_n 1, 15, 1, 0, .int 0, []),
    (15, .iload_n 0, 16, 0, 0, .int 0, []),
    (16, .invokestatic 42, 19, 6, 1, .int 0, [133, 134]),
    (19, .imul, 20, 0, 0, .int 0, []),
    (20, .iload_n 2, 21, 2, 0, .int 0, []),
    (21, .iload_n 0, 22, 0, 0, .int 0, []),
    (22, .invokestatic 39, 25, 5, 1, .int 0, [130, 131]),
    (25, .imul, 26, 0, 0, .int 0, [])]),
  (100000, [(26, .isub, 27, 0, 0, .int 0, []),
    (27, .invokestatic 45, 30, 10, 1, .int 0, [146, 147]),
    (30, .ireturn, 31, 0, 0, .int 0, []),
    (31, .iload_n 0, 32, 0, 0, .int 0, []),
    (32, .invokestatic 39, 35, 5, 1, .int 0, [130, 131]),
    (35, .invokestatic 45, 38, 10, 1, .int 0, [146, 147]),
    (38, .iload_n 0, 39, 0, 0, .int 0, []),
    (39, .invokestatic 42, 42, 6, 1, .int 0, [133, 134]),
    (42, .invokestatic 45, 45, 10, 1, .int 0, [146, 147]),
    (45, .iadd, 46, 0, 0, .int 0, []),
    (46, .ireturn, 47, 0, 0, .int 0, [])])]
def m_Pla_formOf : xM := (xlk t_Pla_formOf, [], 4, ⟨"PrePressRoom$Places", "formOf", "(IIII)I"⟩, prog_4_method_5_code, (some .int), 2, 40)
def t_Math_abs : List (Nat × List (Nat × xI)) := [(100000, [(0, .iload_n 0, 1, 0, 0, .int 0, []),
    (1, .ifCond .ge 8, 4, 9, 0, .int 0, []),
    (4, .iload_n 0, 5, 0, 0, .int 0, []),
    (5, .ineg, 6, 0, 0, .int 0, []),
    (6, .goto 4, 9, 10, 0, .int 0, []),
    (9, .iload_n 0, 10, 0, 0, .int 0, []),
    (10, .ireturn, 11, 0, 0, .int 0, [])])]
def m_Math_abs : xM := (xlk t_Math_abs, [], 1, ⟨"java/lang/Math", "abs", "(I)I"⟩, prog_16_method_59_code, (some .int), 0, 0)
def t_Scr_init : List (Nat × List (Nat × xI)) := [(30, [(0, .aload_n 0, 1, 0, 0, .int 0, []),
    (1, .invokespecial 3, 4, 0, 0, .null, [169, 68, 69]),
    (4, .aload_n 0, 5, 0, 0, .int 0, []),
    (5, .aload_n 1, 6, 1, 0, .int 0, []),
    (6, .putfield 9, 9, 4, 0, .retAddr 2, [210]),
    (9, .aload_n 0, 10, 0, 0, .int 0, []),
    (10, .sipush 400, 13, 0, 0, .int 400, []),
    (13, .newarray .int, 15, 0, 0, .int 0, [95]),
    (15, .putfield 15, 18, 4, 1, .retAddr 2, [211]),
    (18, .aload_n 0, 19, 0, 0, .int 0, []),
    (19, .sipush 400, 22, 0, 0, .int 400, []),
    (22, .newarray .int, 24, 0, 0, .int 0, [95]),
    (24, .putfield 19, 27, 4, 2, .retAddr 2, [212]),
    (27, .aload_n 0, 28, 0, 0, .int 0, []),
    (28, .iconst 4, 29, 0, 0, .int 4, []),
    (29, .iconst 0, 30, 0, 0, .int 0, [])]),
  (100000, [(30, .iconst 0, 31, 0, 0, .int 0, []),
    (31, .invokevirtual 22, 34, 12, 4, .retAddr 4, [170, 171, 172]),
    (34, .return_, 35, 0, 0, .int 0, [])])]
def m_Scr_init : xM := (xlk t_Scr_init, [], 2, ⟨"PrePressRoom$Screen", "<init>", "(LPrePressRoom$Places;)V"⟩, prog_5_method_1_code, none, 6, 137)
def t_Scr_lay : List (Nat × List (Nat × xI)) := [(22, [(0, .aload_n 0, 1, 0, 0, .int 0, []),
    (1, .iload_n 1, 2, 1, 0, .int 0, []),
    (2, .iload_n 1, 3, 1, 0, .int 0, []),
    (3, .imul, 4, 0, 0, .int 0, []),
    (4, .iload_n 2, 5, 2, 0, .int 0, []),
    (5, .iload_n 2, 6, 2, 0, .int 0, []),
    (6, .imul, 7, 0, 0, .int 0, []),
    (7, .iadd, 8, 0, 0, .int 0, []),
    (8, .putfield 26, 11, 4, 3, .retAddr 0, [213]),
    (11, .aload_n 0, 12, 0, 0, .int 0, []),
    (12, .iload_n 1, 13, 1, 0, .int 0, []),
    (13, .iload_n 2, 14, 2, 0, .int 0, []),
    (14, .invokestatic 30, 17, 13, 2, .int 0, [174, 175]),
    (17, .putfield 34, 20, 4, 4, .retAddr 0, [214]),
    (20, .aload_n 0, 21, 0, 0, .int 0, []),
    (21, .aload_n 0, 22, 0, 0, .int 0, [])]),
  (52, [(22, .iload_n 1, 23, 1, 0, .int 0, []),
    (23, .iload_n 2, 24, 2, 0, .int 0, []),
    (24, .invokevirtual 37, 27, 14, 3, .retAddr 4, [177, 179, 2]),
    (27, .putfield 40, 30, 4, 5, .retAddr 0, [215]),
    (30, .aload_n 0, 31, 0, 0, .int 0, []),
    (31, .getfield 9, 34, 4, 0, .int 0, [210]),
    (34, .aload_n 0, 35, 0, 0, .int 0, []),
    (35, .getfield 26, 38, 4, 3, .int 0, [213]),
    (38, .invokevirtual 43, 41, 16, 2, .retAddr 3, [185, 186, 187]),
    (41, .istore 4, 43, 4, 0, .int 0, []),
    (43, .aload_n 0, 44, 0, 0, .int 0, []),
    (44, .aload_n 0, 45, 0, 0, .int 0, []),
    (45, .getfield 9, 48, 4, 0, .int 0, [210]),
    (48, .iload 4, 50, 4, 0, .int 0, []),
    (50, .iload_n 1, 51, 1, 0, .int 0, []),
    (51, .iload_n 2, 52, 2, 0, .int 0, [])]),
  (100000, [(52, .iload_n 3, 53, 3, 0, .int 0, []),
    (53, .invokevirtual 49, 56, 17, 5, .retAddr 3, [189, 190, 191]),
    (56, .iload 4, 58, 4, 0, .int 0, []),
    (58, .invokevirtual 53, 61, 18, 3, .retAddr 4, [193, 195, 4]),
    (61, .return_, 62, 0, 0, .int 0, [])])]
def m_Scr_lay : xM := (xlk t_Scr_lay, [], 5, ⟨"PrePressRoom$Screen", "lay", "(III)V"⟩, prog_5_method_2_code, none, 5, 113)
def t_Scr_greatestDivisor : List (Nat × List (Nat × xI)) := [(27, [(0, .bipush 20, 2, 0, 0, .int 20, []),
    (2, .istore_n 2, 3, 2, 0, .int 0, []),
    (3, .iload_n 2, 4, 2, 0, .int 0, []),
    (4, .iconst 1, 5, 0, 0, .int 1, []),
    (5, .if_icmp .le 21, 8, 26, 0, .int 0, []),
    (8, .iload_n 0, 9, 0, 0, .int 0, []),
    (9, .iload_n 2, 10, 2, 0, .int 0, []),
    (10, .irem, 11, 0, 0, .int 0, []),
    (11, .ifCond .ne 9, 14, 20, 0, .int 0, []),
    (14, .iload_n 1, 15, 1, 0, .int 0, []),
    (15, .iload_n 2, 16, 2, 0, .int 0, []),
    (16, .irem, 17, 0, 0, .int 0, []),
    (17, .ifCond .eq 9, 20, 26, 0, .int 0, []),
    (20, .iinc 2 (-1), 23, 2, 0, .int (-1), []),
    (23, .goto (-20), 26, 3, 0, .int 0, []),
    (26, .iload_n 2, 27, 2, 0, .int 0, [])]),
  (100000, [(27, .ireturn, 28, 0, 0, .int 0, [])])]
def m_Scr_greatestDivisor : xM := (xlk t_Scr_greatestDivisor, [], 3, ⟨"PrePressRoom$Screen", "greatestDivisor", "(II)I"⟩, prog_5_method_3_code, (some .int), 0, 0)
def t_Scr_shiftOfRows : List (Nat × List (Nat × xI)) := [(30, [(0, .iconst 0, 1, 0, 0, .int 0, []),
    (1, .istore_n 3, 2, 3, 0, .int 0, []),
    (2, .iload_n 3, 3, 3, 0, .int 0, []),
    (3, .aload_n 0, 4, 0, 0, .int 0, []),
    (4, .getfield 26, 7, 4, 3, .int 0, [213]),
    (7, .if_icmp .ge 23, 10, 30, 0, .int 0, []),
    (10, .aload_n 0, 11, 0, 0, .int 0, []),
    (11, .iload_n 3, 12, 3, 0, .int 0, []),
    (12, .aload_n 0, 13, 0, 0, .int 0, []),
    (13, .getfield 34, 16, 4, 4, .int 0, [214]),
    (16, .iload_n 1, 17, 1, 0, .int 0, []),
    (17, .iload_n 2, 18, 2, 0, .int 0, []),
    (18, .invokevirtual 57, 21, 15, 5, .retAddr 4, [181, 183, 3]),
    (21, .ifCond .ne 9, 24, 30, 0, .int 0, []),
    (24, .iinc 3 1, 27, 3, 0, .int 1, []),
    (27, .goto (-25), 30, 2, 0, .int 0, [])]),
  (100000, [(30, .iload_n 3, 31, 3, 0, .int 0, []),
    (31, .ireturn, 32, 0, 0, .int 0, [])])]
def m_Scr_shiftOfRows : xM := (xlk t_Scr_shiftOfRows, [], 4, ⟨"PrePressRoom$Screen", "shiftOfRows", "(II)I"⟩, prog_5_method_4_code, (some .int), 1, 24)
def t_Scr_isOfLattice : List (Nat × List (Nat × xI)) := [(22, [(0, .iload_n 3, 1, 3, 0, .int 0, []),
    (1, .iload_n 1, 2, 1, 0, .int 0, []),
    (2, .imul, 3, 0, 0, .int 0, []),
    (3, .iload 4, 5, 4, 0, .int 0, []),
    (5, .iload_n 2, 6, 2, 0, .int 0, []),
    (6, .imul, 7, 0, 0, .int 0, []),
    (7, .iadd, 8, 0, 0, .int 0, []),
    (8, .aload_n 0, 9, 0, 0, .int 0, []),
    (9, .getfield 26, 12, 4, 3, .int 0, [213]),
    (12, .irem, 13, 0, 0, .int 0, []),
    (13, .ifCond .ne 23, 16, 36, 0, .int 0, []),
    (16, .iload_n 3, 17, 3, 0, .int 0, []),
    (17, .iload_n 2, 18, 2, 0, .int 0, []),
    (18, .imul, 19, 0, 0, .int 0, []),
    (19, .iload 4, 21, 4, 0, .int 0, []),
    (21, .iload_n 1, 22, 1, 0, .int 0, [])]),
  (100000, [(22, .imul, 23, 0, 0, .int 0, []),
    (23, .isub, 24, 0, 0, .int 0, []),
    (24, .aload_n 0, 25, 0, 0, .int 0, []),
    (25, .getfield 26, 28, 4, 3, .int 0, [213]),
    (28, .irem, 29, 0, 0, .int 0, []),
    (29, .ifCond .ne 7, 32, 36, 0, .int 0, []),
    (32, .iconst 1, 33, 0, 0, .int 1, []),
    (33, .goto 4, 36, 37, 0, .int 0, []),
    (36, .iconst 0, 37, 0, 0, .int 0, []),
    (37, .ireturn, 38, 0, 0, .int 0, [])])]
def m_Scr_isOfLattice : xM := (xlk t_Scr_isOfLattice, [], 5, ⟨"PrePressRoom$Screen", "isOfLattice", "(IIII)Z"⟩, prog_5_method_5_code, (some .boolean), 0, 0)
def t_Pla_countWithin : List (Nat × List (Nat × xI)) := [(30, [(0, .iconst 0, 1, 0, 0, .int 0, []),
    (1, .istore_n 2, 2, 2, 0, .int 0, []),
    (2, .iload_n 2, 3, 2, 0, .int 0, []),
    (3, .aload_n 0, 4, 0, 0, .int 0, []),
    (4, .getfield 25, 7, 3, 3, .int 0, [155]),
    (7, .if_icmp .ge 22, 10, 29, 0, .int 0, []),
    (10, .aload_n 0, 11, 0, 0, .int 0, []),
    (11, .getfield 11, 14, 3, 0, .int 0, [152]),
    (14, .iload_n 2, 15, 2, 0, .int 0, []),
    (15, .iaload, 16, 0, 0, .int 0, []),
    (16, .invokestatic 21, 19, 4, 1, .int 0, [127, 128]),
    (19, .iload_n 1, 20, 1, 0, .int 0, []),
    (20, .if_icmp .gt 9, 23, 29, 0, .int 0, []),
    (23, .iinc 2 1, 26, 2, 0, .int 1, []),
    (26, .goto (-24), 29, 2, 0, .int 0, []),
    (29, .iload_n 2, 30, 2, 0, .int 0, [])]),
  (100000, [(30, .ireturn, 31, 0, 0, .int 0, [])])]
def m_Pla_countWithin : xM := (xlk t_Pla_countWithin, [], 3, ⟨"PrePressRoom$Places", "countWithin", "(I)I"⟩, prog_4_method_6_code, (some .int), 2, 40)
def t_Pla_inOrder : List (Nat × List (Nat × xI)) := [(100000, [(0, .iload 4, 2, 4, 0, .int 0, []),
    (2, .ifCond .ne 8, 5, 10, 0, .int 0, []),
    (5, .aload_n 0, 6, 0, 0, .int 0, []),
    (6, .getfield 11, 9, 3, 0, .int 0, [152]),
    (9, .areturn, 10, 0, 0, .int 0, []),
    (10, .aload_n 0, 11, 0, 0, .int 0, []),
    (11, .iload_n 1, 12, 1, 0, .int 0, []),
    (12, .iload_n 2, 13, 2, 0, .int 0, []),
    (13, .iload_n 3, 14, 3, 0, .int 0, []),
    (14, .iload 4, 16, 4, 0, .int 0, []),
    (16, .invokevirtual 29, 19, 7, 5, .retAddr 3, [136, 138, 1]),
    (19, .aload_n 0, 20, 0, 0, .int 0, []),
    (20, .getfield 15, 23, 3, 1, .int 0, [153]),
    (23, .areturn, 24, 0, 0, .int 0, [])])]
def m_Pla_inOrder : xM := (xlk t_Pla_inOrder, [], 5, ⟨"PrePressRoom$Places", "inOrder", "(IIII)[I"⟩, prog_4_method_7_code, (some (.array .int)), 4, 89)
def t_Scr_giveRanks : List (Nat × List (Nat × xI)) := [(28, [(0, .aload_n 0, 1, 0, 0, .int 0, []),
    (1, .getfield 15, 4, 4, 1, .int 0, [211]),
    (4, .iconst (-1), 5, 0, 0, .int (-1), []),
    (5, .invokestatic 61, 8, 8, 2, .int 0, [197, 141]),
    (8, .iconst 0, 9, 0, 0, .int 0, []),
    (9, .istore_n 3, 10, 3, 0, .int 0, []),
    (10, .iconst 0, 11, 0, 0, .int 0, []),
    (11, .istore 4, 13, 4, 0, .int 0, []),
    (13, .iload 4, 15, 4, 0, .int 0, []),
    (15, .iload_n 2, 16, 2, 0, .int 0, []),
    (16, .if_icmp .ge 69, 19, 85, 0, .int 0, []),
    (19, .iload_n 3, 20, 3, 0, .int 0, []),
    (20, .aload_n 0, 21, 0, 0, .int 0, []),
    (21, .getfield 26, 24, 4, 3, .int 0, [213]),
    (24, .if_icmp .ge 61, 27, 85, 0, .int 0, []),
    (27, .aload_n 0, 28, 0, 0, .int 0, [])]),
  (58, [(28, .aload_n 1, 29, 1, 0, .int 0, []),
    (29, .iload 4, 31, 4, 0, .int 0, []),
    (31, .iaload, 32, 0, 0, .int 0, []),
    (32, .invokestatic 66, 35, 5, 1, .int 0, [198, 131]),
    (35, .aload_n 1, 36, 1, 0, .int 0, []),
    (36, .iload 4, 38, 4, 0, .int 0, []),
    (38, .iaload, 39, 0, 0, .int 0, []),
    (39, .invokestatic 69, 42, 6, 1, .int 0, [199, 134]),
    (42, .invokevirtual 72, 45, 19, 3, .retAddr 4, [200, 202, 5]),
    (45, .istore 5, 47, 5, 0, .int 0, []),
    (47, .aload_n 0, 48, 0, 0, .int 0, []),
    (48, .getfield 15, 51, 4, 1, .int 0, [211]),
    (51, .iload 5, 53, 5, 0, .int 0, []),
    (53, .iaload, 54, 0, 0, .int 0, []),
    (54, .iconst (-1), 55, 0, 0, .int (-1), []),
    (55, .if_icmp .ne 24, 58, 79, 0, .int 0, [])]),
  (100000, [(58, .aload_n 0, 59, 0, 0, .int 0, []),
    (59, .getfield 15, 62, 4, 1, .int 0, [211]),
    (62, .iload 5, 64, 5, 0, .int 0, []),
    (64, .iload_n 3, 65, 3, 0, .int 0, []),
    (65, .iastore, 66, 0, 0, .int 0, []),
    (66, .aload_n 0, 67, 0, 0, .int 0, []),
    (67, .getfield 19, 70, 4, 2, .int 0, [212]),
    (70, .iload_n 3, 71, 3, 0, .int 0, []),
    (71, .aload_n 1, 72, 1, 0, .int 0, []),
    (72, .iload 4, 74, 4, 0, .int 0, []),
    (74, .iaload, 75, 0, 0, .int 0, []),
    (75, .iastore, 76, 0, 0, .int 0, []),
    (76, .iinc 3 1, 79, 3, 0, .int 1, []),
    (79, .iinc 4 1, 82, 4, 0, .int 1, []),
    (82, .goto (-69), 85, 13, 0, .int 0, []),
    (85, .return_, 86, 0, 0, .int 0, [])])]
def m_Scr_giveRanks : xM := (xlk t_Scr_giveRanks, [], 6, ⟨"PrePressRoom$Screen", "giveRanks", "([II)V"⟩, prog_5_method_6_code, none, 2, 46)
def t_Scr_classAt : List (Nat × List (Nat × xI)) := [(28, [(0, .aload_n 0, 1, 0, 0, .int 0, []),
    (1, .getfield 26, 4, 4, 3, .int 0, [213]),
    (4, .aload_n 0, 5, 0, 0, .int 0, []),
    (5, .getfield 34, 8, 4, 4, .int 0, [214]),
    (8, .idiv, 9, 0, 0, .int 0, []),
    (9, .istore_n 3, 10, 3, 0, .int 0, []),
    (10, .iload_n 2, 11, 2, 0, .int 0, []),
    (11, .aload_n 0, 12, 0, 0, .int 0, []),
    (12, .getfield 34, 15, 4, 4, .int 0, [214]),
    (15, .invokestatic 75, 18, 20, 2, .int 0, [204, 205]),
    (18, .istore 4, 20, 4, 0, .int 0, []),
    (20, .iload_n 2, 21, 2, 0, .int 0, []),
    (21, .iload 4, 23, 4, 0, .int 0, []),
    (23, .aload_n 0, 24, 0, 0, .int 0, []),
    (24, .getfield 34, 27, 4, 4, .int 0, [214]),
    (27, .imul, 28, 0, 0, .int 0, [])]),
  (100000, [(28, .isub, 29, 0, 0, .int 0, []),
    (29, .iload_n 3, 30, 3, 0, .int 0, []),
    (30, .imul, 31, 0, 0, .int 0, []),
    (31, .iload_n 1, 32, 1, 0, .int 0, []),
    (32, .iload 4, 34, 4, 0, .int 0, []),
    (34, .aload_n 0, 35, 0, 0, .int 0, []),
    (35, .getfield 40, 38, 4, 5, .int 0, [215]),
    (38, .imul, 39, 0, 0, .int 0, []),
    (39, .isub, 40, 0, 0, .int 0, []),
    (40, .iload_n 3, 41, 3, 0, .int 0, []),
    (41, .invokestatic 80, 44, 21, 2, .int 0, [207, 208]),
    (44, .iadd, 45, 0, 0, .int 0, []),
    (45, .ireturn, 46, 0, 0, .int 0, [])])]
def m_Scr_classAt : xM := (xlk t_Scr_classAt, [], 5, ⟨"PrePressRoom$Screen", "classAt", "(II)I"⟩, prog_5_method_7_code, (some .int), 1, 22)
def t_Math_floorDiv : List (Nat × List (Nat × xI)) := [(20, [(0, .iload_n 0, 1, 0, 0, .int 0, []),
    (1, .iload_n 1, 2, 1, 0, .int 0, []),
    (2, .idiv, 3, 0, 0, .int 0, []),
    (3, .istore_n 2, 4, 2, 0, .int 0, []),
    (4, .iload_n 0, 5, 0, 0, .int 0, []),
    (5, .iload_n 1, 6, 1, 0, .int 0, []),
    (6, .ixor, 7, 0, 0, .int 0, []),
    (7, .ifCond .ge 14, 10, 21, 0, .int 0, []),
    (10, .iload_n 2, 11, 2, 0, .int 0, []),
    (11, .iload_n 1, 12, 1, 0, .int 0, []),
    (12, .imul, 13, 0, 0, .int 0, []),
    (13, .iload_n 0, 14, 0, 0, .int 0, []),
    (14, .if_icmp .eq 7, 17, 21, 0, .int 0, []),
    (17, .iload_n 2, 18, 2, 0, .int 0, []),
    (18, .iconst 1, 19, 0, 0, .int 1, []),
    (19, .isub, 20, 0, 0, .int 0, [])]),
  (100000, [(20, .ireturn, 21, 0, 0, .int 0, []),
    (21, .iload_n 2, 22, 2, 0, .int 0, []),
    (22, .ireturn, 23, 0, 0, .int 0, [])])]
def m_Math_floorDiv : xM := (xlk t_Math_floorDiv, [], 3, ⟨"java/lang/Math", "floorDiv", "(II)I"⟩, prog_16_method_47_code, (some .int), 0, 0)
def t_Math_floorMod : List (Nat × List (Nat × xI)) := [(100000, [(0, .iload_n 0, 1, 0, 0, .int 0, []),
    (1, .iload_n 1, 2, 1, 0, .int 0, []),
    (2, .irem, 3, 0, 0, .int 0, []),
    (3, .istore_n 2, 4, 2, 0, .int 0, []),
    (4, .iload_n 0, 5, 0, 0, .int 0, []),
    (5, .iload_n 1, 6, 1, 0, .int 0, []),
    (6, .ixor, 7, 0, 0, .int 0, []),
    (7, .ifCond .ge 11, 10, 18, 0, .int 0, []),
    (10, .iload_n 2, 11, 2, 0, .int 0, []),
    (11, .ifCond .eq 7, 14, 18, 0, .int 0, []),
    (14, .iload_n 2, 15, 2, 0, .int 0, []),
    (15, .iload_n 1, 16, 1, 0, .int 0, []),
    (16, .iadd, 17, 0, 0, .int 0, []),
    (17, .ireturn, 18, 0, 0, .int 0, []),
    (18, .iload_n 2, 19, 2, 0, .int 0, []),
    (19, .ireturn, 20, 0, 0, .int 0, [])])]
def m_Math_floorMod : xM := (xlk t_Math_floorMod, [], 3, ⟨"java/lang/Math", "floorMod", "(II)I"⟩, prog_16_method_50_code, (some .int), 0, 0)
def t_She_init : List (Nat × List (Nat × xI)) := [(30, [(0, .aload_n 0, 1, 0, 0, .int 0, []),
    (1, .invokespecial 3, 4, 0, 0, .null, [234, 68, 69]),
    (4, .aload_n 0, 5, 0, 0, .int 0, []),
    (5, .bipush 16, 7, 0, 0, .int 16, []),
    (7, .anewarray 11, 10, 11, 0, .int 0, [235, 236]),
    (10, .putfield 13, 13, 5, 0, .retAddr 2, [258]),
    (13, .iconst 0, 14, 0, 0, .int 0, []),
    (14, .istore_n 1, 15, 1, 0, .int 0, []),
    (15, .iload_n 1, 16, 1, 0, .int 0, []),
    (16, .bipush 16, 18, 0, 0, .int 16, []),
    (18, .if_icmp .ge 22, 21, 40, 0, .int 0, []),
    (21, .aload_n 0, 22, 0, 0, .int 0, []),
    (22, .getfield 13, 25, 5, 0, .int 0, [258]),
    (25, .iload_n 1, 26, 1, 0, .int 0, []),
    (26, .new 11, 29, 6, 5, .int 0, [235, 237, 52]),
    (29, .dup, 30, 0, 0, .int 0, [])]),
  (100000, [(30, .invokespecial 17, 33, 23, 1, .int 0, [238, 239]),
    (33, .aastore, 34, 0, 0, .int 0, []),
    (34, .iinc 1 1, 37, 1, 0, .int 1, []),
    (37, .goto (-22), 40, 15, 0, .int 0, []),
    (40, .aload_n 0, 41, 0, 0, .int 0, []),
    (41, .bipush 16, 43, 0, 0, .int 16, []),
    (43, .newarray .int, 45, 0, 0, .int 0, [95]),
    (45, .putfield 18, 48, 5, 1, .retAddr 2, [259]),
    (48, .return_, 49, 0, 0, .int 0, [])])]
def m_She_init : xM := (xlk t_She_init, [], 2, ⟨"PrePressRoom$Sheets", "<init>", "()V"⟩, prog_6_method_1_code, none, 2, 40)
def t_Leaf_init : List (Nat × List (Nat × xI)) := [(100000, [(0, .aload_n 0, 1, 0, 0, .int 0, []),
    (1, .invokespecial 1, 4, 0, 0, .null, [241, 68, 69]),
    (4, .return_, 5, 0, 0, .int 0, [])])]
def m_Leaf_init : xM := (xlk t_Leaf_init, [], 1, ⟨"PrePressRoom$Leaf", "<init>", "()V"⟩, prog_3_method_1_code, none, 1, 20)
def t_Law_colour : List (Nat × List (Nat × xI)) := [(23, [(0, .aload 4, 2, 4, 0, .int 0, []),
    (2, .iconst 0, 3, 0, 0, .int 0, []),
    (3, .aload_n 0, 4, 0, 0, .int 0, []),
    (4, .iload_n 1, 5, 1, 0, .int 0, []),
    (5, .iload_n 2, 6, 2, 0, .int 0, []),
    (6, .iload_n 3, 7, 3, 0, .int 0, []),
    (7, .invokevirtual 7, 10, 25, 4, .retAddr 0, [305, 306, 307]),
    (10, .i2l, 11, 0, 0, .int 0, []),
    (11, .lastore, 12, 0, 0, .int 0, []),
    (12, .goto 15, 15, 27, 0, .int 0, []),
    (15, .astore 5, 17, 5, 0, .int 0, []),
    (17, .iconst 1, 18, 0, 0, .int 1, []),
    (18, .ireturn, 19, 0, 0, .int 0, []),
    (19, .astore 5, 21, 5, 0, .int 0, []),
    (21, .iconst 2, 22, 0, 0, .int 2, []),
    (22, .ireturn, 23, 0, 0, .int 0, [])]),
  (100000, [(23, .astore 5, 25, 5, 0, .int 0, []),
    (25, .iconst 3, 26, 0, 0, .int 3, []),
    (26, .ireturn, 27, 0, 0, .int 0, []),
    (27, .iconst 0, 28, 0, 0, .int 0, []),
    (28, .ireturn, 29, 0, 0, .int 0, [])])]
def m_Law_colour : xM := (xlk t_Law_colour, [(0, 12, 15, 13, 8), (0, 12, 19, 15, 9), (0, 12, 23, 17, 10)], 6, ⟨"PrePressRoomLaw", "colour", "(LPrePressRoom;III[J)I"⟩, method_3_code, (some .int), 8, 137)
def t_Room_colour : List (Nat × List (Nat × xI)) := [(30, [(0, .iload_n 1, 1, 1, 0, .int 0, []),
    (1, .bipush 64, 3, 0, 0, .int 64, []),
    (3, .invokestatic 58, 6, 26, 2, .int 0, [309, 310]),
    (6, .iload_n 2, 7, 2, 0, .int 0, []),
    (7, .bipush 8, 9, 0, 0, .int 8, []),
    (9, .invokestatic 58, 12, 26, 2, .int 0, [309, 310]),
    (12, .iload_n 3, 13, 3, 0, .int 0, []),
    (13, .iconst 0, 14, 0, 0, .int 0, []),
    (14, .sipush 255, 17, 0, 0, .int 255, []),
    (17, .invokestatic 62, 20, 27, 3, .int 0, [380, 381]),
    (20, .iload_n 3, 21, 3, 0, .int 0, []),
    (21, .ifCond .le 27, 24, 48, 0, .int 0, []),
    (24, .iload_n 2, 25, 2, 0, .int 0, []),
    (25, .iconst 4, 26, 0, 0, .int 4, []),
    (26, .if_icmp .lt 22, 29, 48, 0, .int 0, []),
    (29, .aload_n 0, 30, 0, 0, .int 0, [])]),
  (63, [(30, .iload_n 1, 31, 1, 0, .int 0, []),
    (31, .iload_n 2, 32, 2, 0, .int 0, []),
    (32, .invokevirtual 66, 35, 28, 3, .retAddr 0, [399, 401, 7]),
    (35, .ifCond .eq 13, 38, 48, 0, .int 0, []),
    (38, .new 70, 41, 10, 6, .null, [72, 74, 403, 404, 59]),
    (41, .dup, 42, 0, 0, .int 0, []),
    (48, .iload_n 1, 49, 1, 0, .int 0, []),
    (49, .bipush 8, 51, 0, 0, .int 8, []),
    (51, .imul, 52, 0, 0, .int 0, []),
    (52, .iload_n 2, 53, 2, 0, .int 0, []),
    (53, .iadd, 54, 0, 0, .int 0, []),
    (54, .istore 4, 56, 4, 0, .int 0, []),
    (56, .aload_n 0, 57, 0, 0, .int 0, []),
    (57, .getfield 9, 60, 0, 0, .int 0, [274]),
    (60, .iload 4, 62, 4, 0, .int 0, []),
    (62, .iaload, 63, 0, 0, .int 0, [])]),
  (100000, [(63, .istore 5, 65, 5, 0, .int 0, []),
    (65, .aload_n 0, 66, 0, 0, .int 0, []),
    (66, .getfield 9, 69, 0, 0, .int 0, [274]),
    (69, .iload 4, 71, 4, 0, .int 0, []),
    (71, .iload_n 3, 72, 3, 0, .int 0, []),
    (72, .iastore, 73, 0, 0, .int 0, []),
    (73, .iload 5, 75, 5, 0, .int 0, []),
    (75, .ireturn, 76, 0, 0, .int 0, [])])]
def m_Room_colour : xM := (xlk t_Room_colour, [], 6, ⟨"PrePressRoom", "colour", "(III)I"⟩, prog_1_method_2_code, (some .int), 7, 112)
def t_Room_needIndex : List (Nat × List (Nat × xI)) := [(100000, [(0, .iload_n 0, 1, 0, 0, .int 0, []),
    (1, .ifCond .lt 8, 4, 9, 0, .int 0, []),
    (4, .iload_n 0, 5, 0, 0, .int 0, []),
    (5, .iload_n 1, 6, 1, 0, .int 0, []),
    (6, .if_icmp .lt 13, 9, 19, 0, .int 0, []),
    (9, .new 172, 12, 8, 6, .null, [174, 176, 312, 313, 57]),
    (12, .dup, 13, 0, 0, .int 0, []),
    (19, .return_, 20, 0, 0, .int 0, [])])]
def m_Room_needIndex : xM := (xlk t_Room_needIndex, [], 2, ⟨"PrePressRoom", "needIndex", "(II)V"⟩, prog_1_method_18_code, none, 6, 90)
def t_Room_needBetween : List (Nat × List (Nat × xI)) := [(100000, [(0, .iload_n 0, 1, 0, 0, .int 0, []),
    (1, .iload_n 1, 2, 1, 0, .int 0, []),
    (2, .if_icmp .lt 8, 5, 10, 0, .int 0, []),
    (5, .iload_n 0, 6, 0, 0, .int 0, []),
    (6, .iload_n 2, 7, 2, 0, .int 0, []),
    (7, .if_icmp .le 13, 10, 20, 0, .int 0, []),
    (10, .new 141, 13, 9, 6, .null, [177, 145, 383, 384, 58]),
    (13, .dup, 14, 0, 0, .int 0, []),
    (20, .return_, 21, 0, 0, .int 0, [])])]
def m_Room_needBetween : xM := (xlk t_Room_needBetween, [], 3, ⟨"PrePressRoom", "needBetween", "(III)V"⟩, prog_1_method_19_code, none, 6, 90)
def t_Room_hasOtherSpot : List (Nat × List (Nat × xI)) := [(24, [(0, .iconst 4, 1, 0, 0, .int 4, []),
    (1, .istore_n 3, 2, 3, 0, .int 0, []),
    (2, .iload_n 3, 3, 3, 0, .int 0, []),
    (3, .bipush 8, 5, 0, 0, .int 8, []),
    (5, .if_icmp .ge 30, 8, 35, 0, .int 0, []),
    (8, .iload_n 3, 9, 3, 0, .int 0, []),
    (9, .iload_n 2, 10, 2, 0, .int 0, []),
    (10, .if_icmp .eq 19, 13, 29, 0, .int 0, []),
    (13, .aload_n 0, 14, 0, 0, .int 0, []),
    (14, .getfield 9, 17, 0, 0, .int 0, [274]),
    (17, .iload_n 1, 18, 1, 0, .int 0, []),
    (18, .bipush 8, 20, 0, 0, .int 8, []),
    (20, .imul, 21, 0, 0, .int 0, []),
    (21, .iload_n 3, 22, 3, 0, .int 0, []),
    (22, .iadd, 23, 0, 0, .int 0, []),
    (23, .iaload, 24, 0, 0, .int 0, [])]),
  (100000, [(24, .ifCond .le 5, 27, 29, 0, .int 0, []),
    (27, .iconst 1, 28, 0, 0, .int 1, []),
    (28, .ireturn, 29, 0, 0, .int 0, []),
    (29, .iinc 3 1, 32, 3, 0, .int 1, []),
    (32, .goto (-30), 35, 2, 0, .int 0, []),
    (35, .iconst 0, 36, 0, 0, .int 0, []),
    (36, .ireturn, 37, 0, 0, .int 0, [])])]
def m_Room_hasOtherSpot : xM := (xlk t_Room_hasOtherSpot, [], 4, ⟨"PrePressRoom", "hasOtherSpot", "(II)Z"⟩, prog_1_method_26_code, (some .boolean), 0, 0)
def t_Law_box : List (Nat × List (Nat × xI)) := [(25, [(0, .aload 7, 2, 7, 0, .int 0, []),
    (2, .iconst 0, 3, 0, 0, .int 0, []),
    (3, .aload_n 0, 4, 0, 0, .int 0, []),
    (4, .iload_n 1, 5, 1, 0, .int 0, []),
    (5, .iload_n 2, 6, 2, 0, .int 0, []),
    (6, .iload_n 3, 7, 3, 0, .int 0, []),
    (7, .iload 4, 9, 4, 0, .int 0, []),
    (9, .iload 5, 11, 5, 0, .int 0, []),
    (11, .iload 6, 13, 6, 0, .int 0, []),
    (13, .invokevirtual 19, 16, 30, 7, .retAddr 0, [422, 423, 424]),
    (16, .i2l, 17, 0, 0, .int 0, []),
    (17, .lastore, 18, 0, 0, .int 0, []),
    (18, .goto 11, 21, 29, 0, .int 0, []),
    (21, .astore 8, 23, 8, 0, .int 0, []),
    (23, .iconst 1, 24, 0, 0, .int 1, []),
    (24, .ireturn, 25, 0, 0, .int 0, [])]),
  (100000, [(25, .astore 8, 27, 8, 0, .int 0, []),
    (27, .iconst 2, 28, 0, 0, .int 2, []),
    (28, .ireturn, 29, 0, 0, .int 0, []),
    (29, .iconst 0, 30, 0, 0, .int 0, []),
    (30, .ireturn, 31, 0, 0, .int 0, [])])]
def m_Law_box : xM := (xlk t_Law_box, [(0, 18, 21, 13, 8), (0, 18, 25, 15, 9)], 9, ⟨"PrePressRoomLaw", "box", "(LPrePressRoom;IIIIII[J)I"⟩, method_4_code, (some .int), 9, 164)
def t_Room_box : List (Nat × List (Nat × xI)) := [(32, [(0, .iload_n 1, 1, 1, 0, .int 0, []),
    (1, .iconst 4, 2, 0, 0, .int 4, []),
    (2, .invokestatic 58, 5, 26, 2, .int 0, [309, 310]),
    (5, .iload 6, 7, 6, 0, .int 0, []),
    (7, .bipush 64, 9, 0, 0, .int 64, []),
    (9, .invokestatic 58, 12, 26, 2, .int 0, [309, 310]),
    (12, .iload_n 2, 13, 2, 0, .int 0, []),
    (13, .iload 4, 15, 4, 0, .int 0, []),
    (15, .bipush 48, 17, 0, 0, .int 48, []),
    (17, .invokestatic 77, 20, 31, 3, .int 0, [426, 427]),
    (20, .iload_n 3, 21, 3, 0, .int 0, []),
    (21, .iload 5, 23, 5, 0, .int 0, []),
    (23, .bipush 64, 25, 0, 0, .int 64, []),
    (25, .invokestatic 77, 28, 31, 3, .int 0, [426, 427]),
    (28, .aload_n 0, 29, 0, 0, .int 0, []),
    (29, .getfield 15, 32, 0, 1, .int 0, [275])]),
  (57, [(32, .iload_n 1, 33, 1, 0, .int 0, []),
    (33, .aaload, 34, 0, 0, .int 0, []),
    (34, .astore 7, 36, 7, 0, .int 0, []),
    (36, .iconst 0, 37, 0, 0, .int 0, []),
    (37, .istore 8, 39, 8, 0, .int 0, []),
    (39, .iload_n 3, 40, 3, 0, .int 0, []),
    (40, .istore 9, 42, 9, 0, .int 0, []),
    (42, .iload 9, 44, 9, 0, .int 0, []),
    (44, .iload_n 3, 45, 3, 0, .int 0, []),
    (45, .iload 5, 47, 5, 0, .int 0, []),
    (47, .iadd, 48, 0, 0, .int 0, []),
    (48, .if_icmp .ge 59, 51, 107, 0, .int 0, []),
    (51, .iload 9, 53, 9, 0, .int 0, []),
    (53, .bipush 48, 55, 0, 0, .int 48, []),
    (55, .imul, 56, 0, 0, .int 0, []),
    (56, .iload_n 2, 57, 2, 0, .int 0, [])]),
  (85, [(57, .iadd, 58, 0, 0, .int 0, []),
    (58, .istore 10, 60, 10, 0, .int 0, []),
    (60, .iload 10, 62, 10, 0, .int 0, []),
    (62, .iload 9, 64, 9, 0, .int 0, []),
    (64, .bipush 48, 66, 0, 0, .int 48, []),
    (66, .imul, 67, 0, 0, .int 0, []),
    (67, .iload_n 2, 68, 2, 0, .int 0, []),
    (68, .iadd, 69, 0, 0, .int 0, []),
    (69, .iload 4, 71, 4, 0, .int 0, []),
    (71, .iadd, 72, 0, 0, .int 0, []),
    (72, .if_icmp .ge 29, 75, 101, 0, .int 0, []),
    (75, .aload 7, 77, 7, 0, .int 0, []),
    (77, .iload 10, 79, 10, 0, .int 0, []),
    (79, .iaload, 80, 0, 0, .int 0, []),
    (80, .iload 6, 82, 6, 0, .int 0, []),
    (82, .if_icmp .eq 13, 85, 95, 0, .int 0, [])]),
  (100000, [(85, .aload 7, 87, 7, 0, .int 0, []),
    (87, .iload 10, 89, 10, 0, .int 0, []),
    (89, .iload 6, 91, 6, 0, .int 0, []),
    (91, .iastore, 92, 0, 0, .int 0, []),
    (92, .iinc 8 1, 95, 8, 0, .int 1, []),
    (95, .iinc 10 1, 98, 10, 0, .int 1, []),
    (98, .goto (-38), 101, 60, 0, .int 0, []),
    (101, .iinc 9 1, 104, 9, 0, .int 1, []),
    (104, .goto (-62), 107, 42, 0, .int 0, []),
    (107, .iload 8, 109, 8, 0, .int 0, []),
    (109, .ireturn, 110, 0, 0, .int 0, [])])]
def m_Room_box : xM := (xlk t_Room_box, [], 11, ⟨"PrePressRoom", "box", "(IIIIII)I"⟩, prog_1_method_3_code, (some .int), 8, 134)
def t_Room_needSpan : List (Nat × List (Nat × xI)) := [(100000, [(0, .iload_n 0, 1, 0, 0, .int 0, []),
    (1, .iconst 0, 2, 0, 0, .int 0, []),
    (2, .iload_n 2, 3, 2, 0, .int 0, []),
    (3, .iconst 1, 4, 0, 0, .int 1, []),
    (4, .isub, 5, 0, 0, .int 0, []),
    (5, .invokestatic 62, 8, 27, 3, .int 0, [380, 381]),
    (8, .iload_n 1, 9, 1, 0, .int 0, []),
    (9, .iconst 1, 10, 0, 0, .int 1, []),
    (10, .iload_n 2, 11, 2, 0, .int 0, []),
    (11, .iload_n 0, 12, 0, 0, .int 0, []),
    (12, .isub, 13, 0, 0, .int 0, []),
    (13, .invokestatic 62, 16, 27, 3, .int 0, [380, 381]),
    (16, .return_, 17, 0, 0, .int 0, [])])]
def m_Room_needSpan : xM := (xlk t_Room_needSpan, [], 3, ⟨"PrePressRoom", "needSpan", "(III)V"⟩, prog_1_method_20_code, none, 7, 112)
def t_Law_cell : List (Nat × List (Nat × xI)) := [(100000, [(0, .aload 4, 2, 4, 0, .int 0, []),
    (2, .iconst 0, 3, 0, 0, .int 0, []),
    (3, .aload_n 0, 4, 0, 0, .int 0, []),
    (4, .iload_n 1, 5, 1, 0, .int 0, []),
    (5, .iload_n 2, 6, 2, 0, .int 0, []),
    (6, .iload_n 3, 7, 3, 0, .int 0, []),
    (7, .invokevirtual 23, 10, 33, 4, .retAddr 0, [432, 433, 434]),
    (10, .i2l, 11, 0, 0, .int 0, []),
    (11, .lastore, 12, 0, 0, .int 0, []),
    (12, .goto 7, 15, 19, 0, .int 0, []),
    (15, .astore 5, 17, 5, 0, .int 0, []),
    (17, .iconst 1, 18, 0, 0, .int 1, []),
    (18, .ireturn, 19, 0, 0, .int 0, []),
    (19, .iconst 0, 20, 0, 0, .int 0, []),
    (20, .ireturn, 21, 0, 0, .int 0, [])])]
def m_Law_cell : xM := (xlk t_Law_cell, [(0, 12, 15, 13, 8)], 6, ⟨"PrePressRoomLaw", "cell", "(LPrePressRoom;III[J)I"⟩, method_5_code, (some .int), 9, 156)
def t_Room_cell : List (Nat × List (Nat × xI)) := [(100000, [(0, .iload_n 1, 1, 1, 0, .int 0, []),
    (1, .iload_n 2, 2, 2, 0, .int 0, []),
    (2, .iload_n 3, 3, 3, 0, .int 0, []),
    (3, .invokestatic 80, 6, 34, 3, .int 0, [436, 437]),
    (6, .aload_n 0, 7, 0, 0, .int 0, []),
    (7, .getfield 15, 10, 0, 1, .int 0, [275]),
    (10, .iload_n 1, 11, 1, 0, .int 0, []),
    (11, .aaload, 12, 0, 0, .int 0, []),
    (12, .iload_n 2, 13, 2, 0, .int 0, []),
    (13, .iload_n 3, 14, 3, 0, .int 0, []),
    (14, .invokestatic 83, 17, 35, 2, .int 0, [439, 440]),
    (17, .iaload, 18, 0, 0, .int 0, []),
    (18, .ireturn, 19, 0, 0, .int 0, [])])]
def m_Room_cell : xM := (xlk t_Room_cell, [], 4, ⟨"PrePressRoom", "cell", "(III)I"⟩, prog_1_method_4_code, (some .int), 8, 133)
def t_Room_needCell : List (Nat × List (Nat × xI)) := [(100000, [(0, .iload_n 0, 1, 0, 0, .int 0, []),
    (1, .iconst 4, 2, 0, 0, .int 4, []),
    (2, .invokestatic 58, 5, 26, 2, .int 0, [309, 310]),
    (5, .iload_n 1, 6, 1, 0, .int 0, []),
    (6, .bipush 48, 8, 0, 0, .int 48, []),
    (8, .invokestatic 58, 11, 26, 2, .int 0, [309, 310]),
    (11, .iload_n 2, 12, 2, 0, .int 0, []),
    (12, .bipush 64, 14, 0, 0, .int 64, []),
    (14, .invokestatic 58, 17, 26, 2, .int 0, [309, 310]),
    (17, .return_, 18, 0, 0, .int 0, [])])]
def m_Room_needCell : xM := (xlk t_Room_needCell, [], 3, ⟨"PrePressRoom", "needCell", "(III)V"⟩, prog_1_method_21_code, none, 7, 111)
def t_Room_cellAt : List (Nat × List (Nat × xI)) := [(100000, [(0, .iload_n 1, 1, 1, 0, .int 0, []),
    (1, .bipush 48, 3, 0, 0, .int 48, []),
    (3, .imul, 4, 0, 0, .int 0, []),
    (4, .iload_n 0, 5, 0, 0, .int 0, []),
    (5, .iadd, 6, 0, 0, .int 0, []),
    (6, .ireturn, 7, 0, 0, .int 0, [])])]
def m_Room_cellAt : xM := (xlk t_Room_cellAt, [], 2, ⟨"PrePressRoom", "cellAt", "(II)I"⟩, prog_1_method_25_code, (some .int), 0, 0)
def t_Law_grey : List (Nat × List (Nat × xI)) := [(100000, [(0, .aload_n 0, 1, 0, 0, .int 0, []),
    (1, .iload_n 1, 2, 1, 0, .int 0, []),
    (2, .iload_n 2, 3, 2, 0, .int 0, []),
    (3, .invokevirtual 26, 6, 37, 3, .retAddr 0, [445, 446, 447]),
    (6, .goto 6, 9, 12, 0, .int 0, []),
    (9, .astore_n 3, 10, 3, 0, .int 0, []),
    (10, .iconst 1, 11, 0, 0, .int 1, []),
    (11, .ireturn, 12, 0, 0, .int 0, []),
    (12, .iconst 0, 13, 0, 0, .int 0, []),
    (13, .ireturn, 14, 0, 0, .int 0, [])])]
def m_Law_grey : xM := (xlk t_Law_grey, [(0, 6, 9, 15, 9)], 4, ⟨"PrePressRoomLaw", "grey", "(LPrePressRoom;II)I"⟩, method_6_code, (some .int), 8, 134)
def t_Room_grey : List (Nat × List (Nat × xI)) := [(100000, [(0, .iload_n 1, 1, 1, 0, .int 0, []),
    (1, .iconst 0, 2, 0, 0, .int 0, []),
    (2, .bipush 100, 4, 0, 0, .int 100, []),
    (4, .invokestatic 62, 7, 27, 3, .int 0, [380, 381]),
    (7, .iload_n 2, 8, 2, 0, .int 0, []),
    (8, .sipush 200, 11, 0, 0, .int 200, []),
    (11, .sipush 1020, 14, 0, 0, .int 1020, []),
    (14, .invokestatic 62, 17, 27, 3, .int 0, [380, 381]),
    (17, .aload_n 0, 18, 0, 0, .int 0, []),
    (18, .iload_n 1, 19, 1, 0, .int 0, []),
    (19, .putfield 51, 22, 0, 6, .retAddr 0, [280]),
    (22, .aload_n 0, 23, 0, 0, .int 0, []),
    (23, .iload_n 2, 24, 2, 0, .int 0, []),
    (24, .putfield 55, 27, 0, 7, .retAddr 0, [281]),
    (27, .return_, 28, 0, 0, .int 0, [])])]
def m_Room_grey : xM := (xlk t_Room_grey, [], 3, ⟨"PrePressRoom", "grey", "(II)V"⟩, prog_1_method_5_code, none, 7, 112)
def t_Law_separate : List (Nat × List (Nat × xI)) := [(100000, [(0, .aload_n 2, 1, 2, 0, .int 0, []),
    (1, .iconst 0, 2, 0, 0, .int 0, []),
    (2, .aload_n 0, 3, 0, 0, .int 0, []),
    (3, .iload_n 1, 4, 1, 0, .int 0, []),
    (4, .invokevirtual 30, 7, 39, 2, .retAddr 0, [452, 453, 454]),
    (7, .i2l, 8, 0, 0, .int 0, []),
    (8, .lastore, 9, 0, 0, .int 0, []),
    (9, .goto 6, 12, 15, 0, .int 0, []),
    (12, .astore_n 3, 13, 3, 0, .int 0, []),
    (13, .iconst 1, 14, 0, 0, .int 1, []),
    (14, .ireturn, 15, 0, 0, .int 0, []),
    (15, .iconst 0, 16, 0, 0, .int 0, []),
    (16, .ireturn, 17, 0, 0, .int 0, [])])]
def m_Law_separate : xM := (xlk t_Law_separate, [(0, 9, 12, 13, 8)], 4, ⟨"PrePressRoomLaw", "separate", "(LPrePressRoom;I[J)I"⟩, method_7_code, (some .int), 8, 132)
def t_Room_separate : List (Nat × List (Nat × xI)) := [(26, [(0, .iload_n 1, 1, 1, 0, .int 0, []),
    (1, .iconst 4, 2, 0, 0, .int 4, []),
    (2, .invokestatic 58, 5, 26, 2, .int 0, [309, 310]),
    (5, .aload_n 0, 6, 0, 0, .int 0, []),
    (6, .getfield 20, 9, 0, 2, .int 0, [276]),
    (9, .iload_n 1, 10, 1, 0, .int 0, []),
    (10, .aaload, 11, 0, 0, .int 0, []),
    (11, .aload_n 0, 12, 0, 0, .int 0, []),
    (12, .getfield 15, 15, 0, 1, .int 0, [275]),
    (15, .iload_n 1, 16, 1, 0, .int 0, []),
    (16, .aaload, 17, 0, 0, .int 0, []),
    (17, .aload_n 0, 18, 0, 0, .int 0, []),
    (18, .getfield 9, 21, 0, 0, .int 0, [274]),
    (21, .aload_n 0, 22, 0, 0, .int 0, []),
    (22, .getfield 51, 25, 0, 6, .int 0, [280]),
    (25, .aload_n 0, 26, 0, 0, .int 0, [])]),
  (100000, [(26, .getfield 55, 29, 0, 7, .int 0, [281]),
    (29, .invokevirtual 87, 32, 40, 5, .retAddr 1, [456, 457, 458]),
    (32, .ireturn, 33, 0, 0, .int 0, [])])]
def m_Room_separate : xM := (xlk t_Room_separate, [], 2, ⟨"PrePressRoom", "separate", "(I)I"⟩, prog_1_method_6_code, (some .int), 7, 111)
end
section
def t_Job_make : List (Nat × List (Nat × xI)) := [(28, [(0, .aload_n 1, 1, 1, 0, .int 0, []),
    (1, .iconst 0, 2, 0, 0, .int 0, []),
    (2, .aload_n 0, 3, 0, 0, .int 0, []),
    (3, .getfield 9, 6, 1, 0, .int 0, [79]),
    (6, .iconst 0, 7, 0, 0, .int 0, []),
    (7, .sipush 3072, 10, 0, 0, .int 3072, []),
    (10, .invokestatic 28, 13, 0, 0, .retAddr 0, [460, 151, 150, 49]),
    (13, .aload_n 2, 14, 2, 0, .int 0, []),
    (14, .iconst 0, 15, 0, 0, .int 0, []),
    (15, .aload_n 0, 16, 0, 0, .int 0, []),
    (16, .getfield 18, 19, 1, 2, .int 0, [81]),
    (19, .iconst 0, 20, 0, 0, .int 0, []),
    (20, .aload_n 0, 21, 0, 0, .int 0, []),
    (21, .getfield 18, 24, 1, 2, .int 0, [81]),
    (24, .arraylength, 25, 0, 0, .int 0, []),
    (25, .invokestatic 28, 28, 0, 0, .retAddr 0, [460, 151, 150, 49])]),
  (57, [(28, .aload_n 0, 29, 0, 0, .int 0, []),
    (29, .getfield 15, 32, 1, 1, .int 0, [80]),
    (32, .iconst (-1), 33, 0, 0, .int (-1), []),
    (33, .invokestatic 34, 36, 8, 2, .int 0, [461, 141]),
    (36, .iconst 0, 37, 0, 0, .int 0, []),
    (37, .istore 5, 39, 5, 0, .int 0, []),
    (39, .iload 5, 41, 5, 0, .int 0, []),
    (41, .bipush 64, 43, 0, 0, .int 64, []),
    (43, .if_icmp .ge 30, 46, 73, 0, .int 0, []),
    (46, .aload_n 0, 47, 0, 0, .int 0, []),
    (47, .iload 5, 49, 5, 0, .int 0, []),
    (49, .bipush 8, 51, 0, 0, .int 8, []),
    (51, .imul, 52, 0, 0, .int 0, []),
    (52, .iload_n 3, 53, 3, 0, .int 0, []),
    (53, .invokevirtual 40, 56, 41, 3, .retAddr 1, [462, 464, 8]),
    (56, .aload_n 0, 57, 0, 0, .int 0, [])]),
  (100000, [(57, .iload 5, 59, 5, 0, .int 0, []),
    (59, .bipush 8, 61, 0, 0, .int 8, []),
    (61, .imul, 62, 0, 0, .int 0, []),
    (62, .iload 4, 64, 4, 0, .int 0, []),
    (64, .invokevirtual 44, 67, 43, 3, .retAddr 1, [469, 471, 9]),
    (67, .iinc 5 1, 70, 5, 0, .int 1, []),
    (70, .goto (-31), 73, 39, 0, .int 0, []),
    (73, .aload_n 0, 74, 0, 0, .int 0, []),
    (74, .iconst 1, 75, 0, 0, .int 1, []),
    (75, .putfield 21, 78, 1, 3, .retAddr 1, [82]),
    (78, .aload_n 0, 79, 0, 0, .int 0, []),
    (79, .iconst 0, 80, 0, 0, .int 0, []),
    (80, .putfield 25, 83, 1, 4, .retAddr 1, [83]),
    (83, .aload_n 0, 84, 0, 0, .int 0, []),
    (84, .invokevirtual 47, 87, 45, 1, .retAddr 1, [476, 478, 10]),
    (87, .ireturn, 88, 0, 0, .int 0, [])])]
def m_Job_make : xM := (xlk t_Job_make, [], 6, ⟨"PrePressRoom$Job", "make", "([I[III)I"⟩, prog_2_method_5_code, (some .int), 2, 60)
def t_Job_moveToBlack : List (Nat × List (Nat × xI)) := [(22, [(0, .aload_n 0, 1, 0, 0, .int 0, []),
    (1, .getfield 18, 4, 1, 2, .int 0, [81]),
    (4, .iload_n 1, 5, 1, 0, .int 0, []),
    (5, .iaload, 6, 0, 0, .int 0, []),
    (6, .aload_n 0, 7, 0, 0, .int 0, []),
    (7, .getfield 18, 10, 1, 2, .int 0, [81]),
    (10, .iload_n 1, 11, 1, 0, .int 0, []),
    (11, .iconst 1, 12, 0, 0, .int 1, []),
    (12, .iadd, 13, 0, 0, .int 0, []),
    (13, .iaload, 14, 0, 0, .int 0, []),
    (14, .aload_n 0, 15, 0, 0, .int 0, []),
    (15, .getfield 18, 18, 1, 2, .int 0, [81]),
    (18, .iload_n 1, 19, 1, 0, .int 0, []),
    (19, .iconst 2, 20, 0, 0, .int 2, []),
    (20, .iadd, 21, 0, 0, .int 0, []),
    (21, .iaload, 22, 0, 0, .int 0, [])]),
  (47, [(22, .invokestatic 51, 25, 42, 2, .int 0, [466, 467]),
    (25, .invokestatic 51, 28, 42, 2, .int 0, [466, 467]),
    (28, .istore_n 3, 29, 3, 0, .int 0, []),
    (29, .iload_n 3, 30, 3, 0, .int 0, []),
    (30, .iload_n 2, 31, 2, 0, .int 0, []),
    (31, .imul, 32, 0, 0, .int 0, []),
    (32, .bipush 100, 34, 0, 0, .int 100, []),
    (34, .idiv, 35, 0, 0, .int 0, []),
    (35, .sipush 255, 38, 0, 0, .int 255, []),
    (38, .aload_n 0, 39, 0, 0, .int 0, []),
    (39, .getfield 18, 42, 1, 2, .int 0, [81]),
    (42, .iload_n 1, 43, 1, 0, .int 0, []),
    (43, .iconst 3, 44, 0, 0, .int 3, []),
    (44, .iadd, 45, 0, 0, .int 0, []),
    (45, .iaload, 46, 0, 0, .int 0, []),
    (46, .isub, 47, 0, 0, .int 0, [])]),
  (74, [(47, .invokestatic 51, 50, 42, 2, .int 0, [466, 467]),
    (50, .istore 4, 52, 4, 0, .int 0, []),
    (52, .iconst 0, 53, 0, 0, .int 0, []),
    (53, .istore 5, 55, 5, 0, .int 0, []),
    (55, .iload 5, 57, 5, 0, .int 0, []),
    (57, .iconst 3, 58, 0, 0, .int 3, []),
    (58, .if_icmp .ge 23, 61, 81, 0, .int 0, []),
    (61, .aload_n 0, 62, 0, 0, .int 0, []),
    (62, .getfield 18, 65, 1, 2, .int 0, [81]),
    (65, .iload_n 1, 66, 1, 0, .int 0, []),
    (66, .iload 5, 68, 5, 0, .int 0, []),
    (68, .iadd, 69, 0, 0, .int 0, []),
    (69, .dup2, 70, 0, 0, .int 0, []),
    (70, .iaload, 71, 0, 0, .int 0, []),
    (71, .iload 4, 73, 4, 0, .int 0, []),
    (73, .isub, 74, 0, 0, .int 0, [])]),
  (100000, [(74, .iastore, 75, 0, 0, .int 0, []),
    (75, .iinc 5 1, 78, 5, 0, .int 1, []),
    (78, .goto (-23), 81, 55, 0, .int 0, []),
    (81, .aload_n 0, 82, 0, 0, .int 0, []),
    (82, .getfield 18, 85, 1, 2, .int 0, [81]),
    (85, .iload_n 1, 86, 1, 0, .int 0, []),
    (86, .iconst 3, 87, 0, 0, .int 3, []),
    (87, .iadd, 88, 0, 0, .int 0, []),
    (88, .dup2, 89, 0, 0, .int 0, []),
    (89, .iaload, 90, 0, 0, .int 0, []),
    (90, .iload 4, 92, 4, 0, .int 0, []),
    (92, .iadd, 93, 0, 0, .int 0, []),
    (93, .iastore, 94, 0, 0, .int 0, []),
    (94, .return_, 95, 0, 0, .int 0, [])])]
def m_Job_moveToBlack : xM := (xlk t_Job_moveToBlack, [], 6, ⟨"PrePressRoom$Job", "moveToBlack", "(II)V"⟩, prog_2_method_6_code, none, 1, 21)
def t_Math_min : List (Nat × List (Nat × xI)) := [(100000, [(0, .iload_n 0, 1, 0, 0, .int 0, []),
    (1, .iload_n 1, 2, 1, 0, .int 0, []),
    (2, .if_icmp .gt 7, 5, 9, 0, .int 0, []),
    (5, .iload_n 0, 6, 0, 0, .int 0, []),
    (6, .goto 4, 9, 10, 0, .int 0, []),
    (9, .iload_n 1, 10, 1, 0, .int 0, []),
    (10, .ireturn, 11, 0, 0, .int 0, [])])]
def m_Math_min : xM := (xlk t_Math_min, [], 2, ⟨"java/lang/Math", "min", "(II)I"⟩, prog_16_method_69_code, (some .int), 0, 0)
def t_Job_keepLimit : List (Nat × List (Nat × xI)) := [(22, [(0, .aload_n 0, 1, 0, 0, .int 0, []),
    (1, .getfield 18, 4, 1, 2, .int 0, [81]),
    (4, .iload_n 1, 5, 1, 0, .int 0, []),
    (5, .iconst 3, 6, 0, 0, .int 3, []),
    (6, .iadd, 7, 0, 0, .int 0, []),
    (7, .iaload, 8, 0, 0, .int 0, []),
    (8, .istore_n 3, 9, 3, 0, .int 0, []),
    (9, .aload_n 0, 10, 0, 0, .int 0, []),
    (10, .getfield 18, 13, 1, 2, .int 0, [81]),
    (13, .iload_n 1, 14, 1, 0, .int 0, []),
    (14, .iaload, 15, 0, 0, .int 0, []),
    (15, .aload_n 0, 16, 0, 0, .int 0, []),
    (16, .getfield 18, 19, 1, 2, .int 0, [81]),
    (19, .iload_n 1, 20, 1, 0, .int 0, []),
    (20, .iconst 1, 21, 0, 0, .int 1, []),
    (21, .iadd, 22, 0, 0, .int 0, [])]),
  (45, [(22, .iaload, 23, 0, 0, .int 0, []),
    (23, .iadd, 24, 0, 0, .int 0, []),
    (24, .aload_n 0, 25, 0, 0, .int 0, []),
    (25, .getfield 18, 28, 1, 2, .int 0, [81]),
    (28, .iload_n 1, 29, 1, 0, .int 0, []),
    (29, .iconst 2, 30, 0, 0, .int 2, []),
    (30, .iadd, 31, 0, 0, .int 0, []),
    (31, .iaload, 32, 0, 0, .int 0, []),
    (32, .iadd, 33, 0, 0, .int 0, []),
    (33, .istore 4, 35, 4, 0, .int 0, []),
    (35, .iload 4, 37, 4, 0, .int 0, []),
    (37, .ifCond .eq 11, 40, 48, 0, .int 0, []),
    (40, .iload 4, 42, 4, 0, .int 0, []),
    (42, .iload_n 3, 43, 3, 0, .int 0, []),
    (43, .iadd, 44, 0, 0, .int 0, []),
    (44, .iload_n 2, 45, 2, 0, .int 0, [])]),
  (72, [(45, .if_icmp .gt 4, 48, 49, 0, .int 0, []),
    (48, .return_, 49, 0, 0, .int 0, []),
    (49, .iload_n 2, 50, 2, 0, .int 0, []),
    (50, .iload_n 3, 51, 3, 0, .int 0, []),
    (51, .isub, 52, 0, 0, .int 0, []),
    (52, .iconst 0, 53, 0, 0, .int 0, []),
    (53, .invokestatic 57, 56, 44, 2, .int 0, [473, 474]),
    (56, .istore 5, 58, 5, 0, .int 0, []),
    (58, .iconst 0, 59, 0, 0, .int 0, []),
    (59, .istore 6, 61, 6, 0, .int 0, []),
    (61, .iload 6, 63, 6, 0, .int 0, []),
    (63, .iconst 3, 64, 0, 0, .int 3, []),
    (64, .if_icmp .ge 33, 67, 97, 0, .int 0, []),
    (67, .aload_n 0, 68, 0, 0, .int 0, []),
    (68, .getfield 18, 71, 1, 2, .int 0, [81]),
    (71, .iload_n 1, 72, 1, 0, .int 0, [])]),
  (100000, [(72, .iload 6, 74, 6, 0, .int 0, []),
    (74, .iadd, 75, 0, 0, .int 0, []),
    (75, .aload_n 0, 76, 0, 0, .int 0, []),
    (76, .getfield 18, 79, 1, 2, .int 0, [81]),
    (79, .iload_n 1, 80, 1, 0, .int 0, []),
    (80, .iload 6, 82, 6, 0, .int 0, []),
    (82, .iadd, 83, 0, 0, .int 0, []),
    (83, .iaload, 84, 0, 0, .int 0, []),
    (84, .iload 5, 86, 5, 0, .int 0, []),
    (86, .imul, 87, 0, 0, .int 0, []),
    (87, .iload 4, 89, 4, 0, .int 0, []),
    (89, .idiv, 90, 0, 0, .int 0, []),
    (90, .iastore, 91, 0, 0, .int 0, []),
    (91, .iinc 6 1, 94, 6, 0, .int 1, []),
    (94, .goto (-33), 97, 61, 0, .int 0, []),
    (97, .return_, 98, 0, 0, .int 0, [])])]
def m_Job_keepLimit : xM := (xlk t_Job_keepLimit, [], 7, ⟨"PrePressRoom$Job", "keepLimit", "(II)V"⟩, prog_2_method_7_code, none, 1, 21)
def t_Math_max : List (Nat × List (Nat × xI)) := [(100000, [(0, .iload_n 0, 1, 0, 0, .int 0, []),
    (1, .iload_n 1, 2, 1, 0, .int 0, []),
    (2, .if_icmp .lt 7, 5, 9, 0, .int 0, []),
    (5, .iload_n 0, 6, 0, 0, .int 0, []),
    (6, .goto 4, 9, 10, 0, .int 0, []),
    (9, .iload_n 1, 10, 1, 0, .int 0, []),
    (10, .ireturn, 11, 0, 0, .int 0, [])])]
def m_Math_max : xM := (xlk t_Math_max, [], 2, ⟨"java/lang/Math", "max", "(II)I"⟩, prog_16_method_65_code, (some .int), 0, 0)
def t_Job_countColours : List (Nat × List (Nat × xI)) := [(22, [(0, .lconst 0, 1, 0, 0, .long 0, []),
    (1, .lstore_n 1, 2, 1, 0, .int 0, []),
    (2, .iconst 0, 3, 0, 0, .int 0, []),
    (3, .istore_n 3, 4, 3, 0, .int 0, []),
    (4, .iload_n 3, 5, 3, 0, .int 0, []),
    (5, .sipush 3072, 8, 0, 0, .int 3072, []),
    (8, .if_icmp .ge 20, 11, 28, 0, .int 0, []),
    (11, .lload_n 1, 12, 1, 0, .int 0, []),
    (12, .lconst 1, 13, 0, 0, .long 1, []),
    (13, .aload_n 0, 14, 0, 0, .int 0, []),
    (14, .getfield 9, 17, 1, 0, .int 0, [79]),
    (17, .iload_n 3, 18, 3, 0, .int 0, []),
    (18, .iaload, 19, 0, 0, .int 0, []),
    (19, .lshl, 20, 0, 0, .int 0, []),
    (20, .lor, 21, 0, 0, .int 0, []),
    (21, .lstore_n 1, 22, 1, 0, .int 0, [])]),
  (100000, [(22, .iinc 3 1, 25, 3, 0, .int 1, []),
    (25, .goto (-21), 28, 4, 0, .int 0, []),
    (28, .lload_n 1, 29, 1, 0, .int 0, []),
    (29, .invokestatic 60, 32, 46, 1, .int 0, [480, 481]),
    (32, .ireturn, 33, 0, 0, .int 0, [])])]
def m_Job_countColours : xM := (xlk t_Job_countColours, [], 4, ⟨"PrePressRoom$Job", "countColours", "()I"⟩, prog_2_method_8_code, (some .int), 1, 21)
def t_Long_bitCount : List (Nat × List (Nat × xI)) := [(22, [(0, .lload_n 0, 1, 0, 0, .int 0, []),
    (1, .lload_n 0, 2, 0, 0, .int 0, []),
    (2, .iconst 1, 3, 0, 0, .int 1, []),
    (3, .lushr, 4, 0, 0, .int 0, []),
    (4, .ldc2_w 314, 7, 0, 0, .long 6148914691236517205, [483]),
    (7, .land, 8, 0, 0, .int 0, []),
    (8, .lsub, 9, 0, 0, .int 0, []),
    (9, .lstore_n 0, 10, 0, 0, .int 0, []),
    (10, .lload_n 0, 11, 0, 0, .int 0, []),
    (11, .ldc2_w 316, 14, 0, 0, .long 3689348814741910323, [484]),
    (14, .land, 15, 0, 0, .int 0, []),
    (15, .lload_n 0, 16, 0, 0, .int 0, []),
    (16, .iconst 2, 17, 0, 0, .int 2, []),
    (17, .lushr, 18, 0, 0, .int 0, []),
    (18, .ldc2_w 316, 21, 0, 0, .long 3689348814741910323, [484]),
    (21, .land, 22, 0, 0, .int 0, [])]),
  (41, [(22, .ladd, 23, 0, 0, .int 0, []),
    (23, .lstore_n 0, 24, 0, 0, .int 0, []),
    (24, .lload_n 0, 25, 0, 0, .int 0, []),
    (25, .lload_n 0, 26, 0, 0, .int 0, []),
    (26, .iconst 4, 27, 0, 0, .int 4, []),
    (27, .lushr, 28, 0, 0, .int 0, []),
    (28, .ladd, 29, 0, 0, .int 0, []),
    (29, .ldc2_w 318, 32, 0, 0, .long 1085102592571150095, [485]),
    (32, .land, 33, 0, 0, .int 0, []),
    (33, .lstore_n 0, 34, 0, 0, .int 0, []),
    (34, .lload_n 0, 35, 0, 0, .int 0, []),
    (35, .lload_n 0, 36, 0, 0, .int 0, []),
    (36, .bipush 8, 38, 0, 0, .int 8, []),
    (38, .lushr, 39, 0, 0, .int 0, []),
    (39, .ladd, 40, 0, 0, .int 0, []),
    (40, .lstore_n 0, 41, 0, 0, .int 0, [])]),
  (60, [(41, .lload_n 0, 42, 0, 0, .int 0, []),
    (42, .lload_n 0, 43, 0, 0, .int 0, []),
    (43, .bipush 16, 45, 0, 0, .int 16, []),
    (45, .lushr, 46, 0, 0, .int 0, []),
    (46, .ladd, 47, 0, 0, .int 0, []),
    (47, .lstore_n 0, 48, 0, 0, .int 0, []),
    (48, .lload_n 0, 49, 0, 0, .int 0, []),
    (49, .lload_n 0, 50, 0, 0, .int 0, []),
    (50, .bipush 32, 52, 0, 0, .int 32, []),
    (52, .lushr, 53, 0, 0, .int 0, []),
    (53, .ladd, 54, 0, 0, .int 0, []),
    (54, .lstore_n 0, 55, 0, 0, .int 0, []),
    (55, .lload_n 0, 56, 0, 0, .int 0, []),
    (56, .l2i, 57, 0, 0, .int 0, []),
    (57, .bipush 127, 59, 0, 0, .int 127, []),
    (59, .iand, 60, 0, 0, .int 0, [])]),
  (100000, [(60, .ireturn, 61, 0, 0, .int 0, [])])]
def m_Long_bitCount : xM := (xlk t_Long_bitCount, [], 2, ⟨"java/lang/Long", "bitCount", "(J)I"⟩, prog_15_method_50_code, (some .int), 0, 0)
def t_Law_plate : List (Nat × List (Nat × xI)) := [(24, [(0, .aload 5, 2, 5, 0, .int 0, []),
    (2, .iconst 0, 3, 0, 0, .int 0, []),
    (3, .aload_n 0, 4, 0, 0, .int 0, []),
    (4, .iload_n 1, 5, 1, 0, .int 0, []),
    (5, .iload_n 2, 6, 2, 0, .int 0, []),
    (6, .iload_n 3, 7, 3, 0, .int 0, []),
    (7, .iload 4, 9, 4, 0, .int 0, []),
    (9, .invokevirtual 34, 12, 48, 5, .retAddr 0, [489, 490, 491]),
    (12, .i2l, 13, 0, 0, .int 0, []),
    (13, .lastore, 14, 0, 0, .int 0, []),
    (14, .goto 11, 17, 25, 0, .int 0, []),
    (17, .astore 6, 19, 6, 0, .int 0, []),
    (19, .iconst 1, 20, 0, 0, .int 1, []),
    (20, .ireturn, 21, 0, 0, .int 0, []),
    (21, .astore 6, 23, 6, 0, .int 0, []),
    (23, .iconst 2, 24, 0, 0, .int 2, [])]),
  (100000, [(24, .ireturn, 25, 0, 0, .int 0, []),
    (25, .iconst 0, 26, 0, 0, .int 0, []),
    (26, .ireturn, 27, 0, 0, .int 0, [])])]
def m_Law_plate : xM := (xlk t_Law_plate, [(0, 14, 17, 13, 8), (0, 14, 21, 17, 10)], 7, ⟨"PrePressRoomLaw", "plate", "(LPrePressRoom;IIII[J)I"⟩, method_8_code, (some .int), 10, 180)
def t_Room_plate : List (Nat × List (Nat × xI)) := [(100000, [(0, .iload_n 2, 1, 2, 0, .int 0, []),
    (1, .bipush 8, 3, 0, 0, .int 8, []),
    (3, .invokestatic 58, 6, 26, 2, .int 0, [309, 310]),
    (6, .aload_n 0, 7, 0, 0, .int 0, []),
    (7, .iload_n 1, 8, 1, 0, .int 0, []),
    (8, .iload_n 3, 9, 3, 0, .int 0, []),
    (9, .iload 4, 11, 4, 0, .int 0, []),
    (11, .invokevirtual 91, 14, 49, 4, .retAddr 0, [493, 495, 11]),
    (14, .iload_n 3, 15, 3, 0, .int 0, []),
    (15, .iload 4, 17, 4, 0, .int 0, []),
    (17, .invokestatic 83, 20, 35, 2, .int 0, [439, 440]),
    (20, .iload_n 2, 21, 2, 0, .int 0, []),
    (21, .invokevirtual 95, 24, 51, 3, .retAddr 1, [502, 503, 504]),
    (24, .ireturn, 25, 0, 0, .int 0, [])])]
def m_Room_plate : xM := (xlk t_Room_plate, [], 5, ⟨"PrePressRoom", "plate", "(IIII)I"⟩, prog_1_method_7_code, (some .int), 9, 156)
def t_Room_madeJob : List (Nat × List (Nat × xI)) := [(34, [(0, .iload_n 1, 1, 1, 0, .int 0, []),
    (1, .iload_n 2, 2, 2, 0, .int 0, []),
    (2, .iload_n 3, 3, 3, 0, .int 0, []),
    (3, .invokestatic 80, 6, 34, 3, .int 0, [436, 437]),
    (6, .aload_n 0, 7, 0, 0, .int 0, []),
    (7, .getfield 20, 10, 0, 2, .int 0, [276]),
    (10, .iload_n 1, 11, 1, 0, .int 0, []),
    (11, .aaload, 12, 0, 0, .int 0, []),
    (12, .invokevirtual 98, 15, 50, 1, .retAddr 1, [497, 498, 499]),
    (15, .ifCond .ne 13, 18, 28, 0, .int 0, []),
    (18, .new 70, 21, 10, 6, .null, [181, 74, 403, 404, 59]),
    (21, .dup, 22, 0, 0, .int 0, []),
    (28, .aload_n 0, 29, 0, 0, .int 0, []),
    (29, .getfield 20, 32, 0, 2, .int 0, [276]),
    (32, .iload_n 1, 33, 1, 0, .int 0, []),
    (33, .aaload, 34, 0, 0, .int 0, [])]),
  (100000, [(34, .areturn, 35, 0, 0, .int 0, [])])]
def m_Room_madeJob : xM := (xlk t_Room_madeJob, [], 4, ⟨"PrePressRoom", "madeJob", "(III)LPrePressRoom$Job;"⟩, prog_1_method_23_code, (some (.object "PrePressRoom$Job")), 8, 133)
def t_Job_isMade : List (Nat × List (Nat × xI)) := [(100000, [(0, .aload_n 0, 1, 0, 0, .int 0, []),
    (1, .getfield 21, 4, 1, 3, .int 0, [82]),
    (4, .ireturn, 5, 0, 0, .int 0, [])])]
def m_Job_isMade : xM := (xlk t_Job_isMade, [], 1, ⟨"PrePressRoom$Job", "isMade", "()Z"⟩, prog_2_method_2_code, (some .boolean), 0, 0)
def t_Job_amountAt : List (Nat × List (Nat × xI)) := [(23, [(0, .aload_n 0, 1, 0, 0, .int 0, []),
    (1, .getfield 18, 4, 1, 2, .int 0, [81]),
    (4, .aload_n 0, 5, 0, 0, .int 0, []),
    (5, .getfield 9, 8, 1, 0, .int 0, [79]),
    (8, .iload_n 1, 9, 1, 0, .int 0, []),
    (9, .iaload, 10, 0, 0, .int 0, []),
    (10, .bipush 8, 12, 0, 0, .int 8, []),
    (12, .imul, 13, 0, 0, .int 0, []),
    (13, .iload_n 2, 14, 2, 0, .int 0, []),
    (14, .iadd, 15, 0, 0, .int 0, []),
    (15, .iaload, 16, 0, 0, .int 0, []),
    (16, .istore_n 3, 17, 3, 0, .int 0, []),
    (17, .aload_n 0, 18, 0, 0, .int 0, []),
    (18, .getfield 15, 21, 1, 1, .int 0, [80]),
    (21, .iload_n 1, 22, 1, 0, .int 0, []),
    (22, .iaload, 23, 0, 0, .int 0, [])]),
  (48, [(23, .iconst (-1), 24, 0, 0, .int (-1), []),
    (24, .if_icmp .ne 7, 27, 31, 0, .int 0, []),
    (27, .iload_n 3, 28, 3, 0, .int 0, []),
    (28, .goto 23, 31, 51, 0, .int 0, []),
    (31, .iload_n 3, 32, 3, 0, .int 0, []),
    (32, .aload_n 0, 33, 0, 0, .int 0, []),
    (33, .getfield 18, 36, 1, 2, .int 0, [81]),
    (36, .aload_n 0, 37, 0, 0, .int 0, []),
    (37, .getfield 15, 40, 1, 1, .int 0, [80]),
    (40, .iload_n 1, 41, 1, 0, .int 0, []),
    (41, .iaload, 42, 0, 0, .int 0, []),
    (42, .bipush 8, 44, 0, 0, .int 8, []),
    (44, .imul, 45, 0, 0, .int 0, []),
    (45, .iload_n 2, 46, 2, 0, .int 0, []),
    (46, .iadd, 47, 0, 0, .int 0, []),
    (47, .iaload, 48, 0, 0, .int 0, [])]),
  (100000, [(48, .invokestatic 57, 51, 44, 2, .int 0, [473, 474]),
    (51, .ireturn, 52, 0, 0, .int 0, [])])]
def m_Job_amountAt : xM := (xlk t_Job_amountAt, [], 4, ⟨"PrePressRoom$Job", "amountAt", "(II)I"⟩, prog_2_method_12_code, (some .int), 1, 21)
def t_Law_trap : List (Nat × List (Nat × xI)) := [(23, [(0, .aload_n 3, 1, 3, 0, .int 0, []),
    (1, .iconst 0, 2, 0, 0, .int 0, []),
    (2, .aload_n 0, 3, 0, 0, .int 0, []),
    (3, .iload_n 1, 4, 1, 0, .int 0, []),
    (4, .iload_n 2, 5, 2, 0, .int 0, []),
    (5, .invokevirtual 38, 8, 53, 3, .retAddr 0, [509, 510, 511]),
    (8, .i2l, 9, 0, 0, .int 0, []),
    (9, .lastore, 10, 0, 0, .int 0, []),
    (10, .goto 15, 13, 25, 0, .int 0, []),
    (13, .astore 4, 15, 4, 0, .int 0, []),
    (15, .iconst 1, 16, 0, 0, .int 1, []),
    (16, .ireturn, 17, 0, 0, .int 0, []),
    (17, .astore 4, 19, 4, 0, .int 0, []),
    (19, .iconst 2, 20, 0, 0, .int 2, []),
    (20, .ireturn, 21, 0, 0, .int 0, []),
    (21, .astore 4, 23, 4, 0, .int 0, [])]),
  (100000, [(23, .iconst 3, 24, 0, 0, .int 3, []),
    (24, .ireturn, 25, 0, 0, .int 0, []),
    (25, .iconst 0, 26, 0, 0, .int 0, []),
    (26, .ireturn, 27, 0, 0, .int 0, [])])]
def m_Law_trap : xM := (xlk t_Law_trap, [(0, 10, 13, 13, 8), (0, 10, 17, 15, 9), (0, 10, 21, 17, 10)], 5, ⟨"PrePressRoomLaw", "trap", "(LPrePressRoom;II[J)I"⟩, method_9_code, (some .int), 8, 135)
def t_Room_trap : List (Nat × List (Nat × xI)) := [(26, [(0, .iload_n 1, 1, 1, 0, .int 0, []),
    (1, .iconst 4, 2, 0, 0, .int 4, []),
    (2, .invokestatic 58, 5, 26, 2, .int 0, [309, 310]),
    (5, .iload_n 2, 6, 2, 0, .int 0, []),
    (6, .iconst 1, 7, 0, 0, .int 1, []),
    (7, .iconst 3, 8, 0, 0, .int 3, []),
    (8, .invokestatic 62, 11, 27, 3, .int 0, [380, 381]),
    (11, .aload_n 0, 12, 0, 0, .int 0, []),
    (12, .getfield 20, 15, 0, 2, .int 0, [276]),
    (15, .iload_n 1, 16, 1, 0, .int 0, []),
    (16, .aaload, 17, 0, 0, .int 0, []),
    (17, .astore_n 3, 18, 3, 0, .int 0, []),
    (18, .aload_n 3, 19, 3, 0, .int 0, []),
    (19, .invokevirtual 98, 22, 50, 1, .retAddr 1, [497, 498, 499]),
    (22, .ifCond .eq 10, 25, 32, 0, .int 0, []),
    (25, .aload_n 3, 26, 3, 0, .int 0, [])]),
  (100000, [(26, .invokevirtual 102, 29, 54, 1, .retAddr 1, [513, 514, 515]),
    (29, .ifCond .eq 13, 32, 42, 0, .int 0, []),
    (32, .new 70, 35, 10, 6, .null, [105, 74, 403, 404, 59]),
    (35, .dup, 36, 0, 0, .int 0, []),
    (42, .aload_n 0, 43, 0, 0, .int 0, []),
    (43, .getfield 28, 46, 0, 3, .int 0, [277]),
    (46, .aload_n 3, 47, 3, 0, .int 0, []),
    (47, .iload_n 2, 48, 2, 0, .int 0, []),
    (48, .invokevirtual 107, 51, 55, 3, .retAddr 2, [518, 519, 520]),
    (51, .ireturn, 52, 0, 0, .int 0, [])])]
def m_Room_trap : xM := (xlk t_Room_trap, [], 4, ⟨"PrePressRoom", "trap", "(II)I"⟩, prog_1_method_8_code, (some .int), 7, 112)
def t_Job_isSpread : List (Nat × List (Nat × xI)) := [(100000, [(0, .aload_n 0, 1, 0, 0, .int 0, []),
    (1, .getfield 25, 4, 1, 4, .int 0, [83]),
    (4, .ireturn, 5, 0, 0, .int 0, [])])]
def m_Job_isSpread : xM := (xlk t_Job_isSpread, [], 1, ⟨"PrePressRoom$Job", "isSpread", "()Z"⟩, prog_2_method_3_code, (some .boolean), 0, 0)
def t_Spr_spread : List (Nat × List (Nat × xI)) := [(27, [(0, .aload_n 0, 1, 0, 0, .int 0, []),
    (1, .aload_n 1, 2, 1, 0, .int 0, []),
    (2, .invokevirtual 28, 5, 56, 2, .retAddr 2, [522, 524, 12]),
    (5, .iconst 0, 6, 0, 0, .int 0, []),
    (6, .istore_n 3, 7, 3, 0, .int 0, []),
    (7, .iload_n 3, 8, 3, 0, .int 0, []),
    (8, .bipush 64, 10, 0, 0, .int 64, []),
    (10, .if_icmp .ge 20, 13, 30, 0, .int 0, []),
    (13, .aload_n 0, 14, 0, 0, .int 0, []),
    (14, .getfield 18, 17, 2, 2, .int 0, [104]),
    (17, .iload_n 3, 18, 3, 0, .int 0, []),
    (18, .aload_n 0, 19, 0, 0, .int 0, []),
    (19, .iload_n 3, 20, 3, 0, .int 0, []),
    (20, .invokevirtual 32, 23, 59, 2, .retAddr 2, [536, 538, 13]),
    (23, .lastore, 24, 0, 0, .int 0, []),
    (24, .iinc 3 1, 27, 3, 0, .int 1, [])]),
  (55, [(27, .goto (-20), 30, 7, 0, .int 0, []),
    (30, .iconst 0, 31, 0, 0, .int 0, []),
    (31, .istore_n 3, 32, 3, 0, .int 0, []),
    (32, .iload_n 3, 33, 3, 0, .int 0, []),
    (33, .sipush 3072, 36, 0, 0, .int 3072, []),
    (36, .if_icmp .ge 22, 39, 58, 0, .int 0, []),
    (39, .aload_n 0, 40, 0, 0, .int 0, []),
    (40, .getfield 22, 43, 2, 3, .int 0, [105]),
    (43, .iload_n 3, 44, 3, 0, .int 0, []),
    (44, .lconst 1, 45, 0, 0, .long 1, []),
    (45, .aload_n 1, 46, 1, 0, .int 0, []),
    (46, .iload_n 3, 47, 3, 0, .int 0, []),
    (47, .invokevirtual 36, 50, 62, 2, .retAddr 1, [548, 549, 550]),
    (50, .lshl, 51, 0, 0, .int 0, []),
    (51, .lastore, 52, 0, 0, .int 0, []),
    (52, .iinc 3 1, 55, 3, 0, .int 1, [])]),
  (83, [(55, .goto (-23), 58, 32, 0, .int 0, []),
    (58, .iconst 0, 59, 0, 0, .int 0, []),
    (59, .istore_n 3, 60, 3, 0, .int 0, []),
    (60, .iconst 1, 61, 0, 0, .int 1, []),
    (61, .istore 4, 63, 4, 0, .int 0, []),
    (63, .iload 4, 65, 4, 0, .int 0, []),
    (65, .iload_n 2, 66, 2, 0, .int 0, []),
    (66, .if_icmp .gt 25, 69, 91, 0, .int 0, []),
    (69, .aload_n 0, 70, 0, 0, .int 0, []),
    (70, .invokevirtual 42, 73, 63, 1, .retAddr 2, [552, 554, 16]),
    (73, .aload_n 0, 74, 0, 0, .int 0, []),
    (74, .invokevirtual 45, 77, 64, 1, .retAddr 2, [556, 558, 17]),
    (77, .iload_n 3, 78, 3, 0, .int 0, []),
    (78, .aload_n 0, 79, 0, 0, .int 0, []),
    (79, .aload_n 1, 80, 1, 0, .int 0, []),
    (80, .invokevirtual 48, 83, 65, 2, .retAddr 2, [560, 562, 18])]),
  (100000, [(83, .iadd, 84, 0, 0, .int 0, []),
    (84, .istore_n 3, 85, 3, 0, .int 0, []),
    (85, .iinc 4 1, 88, 4, 0, .int 1, []),
    (88, .goto (-25), 91, 63, 0, .int 0, []),
    (91, .aload_n 1, 92, 1, 0, .int 0, []),
    (92, .invokevirtual 52, 95, 70, 1, .retAddr 1, [579, 580, 581]),
    (95, .iload_n 3, 96, 3, 0, .int 0, []),
    (96, .ireturn, 97, 0, 0, .int 0, [])])]
def m_Spr_spread : xM := (xlk t_Spr_spread, [], 5, ⟨"PrePressRoom$Spreader", "spread", "(LPrePressRoom$Job;I)I"⟩, prog_7_method_2_code, (some .int), 3, 68)
def t_Spr_weigh : List (Nat × List (Nat × xI)) := [(25, [(0, .iconst 0, 1, 0, 0, .int 0, []),
    (1, .istore_n 2, 2, 2, 0, .int 0, []),
    (2, .iload_n 2, 3, 2, 0, .int 0, []),
    (3, .bipush 64, 5, 0, 0, .int 64, []),
    (5, .if_icmp .ge 31, 8, 36, 0, .int 0, []),
    (8, .aload_n 0, 9, 0, 0, .int 0, []),
    (9, .getfield 9, 12, 2, 0, .int 0, [102]),
    (12, .iload_n 2, 13, 2, 0, .int 0, []),
    (13, .aload_n 1, 14, 1, 0, .int 0, []),
    (14, .iload_n 2, 15, 2, 0, .int 0, []),
    (15, .invokevirtual 55, 18, 57, 2, .retAddr 1, [526, 527, 528]),
    (18, .iastore, 19, 0, 0, .int 0, []),
    (19, .aload_n 0, 20, 0, 0, .int 0, []),
    (20, .getfield 15, 23, 2, 1, .int 0, [103]),
    (23, .iload_n 2, 24, 2, 0, .int 0, []),
    (24, .aload_n 1, 25, 1, 0, .int 0, [])]),
  (100000, [(25, .iload_n 2, 26, 2, 0, .int 0, []),
    (26, .invokevirtual 58, 29, 58, 2, .retAddr 1, [530, 531, 532]),
    (29, .iastore, 30, 0, 0, .int 0, []),
    (30, .iinc 2 1, 33, 2, 0, .int 1, []),
    (33, .goto (-31), 36, 2, 0, .int 0, []),
    (36, .return_, 37, 0, 0, .int 0, [])])]
def m_Spr_weigh : xM := (xlk t_Spr_weigh, [], 3, ⟨"PrePressRoom$Spreader", "weigh", "(LPrePressRoom$Job;)V"⟩, prog_7_method_3_code, none, 1, 23)
def t_Job_inksOf : List (Nat × List (Nat × xI)) := [(23, [(0, .iconst 0, 1, 0, 0, .int 0, []),
    (1, .istore_n 2, 2, 2, 0, .int 0, []),
    (2, .iconst 0, 3, 0, 0, .int 0, []),
    (3, .istore_n 3, 4, 3, 0, .int 0, []),
    (4, .iload_n 3, 5, 3, 0, .int 0, []),
    (5, .bipush 8, 7, 0, 0, .int 8, []),
    (7, .if_icmp .ge 31, 10, 38, 0, .int 0, []),
    (10, .aload_n 0, 11, 0, 0, .int 0, []),
    (11, .getfield 18, 14, 1, 2, .int 0, [81]),
    (14, .iload_n 1, 15, 1, 0, .int 0, []),
    (15, .bipush 8, 17, 0, 0, .int 8, []),
    (17, .imul, 18, 0, 0, .int 0, []),
    (18, .iload_n 3, 19, 3, 0, .int 0, []),
    (19, .iadd, 20, 0, 0, .int 0, []),
    (20, .iaload, 21, 0, 0, .int 0, []),
    (21, .bipush 64, 23, 0, 0, .int 64, [])]),
  (100000, [(23, .if_icmp .lt 9, 26, 32, 0, .int 0, []),
    (26, .iload_n 2, 27, 2, 0, .int 0, []),
    (27, .iconst 1, 28, 0, 0, .int 1, []),
    (28, .iload_n 3, 29, 3, 0, .int 0, []),
    (29, .ishl, 30, 0, 0, .int 0, []),
    (30, .ior, 31, 0, 0, .int 0, []),
    (31, .istore_n 2, 32, 2, 0, .int 0, []),
    (32, .iinc 3 1, 35, 3, 0, .int 1, []),
    (35, .goto (-31), 38, 4, 0, .int 0, []),
    (38, .iload_n 2, 39, 2, 0, .int 0, []),
    (39, .ireturn, 40, 0, 0, .int 0, [])])]
def m_Job_inksOf : xM := (xlk t_Job_inksOf, [], 4, ⟨"PrePressRoom$Job", "inksOf", "(I)I"⟩, prog_2_method_14_code, (some .int), 0, 0)
def t_Job_weightOf : List (Nat × List (Nat × xI)) := [(22, [(0, .iconst 0, 1, 0, 0, .int 0, []),
    (1, .istore_n 2, 2, 2, 0, .int 0, []),
    (2, .iconst 0, 3, 0, 0, .int 0, []),
    (3, .istore_n 3, 4, 3, 0, .int 0, []),
    (4, .iload_n 3, 5, 3, 0, .int 0, []),
    (5, .bipush 8, 7, 0, 0, .int 8, []),
    (7, .if_icmp .ge 29, 10, 36, 0, .int 0, []),
    (10, .iload_n 2, 11, 2, 0, .int 0, []),
    (11, .aload_n 0, 12, 0, 0, .int 0, []),
    (12, .getfield 18, 15, 1, 2, .int 0, [81]),
    (15, .iload_n 1, 16, 1, 0, .int 0, []),
    (16, .bipush 8, 18, 0, 0, .int 8, []),
    (18, .imul, 19, 0, 0, .int 0, []),
    (19, .iload_n 3, 20, 3, 0, .int 0, []),
    (20, .iadd, 21, 0, 0, .int 0, []),
    (21, .iaload, 22, 0, 0, .int 0, [])]),
  (100000, [(22, .getstatic 66, 25, 0, 0, .int 0, [534]),
    (25, .iload_n 3, 26, 3, 0, .int 0, []),
    (26, .iaload, 27, 0, 0, .int 0, []),
    (27, .imul, 28, 0, 0, .int 0, []),
    (28, .iadd, 29, 0, 0, .int 0, []),
    (29, .istore_n 2, 30, 2, 0, .int 0, []),
    (30, .iinc 3 1, 33, 3, 0, .int 1, []),
    (33, .goto (-29), 36, 4, 0, .int 0, []),
    (36, .iload_n 2, 37, 2, 0, .int 0, []),
    (37, .ireturn, 38, 0, 0, .int 0, [])])]
def m_Job_weightOf : xM := (xlk t_Job_weightOf, [], 4, ⟨"PrePressRoom$Job", "weightOf", "(I)I"⟩, prog_2_method_15_code, (some .int), 0, 0)
def t_Spr_lighterShyOf : List (Nat × List (Nat × xI)) := [(29, [(0, .lconst 0, 1, 0, 0, .long 0, []),
    (1, .lstore_n 2, 2, 2, 0, .int 0, []),
    (2, .iconst 0, 3, 0, 0, .int 0, []),
    (3, .istore 4, 5, 4, 0, .int 0, []),
    (5, .iload 4, 7, 4, 0, .int 0, []),
    (7, .bipush 64, 9, 0, 0, .int 64, []),
    (9, .if_icmp .ge 36, 12, 45, 0, .int 0, []),
    (12, .aload_n 0, 13, 0, 0, .int 0, []),
    (13, .iload_n 1, 14, 1, 0, .int 0, []),
    (14, .iload 4, 16, 4, 0, .int 0, []),
    (16, .invokevirtual 61, 19, 60, 3, .retAddr 2, [540, 542, 14]),
    (19, .ifCond .eq 20, 22, 39, 0, .int 0, []),
    (22, .aload_n 0, 23, 0, 0, .int 0, []),
    (23, .iload 4, 25, 4, 0, .int 0, []),
    (25, .iload_n 1, 26, 1, 0, .int 0, []),
    (26, .invokevirtual 65, 29, 61, 3, .retAddr 2, [544, 546, 15])]),
  (100000, [(29, .ifCond .eq 10, 32, 39, 0, .int 0, []),
    (32, .lload_n 2, 33, 2, 0, .int 0, []),
    (33, .lconst 1, 34, 0, 0, .long 1, []),
    (34, .iload 4, 36, 4, 0, .int 0, []),
    (36, .lshl, 37, 0, 0, .int 0, []),
    (37, .lor, 38, 0, 0, .int 0, []),
    (38, .lstore_n 2, 39, 2, 0, .int 0, []),
    (39, .iinc 4 1, 42, 4, 0, .int 1, []),
    (42, .goto (-37), 45, 5, 0, .int 0, []),
    (45, .lload_n 2, 46, 2, 0, .int 0, []),
    (46, .lreturn, 47, 0, 0, .int 0, [])])]
def m_Spr_lighterShyOf : xM := (xlk t_Spr_lighterShyOf, [], 5, ⟨"PrePressRoom$Spreader", "lighterShyOf", "(I)J"⟩, prog_7_method_4_code, (some .long), 1, 22)
def t_Spr_isShy : List (Nat × List (Nat × xI)) := [(28, [(0, .aload_n 0, 1, 0, 0, .int 0, []),
    (1, .getfield 9, 4, 2, 0, .int 0, [102]),
    (4, .iload_n 1, 5, 1, 0, .int 0, []),
    (5, .iaload, 6, 0, 0, .int 0, []),
    (6, .ifCond .eq 32, 9, 38, 0, .int 0, []),
    (9, .aload_n 0, 10, 0, 0, .int 0, []),
    (10, .getfield 9, 13, 2, 0, .int 0, [102]),
    (13, .iload_n 2, 14, 2, 0, .int 0, []),
    (14, .iaload, 15, 0, 0, .int 0, []),
    (15, .ifCond .eq 23, 18, 38, 0, .int 0, []),
    (18, .aload_n 0, 19, 0, 0, .int 0, []),
    (19, .getfield 9, 22, 2, 0, .int 0, [102]),
    (22, .iload_n 1, 23, 1, 0, .int 0, []),
    (23, .iaload, 24, 0, 0, .int 0, []),
    (24, .aload_n 0, 25, 0, 0, .int 0, []),
    (25, .getfield 9, 28, 2, 0, .int 0, [102])]),
  (100000, [(28, .iload_n 2, 29, 2, 0, .int 0, []),
    (29, .iaload, 30, 0, 0, .int 0, []),
    (30, .iand, 31, 0, 0, .int 0, []),
    (31, .ifCond .ne 7, 34, 38, 0, .int 0, []),
    (34, .iconst 1, 35, 0, 0, .int 1, []),
    (35, .goto 4, 38, 39, 0, .int 0, []),
    (38, .iconst 0, 39, 0, 0, .int 0, []),
    (39, .ireturn, 40, 0, 0, .int 0, [])])]
def m_Spr_isShy : xM := (xlk t_Spr_isShy, [], 3, ⟨"PrePressRoom$Spreader", "isShy", "(II)Z"⟩, prog_7_method_5_code, (some .boolean), 0, 0)
def t_Spr_isLighter : List (Nat × List (Nat × xI)) := [(26, [(0, .aload_n 0, 1, 0, 0, .int 0, []),
    (1, .getfield 15, 4, 2, 1, .int 0, [103]),
    (4, .iload_n 1, 5, 1, 0, .int 0, []),
    (5, .iaload, 6, 0, 0, .int 0, []),
    (6, .aload_n 0, 7, 0, 0, .int 0, []),
    (7, .getfield 15, 10, 2, 1, .int 0, [103]),
    (10, .iload_n 2, 11, 2, 0, .int 0, []),
    (11, .iaload, 12, 0, 0, .int 0, []),
    (12, .if_icmp .lt 23, 15, 35, 0, .int 0, []),
    (15, .aload_n 0, 16, 0, 0, .int 0, []),
    (16, .getfield 15, 19, 2, 1, .int 0, [103]),
    (19, .iload_n 1, 20, 1, 0, .int 0, []),
    (20, .iaload, 21, 0, 0, .int 0, []),
    (21, .aload_n 0, 22, 0, 0, .int 0, []),
    (22, .getfield 15, 25, 2, 1, .int 0, [103]),
    (25, .iload_n 2, 26, 2, 0, .int 0, [])]),
  (100000, [(26, .iaload, 27, 0, 0, .int 0, []),
    (27, .if_icmp .ne 12, 30, 39, 0, .int 0, []),
    (30, .iload_n 1, 31, 1, 0, .int 0, []),
    (31, .iload_n 2, 32, 2, 0, .int 0, []),
    (32, .if_icmp .ge 7, 35, 39, 0, .int 0, []),
    (35, .iconst 1, 36, 0, 0, .int 1, []),
    (36, .goto 4, 39, 40, 0, .int 0, []),
    (39, .iconst 0, 40, 0, 0, .int 0, []),
    (40, .ireturn, 41, 0, 0, .int 0, [])])]
def m_Spr_isLighter : xM := (xlk t_Spr_isLighter, [], 3, ⟨"PrePressRoom$Spreader", "isLighter", "(II)Z"⟩, prog_7_method_6_code, (some .boolean), 0, 0)
def t_Job_colourAt : List (Nat × List (Nat × xI)) := [(100000, [(0, .aload_n 0, 1, 0, 0, .int 0, []),
    (1, .getfield 9, 4, 1, 0, .int 0, [79]),
    (4, .iload_n 1, 5, 1, 0, .int 0, []),
    (5, .iaload, 6, 0, 0, .int 0, []),
    (6, .ireturn, 7, 0, 0, .int 0, [])])]
def m_Job_colourAt : xM := (xlk t_Job_colourAt, [], 2, ⟨"PrePressRoom$Job", "colourAt", "(I)I"⟩, prog_2_method_9_code, (some .int), 0, 0)
def t_Spr_widenAcross : List (Nat × List (Nat × xI)) := [(25, [(0, .iconst 0, 1, 0, 0, .int 0, []),
    (1, .istore_n 1, 2, 1, 0, .int 0, []),
    (2, .iload_n 1, 3, 1, 0, .int 0, []),
    (3, .sipush 3072, 6, 0, 0, .int 3072, []),
    (6, .if_icmp .ge 68, 9, 74, 0, .int 0, []),
    (9, .iload_n 1, 10, 1, 0, .int 0, []),
    (10, .bipush 48, 12, 0, 0, .int 48, []),
    (12, .irem, 13, 0, 0, .int 0, []),
    (13, .istore_n 2, 14, 2, 0, .int 0, []),
    (14, .iload_n 2, 15, 2, 0, .int 0, []),
    (15, .ifCond .le 14, 18, 29, 0, .int 0, []),
    (18, .aload_n 0, 19, 0, 0, .int 0, []),
    (19, .getfield 22, 22, 2, 3, .int 0, [105]),
    (22, .iload_n 1, 23, 1, 0, .int 0, []),
    (23, .iconst 1, 24, 0, 0, .int 1, []),
    (24, .isub, 25, 0, 0, .int 0, [])]),
  (51, [(25, .laload, 26, 0, 0, .int 0, []),
    (26, .goto 4, 29, 30, 0, .int 0, []),
    (29, .lconst 0, 30, 0, 0, .long 0, []),
    (30, .lstore_n 3, 31, 3, 0, .int 0, []),
    (31, .iload_n 2, 32, 2, 0, .int 0, []),
    (32, .bipush 47, 34, 0, 0, .int 47, []),
    (34, .if_icmp .ge 14, 37, 48, 0, .int 0, []),
    (37, .aload_n 0, 38, 0, 0, .int 0, []),
    (38, .getfield 22, 41, 2, 3, .int 0, [105]),
    (41, .iload_n 1, 42, 1, 0, .int 0, []),
    (42, .iconst 1, 43, 0, 0, .int 1, []),
    (43, .iadd, 44, 0, 0, .int 0, []),
    (44, .laload, 45, 0, 0, .int 0, []),
    (45, .goto 4, 48, 49, 0, .int 0, []),
    (48, .lconst 0, 49, 0, 0, .long 0, []),
    (49, .lstore 5, 51, 5, 0, .int 0, [])]),
  (100000, [(51, .aload_n 0, 52, 0, 0, .int 0, []),
    (52, .getfield 25, 55, 2, 4, .int 0, [106]),
    (55, .iload_n 1, 56, 1, 0, .int 0, []),
    (56, .lload_n 3, 57, 3, 0, .int 0, []),
    (57, .aload_n 0, 58, 0, 0, .int 0, []),
    (58, .getfield 22, 61, 2, 3, .int 0, [105]),
    (61, .iload_n 1, 62, 1, 0, .int 0, []),
    (62, .laload, 63, 0, 0, .int 0, []),
    (63, .lor, 64, 0, 0, .int 0, []),
    (64, .lload 5, 66, 5, 0, .int 0, []),
    (66, .lor, 67, 0, 0, .int 0, []),
    (67, .lastore, 68, 0, 0, .int 0, []),
    (68, .iinc 1 1, 71, 1, 0, .int 1, []),
    (71, .goto (-69), 74, 2, 0, .int 0, []),
    (74, .return_, 75, 0, 0, .int 0, [])])]
def m_Spr_widenAcross : xM := (xlk t_Spr_widenAcross, [], 7, ⟨"PrePressRoom$Spreader", "widenAcross", "()V"⟩, prog_7_method_7_code, none, 0, 0)
def t_Spr_widenDown : List (Nat × List (Nat × xI)) := [(28, [(0, .iconst 0, 1, 0, 0, .int 0, []),
    (1, .istore_n 1, 2, 1, 0, .int 0, []),
    (2, .iload_n 1, 3, 1, 0, .int 0, []),
    (3, .sipush 3072, 6, 0, 0, .int 3072, []),
    (6, .if_icmp .ge 68, 9, 74, 0, .int 0, []),
    (9, .iload_n 1, 10, 1, 0, .int 0, []),
    (10, .bipush 48, 12, 0, 0, .int 48, []),
    (12, .if_icmp .lt 15, 15, 27, 0, .int 0, []),
    (15, .aload_n 0, 16, 0, 0, .int 0, []),
    (16, .getfield 25, 19, 2, 4, .int 0, [106]),
    (19, .iload_n 1, 20, 1, 0, .int 0, []),
    (20, .bipush 48, 22, 0, 0, .int 48, []),
    (22, .isub, 23, 0, 0, .int 0, []),
    (23, .laload, 24, 0, 0, .int 0, []),
    (24, .goto 4, 27, 28, 0, .int 0, []),
    (27, .lconst 0, 28, 0, 0, .long 0, [])]),
  (56, [(28, .lstore_n 2, 29, 2, 0, .int 0, []),
    (29, .iload_n 1, 30, 1, 0, .int 0, []),
    (30, .sipush 3024, 33, 0, 0, .int 3024, []),
    (33, .if_icmp .ge 15, 36, 48, 0, .int 0, []),
    (36, .aload_n 0, 37, 0, 0, .int 0, []),
    (37, .getfield 25, 40, 2, 4, .int 0, [106]),
    (40, .iload_n 1, 41, 1, 0, .int 0, []),
    (41, .bipush 48, 43, 0, 0, .int 48, []),
    (43, .iadd, 44, 0, 0, .int 0, []),
    (44, .laload, 45, 0, 0, .int 0, []),
    (45, .goto 4, 48, 49, 0, .int 0, []),
    (48, .lconst 0, 49, 0, 0, .long 0, []),
    (49, .lstore 4, 51, 4, 0, .int 0, []),
    (51, .aload_n 0, 52, 0, 0, .int 0, []),
    (52, .getfield 22, 55, 2, 3, .int 0, [105]),
    (55, .iload_n 1, 56, 1, 0, .int 0, [])]),
  (100000, [(56, .lload_n 2, 57, 2, 0, .int 0, []),
    (57, .aload_n 0, 58, 0, 0, .int 0, []),
    (58, .getfield 25, 61, 2, 4, .int 0, [106]),
    (61, .iload_n 1, 62, 1, 0, .int 0, []),
    (62, .laload, 63, 0, 0, .int 0, []),
    (63, .lor, 64, 0, 0, .int 0, []),
    (64, .lload 4, 66, 4, 0, .int 0, []),
    (66, .lor, 67, 0, 0, .int 0, []),
    (67, .lastore, 68, 0, 0, .int 0, []),
    (68, .iinc 1 1, 71, 1, 0, .int 1, []),
    (71, .goto (-69), 74, 2, 0, .int 0, []),
    (74, .return_, 75, 0, 0, .int 0, [])])]
def m_Spr_widenDown : xM := (xlk t_Spr_widenDown, [], 6, ⟨"PrePressRoom$Spreader", "widenDown", "()V"⟩, prog_7_method_8_code, none, 0, 0)
def t_Spr_markReached : List (Nat × List (Nat × xI)) := [(26, [(0, .iconst 0, 1, 0, 0, .int 0, []),
    (1, .istore_n 2, 2, 2, 0, .int 0, []),
    (2, .iconst 0, 3, 0, 0, .int 0, []),
    (3, .istore_n 3, 4, 3, 0, .int 0, []),
    (4, .iload_n 3, 5, 3, 0, .int 0, []),
    (5, .sipush 3072, 8, 0, 0, .int 3072, []),
    (8, .if_icmp .ge 57, 11, 65, 0, .int 0, []),
    (11, .aload_n 0, 12, 0, 0, .int 0, []),
    (12, .getfield 22, 15, 2, 3, .int 0, [105]),
    (15, .iload_n 3, 16, 3, 0, .int 0, []),
    (16, .laload, 17, 0, 0, .int 0, []),
    (17, .aload_n 0, 18, 0, 0, .int 0, []),
    (18, .getfield 18, 21, 2, 2, .int 0, [104]),
    (21, .aload_n 1, 22, 1, 0, .int 0, []),
    (22, .iload_n 3, 23, 3, 0, .int 0, []),
    (23, .invokevirtual 36, 26, 62, 2, .retAddr 1, [548, 549, 550])]),
  (53, [(26, .laload, 27, 0, 0, .int 0, []),
    (27, .land, 28, 0, 0, .int 0, []),
    (28, .lstore 4, 30, 4, 0, .int 0, []),
    (30, .lload 4, 32, 4, 0, .int 0, []),
    (32, .lconst 0, 33, 0, 0, .long 0, []),
    (33, .lcmp, 34, 0, 0, .int 0, []),
    (34, .ifCond .eq 25, 37, 59, 0, .int 0, []),
    (37, .aload_n 1, 38, 1, 0, .int 0, []),
    (38, .iload_n 3, 39, 3, 0, .int 0, []),
    (39, .invokevirtual 68, 42, 66, 2, .retAddr 1, [564, 565, 566]),
    (42, .iconst (-1), 43, 0, 0, .int (-1), []),
    (43, .if_icmp .ne 16, 46, 59, 0, .int 0, []),
    (46, .aload_n 1, 47, 1, 0, .int 0, []),
    (47, .iload_n 3, 48, 3, 0, .int 0, []),
    (48, .lload 4, 50, 4, 0, .int 0, []),
    (50, .invokestatic 71, 53, 67, 1, .int 0, [568, 569])]),
  (100000, [(53, .invokevirtual 77, 56, 69, 3, .retAddr 1, [575, 576, 577]),
    (56, .iinc 2 1, 59, 2, 0, .int 1, []),
    (59, .iinc 3 1, 62, 3, 0, .int 1, []),
    (62, .goto (-58), 65, 4, 0, .int 0, []),
    (65, .iload_n 2, 66, 2, 0, .int 0, []),
    (66, .ireturn, 67, 0, 0, .int 0, [])])]
def m_Spr_markReached : xM := (xlk t_Spr_markReached, [], 6, ⟨"PrePressRoom$Spreader", "markReached", "(LPrePressRoom$Job;)I"⟩, prog_7_method_9_code, (some .int), 2, 43)
def t_Job_lighterAt : List (Nat × List (Nat × xI)) := [(100000, [(0, .aload_n 0, 1, 0, 0, .int 0, []),
    (1, .getfield 15, 4, 1, 1, .int 0, [80]),
    (4, .iload_n 1, 5, 1, 0, .int 0, []),
    (5, .iaload, 6, 0, 0, .int 0, []),
    (6, .ireturn, 7, 0, 0, .int 0, [])])]
def m_Job_lighterAt : xM := (xlk t_Job_lighterAt, [], 2, ⟨"PrePressRoom$Job", "lighterAt", "(I)I"⟩, prog_2_method_10_code, (some .int), 0, 0)
def t_Long_numberOfTrailingZeros : List (Nat × List (Nat × xI)) := [(100000, [(0, .lload_n 0, 1, 0, 0, .int 0, []),
    (1, .l2i, 2, 0, 0, .int 0, []),
    (2, .istore_n 2, 3, 2, 0, .int 0, []),
    (3, .iload_n 2, 4, 2, 0, .int 0, []),
    (4, .ifCond .ne 17, 7, 21, 0, .int 0, []),
    (7, .bipush 32, 9, 0, 0, .int 32, []),
    (9, .lload_n 0, 10, 0, 0, .int 0, []),
    (10, .bipush 32, 12, 0, 0, .int 32, []),
    (12, .lushr, 13, 0, 0, .int 0, []),
    (13, .l2i, 14, 0, 0, .int 0, []),
    (14, .invokestatic 311, 17, 68, 1, .int 0, [571, 572]),
    (17, .iadd, 18, 0, 0, .int 0, []),
    (18, .goto 7, 21, 25, 0, .int 0, []),
    (21, .iload_n 2, 22, 2, 0, .int 0, []),
    (22, .invokestatic 311, 25, 68, 1, .int 0, [571, 572]),
    (25, .ireturn, 26, 0, 0, .int 0, [])])]
def m_Long_numberOfTrailingZeros : xM := (xlk t_Long_numberOfTrailingZeros, [], 3, ⟨"java/lang/Long", "numberOfTrailingZeros", "(J)I"⟩, prog_15_method_49_code, (some .int), 1, 21)
def t_Integer_numberOfTrailingZeros : List (Nat × List (Nat × xI)) := [(19, [(0, .iload_n 0, 1, 0, 0, .int 0, []),
    (1, .iconst (-1), 2, 0, 0, .int (-1), []),
    (2, .ixor, 3, 0, 0, .int 0, []),
    (3, .iload_n 0, 4, 0, 0, .int 0, []),
    (4, .iconst 1, 5, 0, 0, .int 1, []),
    (5, .isub, 6, 0, 0, .int 0, []),
    (6, .iand, 7, 0, 0, .int 0, []),
    (7, .istore_n 0, 8, 0, 0, .int 0, []),
    (8, .iload_n 0, 9, 0, 0, .int 0, []),
    (9, .ifCond .gt 8, 12, 17, 0, .int 0, []),
    (12, .iload_n 0, 13, 0, 0, .int 0, []),
    (13, .bipush 32, 15, 0, 0, .int 32, []),
    (15, .iand, 16, 0, 0, .int 0, []),
    (16, .ireturn, 17, 0, 0, .int 0, []),
    (17, .iconst 1, 18, 0, 0, .int 1, []),
    (18, .istore_n 1, 19, 1, 0, .int 0, [])]),
  (49, [(19, .iload_n 0, 20, 0, 0, .int 0, []),
    (20, .ldc_w 264, 23, 0, 0, .int 65536, [574]),
    (23, .if_icmp .le 11, 26, 34, 0, .int 0, []),
    (26, .iinc 1 16, 29, 1, 0, .int 16, []),
    (29, .iload_n 0, 30, 0, 0, .int 0, []),
    (30, .bipush 16, 32, 0, 0, .int 16, []),
    (32, .iushr, 33, 0, 0, .int 0, []),
    (33, .istore_n 0, 34, 0, 0, .int 0, []),
    (34, .iload_n 0, 35, 0, 0, .int 0, []),
    (35, .sipush 256, 38, 0, 0, .int 256, []),
    (38, .if_icmp .le 11, 41, 49, 0, .int 0, []),
    (41, .iinc 1 8, 44, 1, 0, .int 8, []),
    (44, .iload_n 0, 45, 0, 0, .int 0, []),
    (45, .bipush 8, 47, 0, 0, .int 8, []),
    (47, .iushr, 48, 0, 0, .int 0, []),
    (48, .istore_n 0, 49, 0, 0, .int 0, [])]),
  (74, [(49, .iload_n 0, 50, 0, 0, .int 0, []),
    (50, .bipush 16, 52, 0, 0, .int 16, []),
    (52, .if_icmp .le 10, 55, 62, 0, .int 0, []),
    (55, .iinc 1 4, 58, 1, 0, .int 4, []),
    (58, .iload_n 0, 59, 0, 0, .int 0, []),
    (59, .iconst 4, 60, 0, 0, .int 4, []),
    (60, .iushr, 61, 0, 0, .int 0, []),
    (61, .istore_n 0, 62, 0, 0, .int 0, []),
    (62, .iload_n 0, 63, 0, 0, .int 0, []),
    (63, .iconst 4, 64, 0, 0, .int 4, []),
    (64, .if_icmp .le 10, 67, 74, 0, .int 0, []),
    (67, .iinc 1 2, 70, 1, 0, .int 2, []),
    (70, .iload_n 0, 71, 0, 0, .int 0, []),
    (71, .iconst 2, 72, 0, 0, .int 2, []),
    (72, .iushr, 73, 0, 0, .int 0, []),
    (73, .istore_n 0, 74, 0, 0, .int 0, [])]),
  (100000, [(74, .iload_n 1, 75, 1, 0, .int 0, []),
    (75, .iload_n 0, 76, 0, 0, .int 0, []),
    (76, .iconst 1, 77, 0, 0, .int 1, []),
    (77, .iushr, 78, 0, 0, .int 0, []),
    (78, .iadd, 79, 0, 0, .int 0, []),
    (79, .ireturn, 80, 0, 0, .int 0, [])])]
def m_Integer_numberOfTrailingZeros : xM := (xlk t_Integer_numberOfTrailingZeros, [], 2, ⟨"java/lang/Integer", "numberOfTrailingZeros", "(I)I"⟩, prog_14_method_48_code, (some .int), 0, 0)
def t_Job_setLighter : List (Nat × List (Nat × xI)) := [(100000, [(0, .aload_n 0, 1, 0, 0, .int 0, []),
    (1, .getfield 15, 4, 1, 1, .int 0, [80]),
    (4, .iload_n 1, 5, 1, 0, .int 0, []),
    (5, .iload_n 2, 6, 2, 0, .int 0, []),
    (6, .iastore, 7, 0, 0, .int 0, []),
    (7, .return_, 8, 0, 0, .int 0, [])])]
def m_Job_setLighter : xM := (xlk t_Job_setLighter, [], 3, ⟨"PrePressRoom$Job", "setLighter", "(II)V"⟩, prog_2_method_11_code, none, 0, 0)
def t_Job_setSpread : List (Nat × List (Nat × xI)) := [(100000, [(0, .aload_n 0, 1, 0, 0, .int 0, []),
    (1, .iconst 1, 2, 0, 0, .int 1, []),
    (2, .putfield 25, 5, 1, 4, .retAddr 1, [83]),
    (5, .return_, 6, 0, 0, .int 0, [])])]
def m_Job_setSpread : xM := (xlk t_Job_setSpread, [], 1, ⟨"PrePressRoom$Job", "setSpread", "()V"⟩, prog_2_method_4_code, none, 0, 0)
def t_Law_trapped : List (Nat × List (Nat × xI)) := [(23, [(0, .aload 4, 2, 4, 0, .int 0, []),
    (2, .iconst 0, 3, 0, 0, .int 0, []),
    (3, .aload_n 0, 4, 0, 0, .int 0, []),
    (4, .iload_n 1, 5, 1, 0, .int 0, []),
    (5, .iload_n 2, 6, 2, 0, .int 0, []),
    (6, .iload_n 3, 7, 3, 0, .int 0, []),
    (7, .invokevirtual 42, 10, 72, 4, .retAddr 0, [586, 587, 588]),
    (10, .i2l, 11, 0, 0, .int 0, []),
    (11, .lastore, 12, 0, 0, .int 0, []),
    (12, .goto 11, 15, 23, 0, .int 0, []),
    (15, .astore 5, 17, 5, 0, .int 0, []),
    (17, .iconst 1, 18, 0, 0, .int 1, []),
    (18, .ireturn, 19, 0, 0, .int 0, []),
    (19, .astore 5, 21, 5, 0, .int 0, []),
    (21, .iconst 2, 22, 0, 0, .int 2, []),
    (22, .ireturn, 23, 0, 0, .int 0, [])]),
  (100000, [(23, .iconst 0, 24, 0, 0, .int 0, []),
    (24, .ireturn, 25, 0, 0, .int 0, [])])]
def m_Law_trapped : xM := (xlk t_Law_trapped, [(0, 12, 15, 13, 8), (0, 12, 19, 17, 10)], 6, ⟨"PrePressRoomLaw", "trapped", "(LPrePressRoom;III[J)I"⟩, method_10_code, (some .int), 10, 179)
def t_Room_trapped : List (Nat × List (Nat × xI)) := [(100000, [(0, .aload_n 0, 1, 0, 0, .int 0, []),
    (1, .iload_n 1, 2, 1, 0, .int 0, []),
    (2, .iload_n 2, 3, 2, 0, .int 0, []),
    (3, .iload_n 3, 4, 3, 0, .int 0, []),
    (4, .invokevirtual 91, 7, 49, 4, .retAddr 0, [493, 495, 11]),
    (7, .iload_n 2, 8, 2, 0, .int 0, []),
    (8, .iload_n 3, 9, 3, 0, .int 0, []),
    (9, .invokestatic 83, 12, 35, 2, .int 0, [439, 440]),
    (12, .invokevirtual 111, 15, 73, 2, .retAddr 1, [590, 591, 592]),
    (15, .ireturn, 16, 0, 0, .int 0, [])])]
def m_Room_trapped : xM := (xlk t_Room_trapped, [], 4, ⟨"PrePressRoom", "trapped", "(III)I"⟩, prog_1_method_9_code, (some .int), 9, 156)
def t_Job_markAt : List (Nat × List (Nat × xI)) := [(25, [(0, .aload_n 0, 1, 0, 0, .int 0, []),
    (1, .getfield 15, 4, 1, 1, .int 0, [80]),
    (4, .iload_n 1, 5, 1, 0, .int 0, []),
    (5, .iaload, 6, 0, 0, .int 0, []),
    (6, .iconst (-1), 7, 0, 0, .int (-1), []),
    (7, .if_icmp .ne 7, 10, 14, 0, .int 0, []),
    (10, .iconst 0, 11, 0, 0, .int 0, []),
    (11, .goto 21, 14, 32, 0, .int 0, []),
    (14, .iconst 1, 15, 0, 0, .int 1, []),
    (15, .bipush 64, 17, 0, 0, .int 64, []),
    (17, .aload_n 0, 18, 0, 0, .int 0, []),
    (18, .getfield 15, 21, 1, 1, .int 0, [80]),
    (21, .iload_n 1, 22, 1, 0, .int 0, []),
    (22, .iaload, 23, 0, 0, .int 0, []),
    (23, .imul, 24, 0, 0, .int 0, []),
    (24, .iadd, 25, 0, 0, .int 0, [])]),
  (100000, [(25, .aload_n 0, 26, 0, 0, .int 0, []),
    (26, .getfield 9, 29, 1, 0, .int 0, [79]),
    (29, .iload_n 1, 30, 1, 0, .int 0, []),
    (30, .iaload, 31, 0, 0, .int 0, []),
    (31, .iadd, 32, 0, 0, .int 0, []),
    (32, .ireturn, 33, 0, 0, .int 0, [])])]
def m_Job_markAt : xM := (xlk t_Job_markAt, [], 2, ⟨"PrePressRoom$Job", "markAt", "(I)I"⟩, prog_2_method_13_code, (some .int), 0, 0)
def t_Law_screen : List (Nat × List (Nat × xI)) := [(24, [(0, .aload 5, 2, 5, 0, .int 0, []),
    (2, .iconst 0, 3, 0, 0, .int 0, []),
    (3, .aload_n 0, 4, 0, 0, .int 0, []),
    (4, .iload_n 1, 5, 1, 0, .int 0, []),
    (5, .iload_n 2, 6, 2, 0, .int 0, []),
    (6, .iload_n 3, 7, 3, 0, .int 0, []),
    (7, .iload 4, 9, 4, 0, .int 0, []),
    (9, .invokevirtual 45, 12, 75, 5, .retAddr 0, [597, 598, 599]),
    (12, .i2l, 13, 0, 0, .int 0, []),
    (13, .lastore, 14, 0, 0, .int 0, []),
    (14, .goto 11, 17, 25, 0, .int 0, []),
    (17, .astore 6, 19, 6, 0, .int 0, []),
    (19, .iconst 1, 20, 0, 0, .int 1, []),
    (20, .ireturn, 21, 0, 0, .int 0, []),
    (21, .astore 6, 23, 6, 0, .int 0, []),
    (23, .iconst 2, 24, 0, 0, .int 2, [])]),
  (100000, [(24, .ireturn, 25, 0, 0, .int 0, []),
    (25, .iconst 0, 26, 0, 0, .int 0, []),
    (26, .ireturn, 27, 0, 0, .int 0, [])])]
def m_Law_screen : xM := (xlk t_Law_screen, [(0, 14, 17, 13, 8), (0, 14, 21, 15, 9)], 7, ⟨"PrePressRoomLaw", "screen", "(LPrePressRoom;IIII[J)I"⟩, method_11_code, (some .int), 8, 161)
def t_Room_screen : List (Nat × List (Nat × xI)) := [(27, [(0, .iload_n 1, 1, 1, 0, .int 0, []),
    (1, .bipush 8, 3, 0, 0, .int 8, []),
    (3, .invokestatic 58, 6, 26, 2, .int 0, [309, 310]),
    (6, .iload_n 2, 7, 2, 0, .int 0, []),
    (7, .bipush (-20), 9, 0, 0, .int (-20), []),
    (9, .bipush 20, 11, 0, 0, .int 20, []),
    (11, .invokestatic 62, 14, 27, 3, .int 0, [380, 381]),
    (14, .iload_n 3, 15, 3, 0, .int 0, []),
    (15, .bipush (-20), 17, 0, 0, .int (-20), []),
    (17, .bipush 20, 19, 0, 0, .int 20, []),
    (19, .invokestatic 62, 22, 27, 3, .int 0, [380, 381]),
    (22, .iload_n 2, 23, 2, 0, .int 0, []),
    (23, .iload_n 2, 24, 2, 0, .int 0, []),
    (24, .imul, 25, 0, 0, .int 0, []),
    (25, .iload_n 3, 26, 3, 0, .int 0, []),
    (26, .iload_n 3, 27, 3, 0, .int 0, [])]),
  (53, [(27, .imul, 28, 0, 0, .int 0, []),
    (28, .iadd, 29, 0, 0, .int 0, []),
    (29, .iconst 1, 30, 0, 0, .int 1, []),
    (30, .sipush 400, 33, 0, 0, .int 400, []),
    (33, .invokestatic 62, 36, 27, 3, .int 0, [380, 381]),
    (36, .iload 4, 38, 4, 0, .int 0, []),
    (38, .iconst 0, 39, 0, 0, .int 0, []),
    (39, .iconst 2, 40, 0, 0, .int 2, []),
    (40, .invokestatic 62, 43, 27, 3, .int 0, [380, 381]),
    (43, .aload_n 0, 44, 0, 0, .int 0, []),
    (44, .getfield 34, 47, 0, 4, .int 0, [278]),
    (47, .iload_n 1, 48, 1, 0, .int 0, []),
    (48, .aaload, 49, 0, 0, .int 0, []),
    (49, .iload_n 2, 50, 2, 0, .int 0, []),
    (50, .iload_n 3, 51, 3, 0, .int 0, []),
    (51, .iload 4, 53, 4, 0, .int 0, [])]),
  (100000, [(53, .invokevirtual 115, 56, 12, 4, .retAddr 4, [601, 171, 172]),
    (56, .aload_n 0, 57, 0, 0, .int 0, []),
    (57, .getfield 34, 60, 0, 4, .int 0, [278]),
    (60, .iload_n 1, 61, 1, 0, .int 0, []),
    (61, .aaload, 62, 0, 0, .int 0, []),
    (62, .invokevirtual 118, 65, 76, 1, .retAddr 4, [602, 603, 604]),
    (65, .ireturn, 66, 0, 0, .int 0, [])])]
def m_Room_screen : xM := (xlk t_Room_screen, [], 5, ⟨"PrePressRoom", "screen", "(IIII)I"⟩, prog_1_method_10_code, (some .int), 7, 137)
end
section
def t_Scr_classCount : List (Nat × List (Nat × xI)) := [(100000, [(0, .aload_n 0, 1, 0, 0, .int 0, []),
    (1, .getfield 26, 4, 4, 3, .int 0, [213]),
    (4, .ireturn, 5, 0, 0, .int 0, [])])]
def m_Scr_classCount : xM := (xlk t_Scr_classCount, [], 1, ⟨"PrePressRoom$Screen", "classCount", "()I"⟩, prog_5_method_8_code, (some .int), 0, 0)
def t_Law_rank : List (Nat × List (Nat × xI)) := [(23, [(0, .aload 4, 2, 4, 0, .int 0, []),
    (2, .iconst 0, 3, 0, 0, .int 0, []),
    (3, .aload_n 0, 4, 0, 0, .int 0, []),
    (4, .iload_n 1, 5, 1, 0, .int 0, []),
    (5, .iload_n 2, 6, 2, 0, .int 0, []),
    (6, .iload_n 3, 7, 3, 0, .int 0, []),
    (7, .invokevirtual 48, 10, 78, 4, .retAddr 0, [609, 610, 611]),
    (10, .i2l, 11, 0, 0, .int 0, []),
    (11, .lastore, 12, 0, 0, .int 0, []),
    (12, .goto 11, 15, 23, 0, .int 0, []),
    (15, .astore 5, 17, 5, 0, .int 0, []),
    (17, .iconst 1, 18, 0, 0, .int 1, []),
    (18, .ireturn, 19, 0, 0, .int 0, []),
    (19, .astore 5, 21, 5, 0, .int 0, []),
    (21, .iconst 2, 22, 0, 0, .int 2, []),
    (22, .ireturn, 23, 0, 0, .int 0, [])]),
  (100000, [(23, .iconst 0, 24, 0, 0, .int 0, []),
    (24, .ireturn, 25, 0, 0, .int 0, [])])]
def m_Law_rank : xM := (xlk t_Law_rank, [(0, 12, 15, 13, 8), (0, 12, 19, 15, 9)], 6, ⟨"PrePressRoomLaw", "rank", "(LPrePressRoom;III[J)I"⟩, method_12_code, (some .int), 8, 135)
def t_Room_rank : List (Nat × List (Nat × xI)) := [(33, [(0, .iload_n 1, 1, 1, 0, .int 0, []),
    (1, .bipush 8, 3, 0, 0, .int 8, []),
    (3, .invokestatic 58, 6, 26, 2, .int 0, [309, 310]),
    (6, .iload_n 2, 7, 2, 0, .int 0, []),
    (7, .sipush (-1000), 10, 0, 0, .int (-1000), []),
    (10, .sipush 1000, 13, 0, 0, .int 1000, []),
    (13, .invokestatic 62, 16, 27, 3, .int 0, [380, 381]),
    (16, .iload_n 3, 17, 3, 0, .int 0, []),
    (17, .sipush (-1000), 20, 0, 0, .int (-1000), []),
    (20, .sipush 1000, 23, 0, 0, .int 1000, []),
    (23, .invokestatic 62, 26, 27, 3, .int 0, [380, 381]),
    (26, .aload_n 0, 27, 0, 0, .int 0, []),
    (27, .getfield 34, 30, 0, 4, .int 0, [278]),
    (30, .iload_n 1, 31, 1, 0, .int 0, []),
    (31, .aaload, 32, 0, 0, .int 0, []),
    (32, .iload_n 2, 33, 2, 0, .int 0, [])]),
  (100000, [(33, .iload_n 3, 34, 3, 0, .int 0, []),
    (34, .invokevirtual 122, 37, 79, 3, .retAddr 4, [613, 614, 615]),
    (37, .ireturn, 38, 0, 0, .int 0, [])])]
def m_Room_rank : xM := (xlk t_Room_rank, [], 4, ⟨"PrePressRoom", "rank", "(III)I"⟩, prog_1_method_11_code, (some .int), 7, 112)
def t_Scr_rankAt : List (Nat × List (Nat × xI)) := [(100000, [(0, .aload_n 0, 1, 0, 0, .int 0, []),
    (1, .getfield 15, 4, 4, 1, .int 0, [211]),
    (4, .aload_n 0, 5, 0, 0, .int 0, []),
    (5, .iload_n 1, 6, 1, 0, .int 0, []),
    (6, .iload_n 2, 7, 2, 0, .int 0, []),
    (7, .invokevirtual 72, 10, 19, 3, .retAddr 4, [200, 202, 5]),
    (10, .iaload, 11, 0, 0, .int 0, []),
    (11, .ireturn, 12, 0, 0, .int 0, [])])]
def m_Scr_rankAt : xM := (xlk t_Scr_rankAt, [], 3, ⟨"PrePressRoom$Screen", "rankAt", "(II)I"⟩, prog_5_method_9_code, (some .int), 2, 46)
def t_Law_dot : List (Nat × List (Nat × xI)) := [(27, [(0, .aload 5, 2, 5, 0, .int 0, []),
    (2, .iconst 0, 3, 0, 0, .int 0, []),
    (3, .aload_n 0, 4, 0, 0, .int 0, []),
    (4, .iload_n 1, 5, 1, 0, .int 0, []),
    (5, .iload_n 2, 6, 2, 0, .int 0, []),
    (6, .iload_n 3, 7, 3, 0, .int 0, []),
    (7, .iload 4, 9, 4, 0, .int 0, []),
    (9, .invokevirtual 51, 12, 81, 5, .retAddr 0, [620, 621, 622]),
    (12, .ifCond .eq 7, 15, 19, 0, .int 0, []),
    (15, .lconst 1, 16, 0, 0, .long 1, []),
    (16, .goto 4, 19, 20, 0, .int 0, []),
    (19, .lconst 0, 20, 0, 0, .long 0, []),
    (20, .lastore, 21, 0, 0, .int 0, []),
    (21, .goto 11, 24, 32, 0, .int 0, []),
    (24, .astore 6, 26, 6, 0, .int 0, []),
    (26, .iconst 1, 27, 0, 0, .int 1, [])]),
  (100000, [(27, .ireturn, 28, 0, 0, .int 0, []),
    (28, .astore 6, 30, 6, 0, .int 0, []),
    (30, .iconst 2, 31, 0, 0, .int 2, []),
    (31, .ireturn, 32, 0, 0, .int 0, []),
    (32, .iconst 0, 33, 0, 0, .int 0, []),
    (33, .ireturn, 34, 0, 0, .int 0, [])])]
def m_Law_dot : xM := (xlk t_Law_dot, [(0, 21, 24, 13, 8), (0, 21, 28, 17, 10)], 7, ⟨"PrePressRoomLaw", "dot", "(LPrePressRoom;IIII[J)I"⟩, method_13_code, (some .int), 10, 180)
def t_Room_dot : List (Nat × List (Nat × xI)) := [(100000, [(0, .iload_n 2, 1, 2, 0, .int 0, []),
    (1, .bipush 8, 3, 0, 0, .int 8, []),
    (3, .invokestatic 58, 6, 26, 2, .int 0, [309, 310]),
    (6, .aload_n 0, 7, 0, 0, .int 0, []),
    (7, .aload_n 0, 8, 0, 0, .int 0, []),
    (8, .iload_n 1, 9, 1, 0, .int 0, []),
    (9, .iload_n 3, 10, 3, 0, .int 0, []),
    (10, .iload 4, 12, 4, 0, .int 0, []),
    (12, .invokevirtual 91, 15, 49, 4, .retAddr 0, [493, 495, 11]),
    (15, .iload_n 2, 16, 2, 0, .int 0, []),
    (16, .iload_n 3, 17, 3, 0, .int 0, []),
    (17, .iload 4, 19, 4, 0, .int 0, []),
    (19, .invokevirtual 125, 22, 82, 5, .retAddr 0, [624, 626, 19]),
    (22, .ireturn, 23, 0, 0, .int 0, [])])]
def m_Room_dot : xM := (xlk t_Room_dot, [], 5, ⟨"PrePressRoom", "dot", "(IIII)Z"⟩, prog_1_method_12_code, (some .boolean), 9, 156)
def t_Room_isPrinted : List (Nat × List (Nat × xI)) := [(29, [(0, .aload_n 0, 1, 0, 0, .int 0, []),
    (1, .getfield 34, 4, 0, 4, .int 0, [278]),
    (4, .iload_n 2, 5, 2, 0, .int 0, []),
    (5, .aaload, 6, 0, 0, .int 0, []),
    (6, .astore 5, 8, 5, 0, .int 0, []),
    (8, .aload 5, 10, 5, 0, .int 0, []),
    (10, .aload 5, 12, 5, 0, .int 0, []),
    (12, .iload_n 3, 13, 3, 0, .int 0, []),
    (13, .iload 4, 15, 4, 0, .int 0, []),
    (15, .invokevirtual 122, 18, 79, 3, .retAddr 4, [613, 614, 615]),
    (18, .aload_n 1, 19, 1, 0, .int 0, []),
    (19, .iload_n 3, 20, 3, 0, .int 0, []),
    (20, .iload 4, 22, 4, 0, .int 0, []),
    (22, .invokestatic 83, 25, 35, 2, .int 0, [439, 440]),
    (25, .iload_n 2, 26, 2, 0, .int 0, []),
    (26, .invokevirtual 95, 29, 51, 3, .retAddr 1, [502, 503, 504])]),
  (100000, [(29, .invokevirtual 138, 32, 83, 3, .retAddr 4, [628, 629, 630]),
    (32, .ireturn, 33, 0, 0, .int 0, [])])]
def m_Room_isPrinted : xM := (xlk t_Room_isPrinted, [], 6, ⟨"PrePressRoom", "isPrinted", "(LPrePressRoom$Job;III)Z"⟩, prog_1_method_27_code, (some .boolean), 3, 68)
def t_Scr_prints : List (Nat × List (Nat × xI)) := [(100000, [(0, .iload_n 1, 1, 1, 0, .int 0, []),
    (1, .iload_n 2, 2, 2, 0, .int 0, []),
    (2, .aload_n 0, 3, 0, 0, .int 0, []),
    (3, .getfield 26, 6, 4, 3, .int 0, [213]),
    (6, .imul, 7, 0, 0, .int 0, []),
    (7, .bipush 127, 9, 0, 0, .int 127, []),
    (9, .iadd, 10, 0, 0, .int 0, []),
    (10, .sipush 255, 13, 0, 0, .int 255, []),
    (13, .idiv, 14, 0, 0, .int 0, []),
    (14, .if_icmp .ge 7, 17, 21, 0, .int 0, []),
    (17, .iconst 1, 18, 0, 0, .int 1, []),
    (18, .goto 4, 21, 22, 0, .int 0, []),
    (21, .iconst 0, 22, 0, 0, .int 0, []),
    (22, .ireturn, 23, 0, 0, .int 0, [])])]
def m_Scr_prints : xM := (xlk t_Scr_prints, [], 3, ⟨"PrePressRoom$Screen", "prints", "(II)Z"⟩, prog_5_method_12_code, (some .boolean), 0, 0)
def t_Law_share : List (Nat × List (Nat × xI)) := [(24, [(0, .aload 5, 2, 5, 0, .int 0, []),
    (2, .iconst 0, 3, 0, 0, .int 0, []),
    (3, .aload_n 0, 4, 0, 0, .int 0, []),
    (4, .iload_n 1, 5, 1, 0, .int 0, []),
    (5, .iload_n 2, 6, 2, 0, .int 0, []),
    (6, .iload_n 3, 7, 3, 0, .int 0, []),
    (7, .iload 4, 9, 4, 0, .int 0, []),
    (9, .invokevirtual 55, 12, 85, 5, .retAddr 0, [635, 636, 637]),
    (12, .i2l, 13, 0, 0, .int 0, []),
    (13, .lastore, 14, 0, 0, .int 0, []),
    (14, .goto 11, 17, 25, 0, .int 0, []),
    (17, .astore 6, 19, 6, 0, .int 0, []),
    (19, .iconst 1, 20, 0, 0, .int 1, []),
    (20, .ireturn, 21, 0, 0, .int 0, []),
    (21, .astore 6, 23, 6, 0, .int 0, []),
    (23, .iconst 2, 24, 0, 0, .int 2, [])]),
  (100000, [(24, .ireturn, 25, 0, 0, .int 0, []),
    (25, .iconst 0, 26, 0, 0, .int 0, []),
    (26, .ireturn, 27, 0, 0, .int 0, [])])]
def m_Law_share : xM := (xlk t_Law_share, [(0, 14, 17, 13, 8), (0, 14, 21, 17, 10)], 7, ⟨"PrePressRoomLaw", "share", "(LPrePressRoom;IIII[J)I"⟩, method_14_code, (some .int), 10, 189)
def t_Room_share : List (Nat × List (Nat × xI)) := [(27, [(0, .iload_n 2, 1, 2, 0, .int 0, []),
    (1, .bipush 8, 3, 0, 0, .int 8, []),
    (3, .invokestatic 58, 6, 26, 2, .int 0, [309, 310]),
    (6, .aload_n 0, 7, 0, 0, .int 0, []),
    (7, .iload_n 1, 8, 1, 0, .int 0, []),
    (8, .iload_n 3, 9, 3, 0, .int 0, []),
    (9, .iload 4, 11, 4, 0, .int 0, []),
    (11, .invokevirtual 91, 14, 49, 4, .retAddr 0, [493, 495, 11]),
    (14, .astore 5, 16, 5, 0, .int 0, []),
    (16, .aload_n 0, 17, 0, 0, .int 0, []),
    (17, .getfield 34, 20, 0, 4, .int 0, [278]),
    (20, .iload_n 2, 21, 2, 0, .int 0, []),
    (21, .aaload, 22, 0, 0, .int 0, []),
    (22, .astore 6, 24, 6, 0, .int 0, []),
    (24, .aload 6, 26, 6, 0, .int 0, []),
    (26, .iload_n 3, 27, 3, 0, .int 0, [])]),
  (58, [(27, .iload 4, 29, 4, 0, .int 0, []),
    (29, .invokevirtual 122, 32, 79, 3, .retAddr 4, [613, 614, 615]),
    (32, .istore 7, 34, 7, 0, .int 0, []),
    (34, .iload_n 3, 35, 3, 0, .int 0, []),
    (35, .aload 6, 37, 6, 0, .int 0, []),
    (37, .iload 7, 39, 7, 0, .int 0, []),
    (39, .invokevirtual 129, 42, 86, 2, .retAddr 4, [639, 640, 641]),
    (42, .isub, 43, 0, 0, .int 0, []),
    (43, .istore 8, 45, 8, 0, .int 0, []),
    (45, .iload 4, 47, 4, 0, .int 0, []),
    (47, .aload 6, 49, 6, 0, .int 0, []),
    (49, .iload 7, 51, 7, 0, .int 0, []),
    (51, .invokevirtual 132, 54, 87, 2, .retAddr 4, [643, 644, 645]),
    (54, .isub, 55, 0, 0, .int 0, []),
    (55, .istore 9, 57, 9, 0, .int 0, []),
    (57, .iconst 0, 58, 0, 0, .int 0, [])]),
  (92, [(58, .istore 10, 60, 10, 0, .int 0, []),
    (60, .iconst 0, 61, 0, 0, .int 0, []),
    (61, .istore 11, 63, 11, 0, .int 0, []),
    (63, .iload 11, 65, 11, 0, .int 0, []),
    (65, .aload 6, 67, 6, 0, .int 0, []),
    (67, .invokevirtual 118, 70, 76, 1, .retAddr 4, [602, 603, 604]),
    (70, .if_icmp .ge 71, 73, 141, 0, .int 0, []),
    (73, .aload 6, 75, 6, 0, .int 0, []),
    (75, .iload 11, 77, 11, 0, .int 0, []),
    (77, .invokevirtual 129, 80, 86, 2, .retAddr 4, [639, 640, 641]),
    (80, .iload 8, 82, 8, 0, .int 0, []),
    (82, .iadd, 83, 0, 0, .int 0, []),
    (83, .istore 12, 85, 12, 0, .int 0, []),
    (85, .aload 6, 87, 6, 0, .int 0, []),
    (87, .iload 11, 89, 11, 0, .int 0, []),
    (89, .invokevirtual 132, 92, 87, 2, .retAddr 4, [643, 644, 645])]),
  (123, [(92, .iload 9, 94, 9, 0, .int 0, []),
    (94, .iadd, 95, 0, 0, .int 0, []),
    (95, .istore 13, 97, 13, 0, .int 0, []),
    (97, .iload 12, 99, 12, 0, .int 0, []),
    (99, .iload 13, 101, 13, 0, .int 0, []),
    (101, .invokestatic 135, 104, 88, 2, .int 0, [647, 648]),
    (104, .ifCond .ne 5, 107, 109, 0, .int 0, []),
    (107, .iconst (-1), 108, 0, 0, .int (-1), []),
    (108, .ireturn, 109, 0, 0, .int 0, []),
    (109, .aload 6, 111, 6, 0, .int 0, []),
    (111, .iload 11, 113, 11, 0, .int 0, []),
    (113, .aload 5, 115, 5, 0, .int 0, []),
    (115, .iload 12, 117, 12, 0, .int 0, []),
    (117, .iload 13, 119, 13, 0, .int 0, []),
    (119, .invokestatic 83, 122, 35, 2, .int 0, [439, 440]),
    (122, .iload_n 2, 123, 2, 0, .int 0, [])]),
  (100000, [(123, .invokevirtual 95, 126, 51, 3, .retAddr 1, [502, 503, 504]),
    (126, .invokevirtual 138, 129, 83, 3, .retAddr 4, [628, 629, 630]),
    (129, .ifCond .eq 6, 132, 135, 0, .int 0, []),
    (132, .iinc 10 1, 135, 10, 0, .int 1, []),
    (135, .iinc 11 1, 138, 11, 0, .int 1, []),
    (138, .goto (-75), 141, 63, 0, .int 0, []),
    (141, .iload 10, 143, 10, 0, .int 0, []),
    (143, .ireturn, 144, 0, 0, .int 0, [])])]
def m_Room_share : xM := (xlk t_Room_share, [], 14, ⟨"PrePressRoom", "share", "(IIII)I"⟩, prog_1_method_13_code, (some .int), 9, 156)
def t_Scr_heartX : List (Nat × List (Nat × xI)) := [(100000, [(0, .aload_n 0, 1, 0, 0, .int 0, []),
    (1, .getfield 19, 4, 4, 2, .int 0, [212]),
    (4, .iload_n 1, 5, 1, 0, .int 0, []),
    (5, .iaload, 6, 0, 0, .int 0, []),
    (6, .invokestatic 66, 9, 5, 1, .int 0, [198, 131]),
    (9, .ireturn, 10, 0, 0, .int 0, [])])]
def m_Scr_heartX : xM := (xlk t_Scr_heartX, [], 2, ⟨"PrePressRoom$Screen", "heartX", "(I)I"⟩, prog_5_method_10_code, (some .int), 1, 20)
def t_Scr_heartY : List (Nat × List (Nat × xI)) := [(100000, [(0, .aload_n 0, 1, 0, 0, .int 0, []),
    (1, .getfield 19, 4, 4, 2, .int 0, [212]),
    (4, .iload_n 1, 5, 1, 0, .int 0, []),
    (5, .iaload, 6, 0, 0, .int 0, []),
    (6, .invokestatic 69, 9, 6, 1, .int 0, [199, 134]),
    (9, .ireturn, 10, 0, 0, .int 0, [])])]
def m_Scr_heartY : xM := (xlk t_Scr_heartY, [], 2, ⟨"PrePressRoom$Screen", "heartY", "(I)I"⟩, prog_5_method_11_code, (some .int), 1, 20)
def t_Room_isOnPage : List (Nat × List (Nat × xI)) := [(100000, [(0, .iload_n 0, 1, 0, 0, .int 0, []),
    (1, .ifCond .lt 23, 4, 24, 0, .int 0, []),
    (4, .iload_n 0, 5, 0, 0, .int 0, []),
    (5, .bipush 48, 7, 0, 0, .int 48, []),
    (7, .if_icmp .ge 17, 10, 24, 0, .int 0, []),
    (10, .iload_n 1, 11, 1, 0, .int 0, []),
    (11, .ifCond .lt 13, 14, 24, 0, .int 0, []),
    (14, .iload_n 1, 15, 1, 0, .int 0, []),
    (15, .bipush 64, 17, 0, 0, .int 64, []),
    (17, .if_icmp .ge 7, 20, 24, 0, .int 0, []),
    (20, .iconst 1, 21, 0, 0, .int 1, []),
    (21, .goto 4, 24, 25, 0, .int 0, []),
    (24, .iconst 0, 25, 0, 0, .int 0, []),
    (25, .ireturn, 26, 0, 0, .int 0, [])])]
def m_Room_isOnPage : xM := (xlk t_Room_isOnPage, [], 2, ⟨"PrePressRoom", "isOnPage", "(II)Z"⟩, prog_1_method_24_code, (some .boolean), 0, 0)
def t_Law_proof : List (Nat × List (Nat × xI)) := [(23, [(0, .aload 4, 2, 4, 0, .int 0, []),
    (2, .iconst 0, 3, 0, 0, .int 0, []),
    (3, .aload_n 0, 4, 0, 0, .int 0, []),
    (4, .iload_n 1, 5, 1, 0, .int 0, []),
    (5, .iload_n 2, 6, 2, 0, .int 0, []),
    (6, .iload_n 3, 7, 3, 0, .int 0, []),
    (7, .invokevirtual 58, 10, 90, 4, .retAddr 0, [653, 654, 655]),
    (10, .i2l, 11, 0, 0, .int 0, []),
    (11, .lastore, 12, 0, 0, .int 0, []),
    (12, .goto 11, 15, 23, 0, .int 0, []),
    (15, .astore 5, 17, 5, 0, .int 0, []),
    (17, .iconst 1, 18, 0, 0, .int 1, []),
    (18, .ireturn, 19, 0, 0, .int 0, []),
    (19, .astore 5, 21, 5, 0, .int 0, []),
    (21, .iconst 2, 22, 0, 0, .int 2, []),
    (22, .ireturn, 23, 0, 0, .int 0, [])]),
  (100000, [(23, .iconst 0, 24, 0, 0, .int 0, []),
    (24, .ireturn, 25, 0, 0, .int 0, [])])]
def m_Law_proof : xM := (xlk t_Law_proof, [(0, 12, 15, 13, 8), (0, 12, 19, 17, 10)], 6, ⟨"PrePressRoomLaw", "proof", "(LPrePressRoom;III[J)I"⟩, method_15_code, (some .int), 10, 182)
def t_Room_proof : List (Nat × List (Nat × xI)) := [(27, [(0, .aload_n 0, 1, 0, 0, .int 0, []),
    (1, .iload_n 1, 2, 1, 0, .int 0, []),
    (2, .iload_n 2, 3, 2, 0, .int 0, []),
    (3, .iload_n 3, 4, 3, 0, .int 0, []),
    (4, .invokevirtual 91, 7, 49, 4, .retAddr 0, [493, 495, 11]),
    (7, .astore 4, 9, 4, 0, .int 0, []),
    (9, .iconst 0, 10, 0, 0, .int 0, []),
    (10, .istore 5, 12, 5, 0, .int 0, []),
    (12, .iconst 0, 13, 0, 0, .int 0, []),
    (13, .istore 6, 15, 6, 0, .int 0, []),
    (15, .iload 6, 17, 6, 0, .int 0, []),
    (17, .bipush 8, 19, 0, 0, .int 8, []),
    (19, .if_icmp .ge 31, 22, 50, 0, .int 0, []),
    (22, .aload_n 0, 23, 0, 0, .int 0, []),
    (23, .aload 4, 25, 4, 0, .int 0, []),
    (25, .iload 6, 27, 6, 0, .int 0, [])]),
  (100000, [(27, .iload_n 2, 28, 2, 0, .int 0, []),
    (28, .iload_n 3, 29, 3, 0, .int 0, []),
    (29, .invokevirtual 125, 32, 82, 5, .retAddr 0, [624, 626, 19]),
    (32, .ifCond .eq 12, 35, 44, 0, .int 0, []),
    (35, .iload 5, 37, 5, 0, .int 0, []),
    (37, .iconst 1, 38, 0, 0, .int 1, []),
    (38, .iload 6, 40, 6, 0, .int 0, []),
    (40, .ishl, 41, 0, 0, .int 0, []),
    (41, .ior, 42, 0, 0, .int 0, []),
    (42, .istore 5, 44, 5, 0, .int 0, []),
    (44, .iinc 6 1, 47, 6, 0, .int 1, []),
    (47, .goto (-32), 50, 15, 0, .int 0, []),
    (50, .iload 5, 52, 5, 0, .int 0, []),
    (52, .ireturn, 53, 0, 0, .int 0, [])])]
def m_Room_proof : xM := (xlk t_Room_proof, [], 7, ⟨"PrePressRoom", "proof", "(III)I"⟩, prog_1_method_14_code, (some .int), 9, 156)
def t_Law_impose : List (Nat × List (Nat × xI)) := [(100000, [(0, .aload 4, 2, 4, 0, .int 0, []),
    (2, .iconst 0, 3, 0, 0, .int 0, []),
    (3, .aload_n 0, 4, 0, 0, .int 0, []),
    (4, .iload_n 1, 5, 1, 0, .int 0, []),
    (5, .iload_n 2, 6, 2, 0, .int 0, []),
    (6, .iload_n 3, 7, 3, 0, .int 0, []),
    (7, .invokevirtual 61, 10, 92, 4, .retAddr 0, [660, 661, 662]),
    (10, .i2l, 11, 0, 0, .int 0, []),
    (11, .lastore, 12, 0, 0, .int 0, []),
    (12, .goto 7, 15, 19, 0, .int 0, []),
    (15, .astore 5, 17, 5, 0, .int 0, []),
    (17, .iconst 1, 18, 0, 0, .int 1, []),
    (18, .ireturn, 19, 0, 0, .int 0, []),
    (19, .iconst 0, 20, 0, 0, .int 0, []),
    (20, .ireturn, 21, 0, 0, .int 0, [])])]
def m_Law_impose : xM := (xlk t_Law_impose, [(0, 12, 15, 15, 9)], 6, ⟨"PrePressRoomLaw", "impose", "(LPrePressRoom;III[J)I"⟩, method_16_code, (some .int), 8, 136)
def t_Room_impose : List (Nat × List (Nat × xI)) := [(26, [(0, .iload_n 2, 1, 2, 0, .int 0, []),
    (1, .iconst 1, 2, 0, 0, .int 1, []),
    (2, .iconst 4, 3, 0, 0, .int 4, []),
    (3, .invokestatic 62, 6, 27, 3, .int 0, [380, 381]),
    (6, .iload_n 3, 7, 3, 0, .int 0, []),
    (7, .iconst 0, 8, 0, 0, .int 0, []),
    (8, .sipush 1000, 11, 0, 0, .int 1000, []),
    (11, .invokestatic 62, 14, 27, 3, .int 0, [380, 381]),
    (14, .iload_n 1, 15, 1, 0, .int 0, []),
    (15, .iconst 1, 16, 0, 0, .int 1, []),
    (16, .bipush 64, 18, 0, 0, .int 64, []),
    (18, .invokestatic 62, 21, 27, 3, .int 0, [380, 381]),
    (21, .iconst 2, 22, 0, 0, .int 2, []),
    (22, .iload_n 2, 23, 2, 0, .int 0, []),
    (23, .ishl, 24, 0, 0, .int 0, []),
    (24, .istore 4, 26, 4, 0, .int 0, [])]),
  (60, [(26, .iload_n 1, 27, 1, 0, .int 0, []),
    (27, .iload 4, 29, 4, 0, .int 0, []),
    (29, .irem, 30, 0, 0, .int 0, []),
    (30, .ifCond .eq 13, 33, 43, 0, .int 0, []),
    (33, .new 141, 36, 9, 6, .null, [143, 145, 383, 384, 58]),
    (36, .dup, 37, 0, 0, .int 0, []),
    (43, .aload_n 0, 44, 0, 0, .int 0, []),
    (44, .getfield 47, 47, 0, 5, .int 0, [279]),
    (47, .iload_n 1, 48, 1, 0, .int 0, []),
    (48, .iload 4, 50, 4, 0, .int 0, []),
    (50, .idiv, 51, 0, 0, .int 0, []),
    (51, .iload_n 2, 52, 2, 0, .int 0, []),
    (52, .iload_n 3, 53, 3, 0, .int 0, []),
    (53, .invokevirtual 146, 56, 93, 4, .retAddr 5, [665, 666, 667]),
    (56, .aload_n 0, 57, 0, 0, .int 0, []),
    (57, .getfield 47, 60, 0, 5, .int 0, [279])]),
  (100000, [(60, .invokevirtual 147, 63, 100, 1, .retAddr 5, [693, 694, 695]),
    (63, .ireturn, 64, 0, 0, .int 0, [])])]
def m_Room_impose : xM := (xlk t_Room_impose, [], 5, ⟨"PrePressRoom", "impose", "(III)I"⟩, prog_1_method_15_code, (some .int), 7, 112)
def t_She_lay : List (Nat × List (Nat × xI)) := [(26, [(0, .aload_n 0, 1, 0, 0, .int 0, []),
    (1, .iload_n 1, 2, 1, 0, .int 0, []),
    (2, .putfield 22, 5, 5, 2, .retAddr 0, [260]),
    (5, .aload_n 0, 6, 0, 0, .int 0, []),
    (6, .iconst 1, 7, 0, 0, .int 1, []),
    (7, .iload_n 2, 8, 2, 0, .int 0, []),
    (8, .ishl, 9, 0, 0, .int 0, []),
    (9, .putfield 26, 12, 5, 3, .retAddr 0, [261]),
    (12, .aload_n 0, 13, 0, 0, .int 0, []),
    (13, .iload_n 3, 14, 3, 0, .int 0, []),
    (14, .putfield 29, 17, 5, 4, .retAddr 0, [262]),
    (17, .iload_n 2, 18, 2, 0, .int 0, []),
    (18, .iconst 3, 19, 0, 0, .int 3, []),
    (19, .if_icmp .ge 7, 22, 26, 0, .int 0, []),
    (22, .iconst 2, 23, 0, 0, .int 2, []),
    (23, .goto 4, 26, 27, 0, .int 0, [])]),
  (56, [(26, .iconst 4, 27, 0, 0, .int 4, []),
    (27, .istore 4, 29, 4, 0, .int 0, []),
    (29, .iconst 0, 30, 0, 0, .int 0, []),
    (30, .istore 5, 32, 5, 0, .int 0, []),
    (32, .iload 5, 34, 5, 0, .int 0, []),
    (34, .aload_n 0, 35, 0, 0, .int 0, []),
    (35, .getfield 26, 38, 5, 3, .int 0, [261]),
    (38, .if_icmp .ge 54, 41, 92, 0, .int 0, []),
    (41, .aload_n 0, 42, 0, 0, .int 0, []),
    (42, .getfield 13, 45, 5, 0, .int 0, [258]),
    (45, .iload 5, 47, 5, 0, .int 0, []),
    (47, .aaload, 48, 0, 0, .int 0, []),
    (48, .astore 6, 50, 6, 0, .int 0, []),
    (50, .aload 6, 52, 6, 0, .int 0, []),
    (52, .iload 5, 54, 5, 0, .int 0, []),
    (54, .iload 4, 56, 4, 0, .int 0, [])]),
  (86, [(56, .irem, 57, 0, 0, .int 0, []),
    (57, .iload 5, 59, 5, 0, .int 0, []),
    (59, .iload 4, 61, 4, 0, .int 0, []),
    (61, .idiv, 62, 0, 0, .int 0, []),
    (62, .invokevirtual 32, 65, 94, 3, .retAddr 6, [669, 670, 671]),
    (65, .aload_n 0, 66, 0, 0, .int 0, []),
    (66, .aload 6, 68, 6, 0, .int 0, []),
    (68, .iload_n 2, 69, 2, 0, .int 0, []),
    (69, .iload 4, 71, 4, 0, .int 0, []),
    (71, .invokevirtual 36, 74, 95, 4, .retAddr 5, [673, 675, 20]),
    (74, .aload_n 0, 75, 0, 0, .int 0, []),
    (75, .getfield 18, 78, 5, 1, .int 0, [259]),
    (78, .aload 6, 80, 6, 0, .int 0, []),
    (80, .invokevirtual 40, 83, 99, 1, .retAddr 6, [689, 690, 691]),
    (83, .iload 5, 85, 5, 0, .int 0, []),
    (85, .iastore, 86, 0, 0, .int 0, [])]),
  (100000, [(86, .iinc 5 1, 89, 5, 0, .int 1, []),
    (89, .goto (-57), 92, 32, 0, .int 0, []),
    (92, .return_, 93, 0, 0, .int 0, [])])]
def m_She_lay : xM := (xlk t_She_lay, [], 7, ⟨"PrePressRoom$Sheets", "lay", "(III)V"⟩, prog_6_method_2_code, none, 3, 70)
def t_Leaf_start : List (Nat × List (Nat × xI)) := [(100000, [(0, .aload_n 0, 1, 0, 0, .int 0, []),
    (1, .iload_n 1, 2, 1, 0, .int 0, []),
    (2, .putfield 7, 5, 6, 0, .retAddr 0, [242]),
    (5, .aload_n 0, 6, 0, 0, .int 0, []),
    (6, .iload_n 2, 7, 2, 0, .int 0, []),
    (7, .putfield 13, 10, 6, 1, .retAddr 0, [243]),
    (10, .aload_n 0, 11, 0, 0, .int 0, []),
    (11, .iconst 0, 12, 0, 0, .int 0, []),
    (12, .putfield 16, 15, 6, 2, .retAddr 0, [244]),
    (15, .aload_n 0, 16, 0, 0, .int 0, []),
    (16, .iconst 0, 17, 0, 0, .int 0, []),
    (17, .putfield 19, 20, 6, 3, .retAddr 0, [245]),
    (20, .aload_n 0, 21, 0, 0, .int 0, []),
    (21, .iconst 0, 22, 0, 0, .int 0, []),
    (22, .putfield 22, 25, 6, 4, .retAddr 0, [246]),
    (25, .return_, 26, 0, 0, .int 0, [])])]
def m_Leaf_start : xM := (xlk t_Leaf_start, [], 3, ⟨"PrePressRoom$Leaf", "start", "(II)V"⟩, prog_3_method_2_code, none, 0, 0)
def t_She_fold : List (Nat × List (Nat × xI)) := [(26, [(0, .iload_n 3, 1, 3, 0, .int 0, []),
    (1, .istore 4, 3, 4, 0, .int 0, []),
    (3, .aload_n 0, 4, 0, 0, .int 0, []),
    (4, .getfield 26, 7, 5, 3, .int 0, [261]),
    (7, .iload_n 3, 8, 3, 0, .int 0, []),
    (8, .idiv, 9, 0, 0, .int 0, []),
    (9, .istore 5, 11, 5, 0, .int 0, []),
    (11, .iconst 1, 12, 0, 0, .int 1, []),
    (12, .istore 6, 14, 6, 0, .int 0, []),
    (14, .iconst 1, 15, 0, 0, .int 1, []),
    (15, .istore 7, 17, 7, 0, .int 0, []),
    (17, .iload 7, 19, 7, 0, .int 0, []),
    (19, .iload_n 2, 20, 2, 0, .int 0, []),
    (20, .if_icmp .gt 54, 23, 74, 0, .int 0, []),
    (23, .iload 7, 25, 7, 0, .int 0, []),
    (25, .iconst 2, 26, 0, 0, .int 2, [])]),
  (56, [(26, .irem, 27, 0, 0, .int 0, []),
    (27, .iconst 1, 28, 0, 0, .int 1, []),
    (28, .if_icmp .ne 20, 31, 48, 0, .int 0, []),
    (31, .aload_n 1, 32, 1, 0, .int 0, []),
    (32, .iload 4, 34, 4, 0, .int 0, []),
    (34, .iload 6, 36, 6, 0, .int 0, []),
    (36, .invokevirtual 44, 39, 96, 3, .retAddr 6, [677, 678, 679]),
    (39, .iload 4, 41, 4, 0, .int 0, []),
    (41, .iconst 2, 42, 0, 0, .int 2, []),
    (42, .idiv, 43, 0, 0, .int 0, []),
    (43, .istore 4, 45, 4, 0, .int 0, []),
    (45, .goto 17, 48, 62, 0, .int 0, []),
    (48, .aload_n 1, 49, 1, 0, .int 0, []),
    (49, .iload 5, 51, 5, 0, .int 0, []),
    (51, .iload 6, 53, 6, 0, .int 0, []),
    (53, .invokevirtual 47, 56, 98, 3, .retAddr 6, [685, 686, 687])]),
  (100000, [(56, .iload 5, 58, 5, 0, .int 0, []),
    (58, .iconst 2, 59, 0, 0, .int 2, []),
    (59, .idiv, 60, 0, 0, .int 0, []),
    (60, .istore 5, 62, 5, 0, .int 0, []),
    (62, .iload 6, 64, 6, 0, .int 0, []),
    (64, .iconst 2, 65, 0, 0, .int 2, []),
    (65, .imul, 66, 0, 0, .int 0, []),
    (66, .istore 6, 68, 6, 0, .int 0, []),
    (68, .iinc 7 1, 71, 7, 0, .int 1, []),
    (71, .goto (-54), 74, 17, 0, .int 0, []),
    (74, .return_, 75, 0, 0, .int 0, [])])]
def m_She_fold : xM := (xlk t_She_fold, [], 8, ⟨"PrePressRoom$Sheets", "fold", "(LPrePressRoom$Leaf;II)V"⟩, prog_6_method_3_code, none, 2, 43)
def t_Leaf_foldRightOnLeft : List (Nat × List (Nat × xI)) := [(24, [(0, .aload_n 0, 1, 0, 0, .int 0, []),
    (1, .getfield 7, 4, 6, 0, .int 0, [242]),
    (4, .iload_n 1, 5, 1, 0, .int 0, []),
    (5, .iconst 2, 6, 0, 0, .int 2, []),
    (6, .idiv, 7, 0, 0, .int 0, []),
    (7, .if_icmp .ge 14, 10, 21, 0, .int 0, []),
    (10, .aload_n 0, 11, 0, 0, .int 0, []),
    (11, .dup, 12, 0, 0, .int 0, []),
    (12, .getfield 16, 15, 6, 2, .int 0, [244]),
    (15, .iload_n 2, 16, 2, 0, .int 0, []),
    (16, .iadd, 17, 0, 0, .int 0, []),
    (17, .putfield 16, 20, 6, 2, .retAddr 0, [244]),
    (20, .return_, 21, 0, 0, .int 0, []),
    (21, .aload_n 0, 22, 0, 0, .int 0, []),
    (22, .iload_n 1, 23, 1, 0, .int 0, []),
    (23, .iconst 1, 24, 0, 0, .int 1, [])]),
  (100000, [(24, .isub, 25, 0, 0, .int 0, []),
    (25, .aload_n 0, 26, 0, 0, .int 0, []),
    (26, .getfield 7, 29, 6, 0, .int 0, [242]),
    (29, .isub, 30, 0, 0, .int 0, []),
    (30, .putfield 7, 33, 6, 0, .retAddr 0, [242]),
    (33, .aload_n 0, 34, 0, 0, .int 0, []),
    (34, .iload_n 2, 35, 2, 0, .int 0, []),
    (35, .invokevirtual 25, 38, 97, 2, .retAddr 6, [681, 683, 21]),
    (38, .return_, 39, 0, 0, .int 0, [])])]
def m_Leaf_foldRightOnLeft : xM := (xlk t_Leaf_foldRightOnLeft, [], 3, ⟨"PrePressRoom$Leaf", "foldRightOnLeft", "(II)V"⟩, prog_3_method_3_code, none, 1, 21)
def t_Leaf_turnOver : List (Nat × List (Nat × xI)) := [(100000, [(0, .aload_n 0, 1, 0, 0, .int 0, []),
    (1, .iload_n 1, 2, 1, 0, .int 0, []),
    (2, .iconst 1, 3, 0, 0, .int 1, []),
    (3, .isub, 4, 0, 0, .int 0, []),
    (4, .aload_n 0, 5, 0, 0, .int 0, []),
    (5, .getfield 16, 8, 6, 2, .int 0, [244]),
    (8, .isub, 9, 0, 0, .int 0, []),
    (9, .putfield 16, 12, 6, 2, .retAddr 0, [244]),
    (12, .aload_n 0, 13, 0, 0, .int 0, []),
    (13, .iconst 1, 14, 0, 0, .int 1, []),
    (14, .aload_n 0, 15, 0, 0, .int 0, []),
    (15, .getfield 19, 18, 6, 3, .int 0, [245]),
    (18, .isub, 19, 0, 0, .int 0, []),
    (19, .putfield 19, 22, 6, 3, .retAddr 0, [245]),
    (22, .return_, 23, 0, 0, .int 0, [])])]
def m_Leaf_turnOver : xM := (xlk t_Leaf_turnOver, [], 2, ⟨"PrePressRoom$Leaf", "turnOver", "(I)V"⟩, prog_3_method_5_code, none, 0, 0)
def t_Leaf_foldLowerOnUpper : List (Nat × List (Nat × xI)) := [(24, [(0, .aload_n 0, 1, 0, 0, .int 0, []),
    (1, .getfield 13, 4, 6, 1, .int 0, [243]),
    (4, .iload_n 1, 5, 1, 0, .int 0, []),
    (5, .iconst 2, 6, 0, 0, .int 2, []),
    (6, .idiv, 7, 0, 0, .int 0, []),
    (7, .if_icmp .ge 14, 10, 21, 0, .int 0, []),
    (10, .aload_n 0, 11, 0, 0, .int 0, []),
    (11, .dup, 12, 0, 0, .int 0, []),
    (12, .getfield 16, 15, 6, 2, .int 0, [244]),
    (15, .iload_n 2, 16, 2, 0, .int 0, []),
    (16, .iadd, 17, 0, 0, .int 0, []),
    (17, .putfield 16, 20, 6, 2, .retAddr 0, [244]),
    (20, .return_, 21, 0, 0, .int 0, []),
    (21, .aload_n 0, 22, 0, 0, .int 0, []),
    (22, .iload_n 1, 23, 1, 0, .int 0, []),
    (23, .iconst 1, 24, 0, 0, .int 1, [])]),
  (100000, [(24, .isub, 25, 0, 0, .int 0, []),
    (25, .aload_n 0, 26, 0, 0, .int 0, []),
    (26, .getfield 13, 29, 6, 1, .int 0, [243]),
    (29, .isub, 30, 0, 0, .int 0, []),
    (30, .putfield 13, 33, 6, 1, .retAddr 0, [243]),
    (33, .aload_n 0, 34, 0, 0, .int 0, []),
    (34, .iload_n 2, 35, 2, 0, .int 0, []),
    (35, .invokevirtual 25, 38, 97, 2, .retAddr 6, [681, 683, 21]),
    (38, .aload_n 0, 39, 0, 0, .int 0, []),
    (39, .iconst 1, 40, 0, 0, .int 1, []),
    (40, .aload_n 0, 41, 0, 0, .int 0, []),
    (41, .getfield 22, 44, 6, 4, .int 0, [246]),
    (44, .isub, 45, 0, 0, .int 0, []),
    (45, .putfield 22, 48, 6, 4, .retAddr 0, [246]),
    (48, .return_, 49, 0, 0, .int 0, [])])]
def m_Leaf_foldLowerOnUpper : xM := (xlk t_Leaf_foldLowerOnUpper, [], 3, ⟨"PrePressRoom$Leaf", "foldLowerOnUpper", "(II)V"⟩, prog_3_method_4_code, none, 1, 21)
def t_Leaf_leavesAbove : List (Nat × List (Nat × xI)) := [(100000, [(0, .aload_n 0, 1, 0, 0, .int 0, []),
    (1, .getfield 16, 4, 6, 2, .int 0, [244]),
    (4, .ireturn, 5, 0, 0, .int 0, [])])]
def m_Leaf_leavesAbove : xM := (xlk t_Leaf_leavesAbove, [], 1, ⟨"PrePressRoom$Leaf", "leavesAbove", "()I"⟩, prog_3_method_6_code, (some .int), 0, 0)
def t_She_sheetCount : List (Nat × List (Nat × xI)) := [(100000, [(0, .aload_n 0, 1, 0, 0, .int 0, []),
    (1, .getfield 22, 4, 5, 2, .int 0, [260]),
    (4, .ireturn, 5, 0, 0, .int 0, [])])]
def m_She_sheetCount : xM := (xlk t_She_sheetCount, [], 1, ⟨"PrePressRoom$Sheets", "sheetCount", "()I"⟩, prog_6_method_4_code, (some .int), 0, 0)
def t_Law_slot : List (Nat × List (Nat × xI)) := [(24, [(0, .aload 5, 2, 5, 0, .int 0, []),
    (2, .iconst 0, 3, 0, 0, .int 0, []),
    (3, .aload_n 0, 4, 0, 0, .int 0, []),
    (4, .iload_n 1, 5, 1, 0, .int 0, []),
    (5, .iload_n 2, 6, 2, 0, .int 0, []),
    (6, .iload_n 3, 7, 3, 0, .int 0, []),
    (7, .iload 4, 9, 4, 0, .int 0, []),
    (9, .invokevirtual 64, 12, 102, 5, .retAddr 0, [700, 701, 702]),
    (12, .i2l, 13, 0, 0, .int 0, []),
    (13, .lastore, 14, 0, 0, .int 0, []),
    (14, .goto 11, 17, 25, 0, .int 0, []),
    (17, .astore 6, 19, 6, 0, .int 0, []),
    (19, .iconst 1, 20, 0, 0, .int 1, []),
    (20, .ireturn, 21, 0, 0, .int 0, []),
    (21, .astore 6, 23, 6, 0, .int 0, []),
    (23, .iconst 2, 24, 0, 0, .int 2, [])]),
  (100000, [(24, .ireturn, 25, 0, 0, .int 0, []),
    (25, .iconst 0, 26, 0, 0, .int 0, []),
    (26, .ireturn, 27, 0, 0, .int 0, [])])]
def m_Law_slot : xM := (xlk t_Law_slot, [(0, 14, 17, 17, 10), (0, 14, 21, 13, 8)], 7, ⟨"PrePressRoomLaw", "slot", "(LPrePressRoom;IIII[J)I"⟩, method_17_code, (some .int), 8, 135)
def t_Room_slot : List (Nat × List (Nat × xI)) := [(33, [(0, .aload_n 0, 1, 0, 0, .int 0, []),
    (1, .invokevirtual 150, 4, 103, 1, .retAddr 0, [704, 706, 22]),
    (4, .iload_n 1, 5, 1, 0, .int 0, []),
    (5, .aload_n 0, 6, 0, 0, .int 0, []),
    (6, .getfield 47, 9, 0, 5, .int 0, [279]),
    (9, .invokevirtual 147, 12, 100, 1, .retAddr 5, [693, 694, 695]),
    (12, .invokestatic 58, 15, 26, 2, .int 0, [309, 310]),
    (15, .iload_n 2, 16, 2, 0, .int 0, []),
    (16, .iconst 2, 17, 0, 0, .int 2, []),
    (17, .invokestatic 58, 20, 26, 2, .int 0, [309, 310]),
    (20, .iload_n 3, 21, 3, 0, .int 0, []),
    (21, .aload_n 0, 22, 0, 0, .int 0, []),
    (22, .getfield 47, 25, 0, 5, .int 0, [279]),
    (25, .invokevirtual 153, 28, 104, 1, .retAddr 5, [709, 710, 711]),
    (28, .invokestatic 58, 31, 26, 2, .int 0, [309, 310]),
    (31, .iload 4, 33, 4, 0, .int 0, [])]),
  (63, [(33, .iconst 3, 34, 0, 0, .int 3, []),
    (34, .invokestatic 58, 37, 26, 2, .int 0, [309, 310]),
    (37, .iload 4, 39, 4, 0, .int 0, []),
    (39, .ifCond .ne 14, 42, 53, 0, .int 0, []),
    (42, .aload_n 0, 43, 0, 0, .int 0, []),
    (43, .getfield 47, 46, 0, 5, .int 0, [279]),
    (46, .iload_n 1, 47, 1, 0, .int 0, []),
    (47, .iload_n 2, 48, 2, 0, .int 0, []),
    (48, .iload_n 3, 49, 3, 0, .int 0, []),
    (49, .invokevirtual 156, 52, 105, 4, .retAddr 5, [713, 714, 715]),
    (52, .ireturn, 53, 0, 0, .int 0, []),
    (53, .iload 4, 55, 4, 0, .int 0, []),
    (55, .iconst 1, 56, 0, 0, .int 1, []),
    (56, .if_icmp .ne 14, 59, 70, 0, .int 0, []),
    (59, .aload_n 0, 60, 0, 0, .int 0, []),
    (60, .getfield 47, 63, 0, 5, .int 0, [279])]),
  (100000, [(63, .iload_n 3, 64, 3, 0, .int 0, []),
    (64, .invokevirtual 160, 67, 107, 2, .retAddr 5, [721, 722, 723]),
    (67, .goto 11, 70, 78, 0, .int 0, []),
    (70, .aload_n 0, 71, 0, 0, .int 0, []),
    (71, .getfield 47, 74, 0, 5, .int 0, [279]),
    (74, .iload_n 3, 75, 3, 0, .int 0, []),
    (75, .invokevirtual 163, 78, 109, 2, .retAddr 5, [729, 730, 731]),
    (78, .ireturn, 79, 0, 0, .int 0, [])])]
def m_Room_slot : xM := (xlk t_Room_slot, [], 5, ⟨"PrePressRoom", "slot", "(IIII)I"⟩, prog_1_method_16_code, (some .int), 7, 111)
def t_Room_needLaid : List (Nat × List (Nat × xI)) := [(100000, [(0, .aload_n 0, 1, 0, 0, .int 0, []),
    (1, .getfield 47, 4, 0, 5, .int 0, [279]),
    (4, .invokevirtual 147, 7, 100, 1, .retAddr 5, [693, 694, 695]),
    (7, .ifCond .ne 13, 10, 20, 0, .int 0, []),
    (10, .new 70, 13, 10, 6, .null, [179, 74, 403, 404, 59]),
    (13, .dup, 14, 0, 0, .int 0, []),
    (20, .return_, 21, 0, 0, .int 0, [])])]
def m_Room_needLaid : xM := (xlk t_Room_needLaid, [], 1, ⟨"PrePressRoom", "needLaid", "()V"⟩, prog_1_method_22_code, none, 6, 90)
def t_She_leafCount : List (Nat × List (Nat × xI)) := [(100000, [(0, .aload_n 0, 1, 0, 0, .int 0, []),
    (1, .getfield 26, 4, 5, 3, .int 0, [261]),
    (4, .ireturn, 5, 0, 0, .int 0, [])])]
def m_She_leafCount : xM := (xlk t_She_leafCount, [], 1, ⟨"PrePressRoom$Sheets", "leafCount", "()I"⟩, prog_6_method_5_code, (some .int), 0, 0)
def t_She_pageOn : List (Nat × List (Nat × xI)) := [(29, [(0, .aload_n 0, 1, 0, 0, .int 0, []),
    (1, .getfield 13, 4, 5, 0, .int 0, [258]),
    (4, .iload_n 3, 5, 3, 0, .int 0, []),
    (5, .aaload, 6, 0, 0, .int 0, []),
    (6, .astore 4, 8, 4, 0, .int 0, []),
    (8, .iconst 2, 9, 0, 0, .int 2, []),
    (9, .aload 4, 11, 4, 0, .int 0, []),
    (11, .invokevirtual 40, 14, 99, 1, .retAddr 6, [689, 690, 691]),
    (14, .imul, 15, 0, 0, .int 0, []),
    (15, .iload_n 2, 16, 2, 0, .int 0, []),
    (16, .aload 4, 18, 4, 0, .int 0, []),
    (18, .invokevirtual 50, 21, 106, 1, .retAddr 6, [717, 718, 719]),
    (21, .if_icmp .ne 7, 24, 28, 0, .int 0, []),
    (24, .iconst 0, 25, 0, 0, .int 0, []),
    (25, .goto 4, 28, 29, 0, .int 0, []),
    (28, .iconst 1, 29, 0, 0, .int 1, [])]),
  (100000, [(29, .iadd, 30, 0, 0, .int 0, []),
    (30, .istore 5, 32, 5, 0, .int 0, []),
    (32, .iload_n 1, 33, 1, 0, .int 0, []),
    (33, .iconst 2, 34, 0, 0, .int 2, []),
    (34, .imul, 35, 0, 0, .int 0, []),
    (35, .aload_n 0, 36, 0, 0, .int 0, []),
    (36, .getfield 26, 39, 5, 3, .int 0, [261]),
    (39, .imul, 40, 0, 0, .int 0, []),
    (40, .iload 5, 42, 5, 0, .int 0, []),
    (42, .iadd, 43, 0, 0, .int 0, []),
    (43, .ireturn, 44, 0, 0, .int 0, [])])]
def m_She_pageOn : xM := (xlk t_She_pageOn, [], 6, ⟨"PrePressRoom$Sheets", "pageOn", "(III)I"⟩, prog_6_method_6_code, (some .int), 1, 20)
def t_Leaf_sideUp : List (Nat × List (Nat × xI)) := [(100000, [(0, .aload_n 0, 1, 0, 0, .int 0, []),
    (1, .getfield 19, 4, 6, 3, .int 0, [245]),
    (4, .ireturn, 5, 0, 0, .int 0, [])])]
def m_Leaf_sideUp : xM := (xlk t_Leaf_sideUp, [], 1, ⟨"PrePressRoom$Leaf", "sideUp", "()I"⟩, prog_3_method_7_code, (some .int), 0, 0)
def t_She_turnOf : List (Nat × List (Nat × xI)) := [(100000, [(0, .aload_n 0, 1, 0, 0, .int 0, []),
    (1, .getfield 13, 4, 5, 0, .int 0, [258]),
    (4, .iload_n 1, 5, 1, 0, .int 0, []),
    (5, .aaload, 6, 0, 0, .int 0, []),
    (6, .invokevirtual 53, 9, 108, 1, .retAddr 6, [725, 726, 727]),
    (9, .ireturn, 10, 0, 0, .int 0, [])])]
def m_She_turnOf : xM := (xlk t_She_turnOf, [], 2, ⟨"PrePressRoom$Sheets", "turnOf", "(I)I"⟩, prog_6_method_7_code, (some .int), 1, 20)
def t_Leaf_turnAtEnd : List (Nat × List (Nat × xI)) := [(100000, [(0, .aload_n 0, 1, 0, 0, .int 0, []),
    (1, .getfield 22, 4, 6, 4, .int 0, [246]),
    (4, .ireturn, 5, 0, 0, .int 0, [])])]
def m_Leaf_turnAtEnd : xM := (xlk t_Leaf_turnAtEnd, [], 1, ⟨"PrePressRoom$Leaf", "turnAtEnd", "()I"⟩, prog_3_method_8_code, (some .int), 0, 0)
def t_She_moveOf : List (Nat × List (Nat × xI)) := [(22, [(0, .aload_n 0, 1, 0, 0, .int 0, []),
    (1, .getfield 26, 4, 5, 3, .int 0, [261]),
    (4, .iconst 2, 5, 0, 0, .int 2, []),
    (5, .idiv, 6, 0, 0, .int 0, []),
    (6, .iconst 1, 7, 0, 0, .int 1, []),
    (7, .isub, 8, 0, 0, .int 0, []),
    (8, .istore_n 2, 9, 2, 0, .int 0, []),
    (9, .iload_n 2, 10, 2, 0, .int 0, []),
    (10, .iconst 1, 11, 0, 0, .int 1, []),
    (11, .if_icmp .ge 5, 14, 16, 0, .int 0, []),
    (14, .iconst 0, 15, 0, 0, .int 0, []),
    (15, .ireturn, 16, 0, 0, .int 0, []),
    (16, .aload_n 0, 17, 0, 0, .int 0, []),
    (17, .getfield 13, 20, 5, 0, .int 0, [258]),
    (20, .iload_n 1, 21, 1, 0, .int 0, []),
    (21, .aaload, 22, 0, 0, .int 0, [])]),
  (100000, [(22, .invokevirtual 40, 25, 99, 1, .retAddr 6, [689, 690, 691]),
    (25, .istore_n 3, 26, 3, 0, .int 0, []),
    (26, .aload_n 0, 27, 0, 0, .int 0, []),
    (27, .getfield 29, 30, 5, 4, .int 0, [262]),
    (30, .iload_n 3, 31, 3, 0, .int 0, []),
    (31, .aload_n 0, 32, 0, 0, .int 0, []),
    (32, .getfield 26, 35, 5, 3, .int 0, [261]),
    (35, .iconst 1, 36, 0, 0, .int 1, []),
    (36, .isub, 37, 0, 0, .int 0, []),
    (37, .iload_n 3, 38, 3, 0, .int 0, []),
    (38, .isub, 39, 0, 0, .int 0, []),
    (39, .invokestatic 56, 42, 42, 2, .int 0, [733, 467]),
    (42, .imul, 43, 0, 0, .int 0, []),
    (43, .iload_n 2, 44, 2, 0, .int 0, []),
    (44, .idiv, 45, 0, 0, .int 0, []),
    (45, .ireturn, 46, 0, 0, .int 0, [])])]
def m_She_moveOf : xM := (xlk t_She_moveOf, [], 4, ⟨"PrePressRoom$Sheets", "moveOf", "(I)I"⟩, prog_6_method_8_code, (some .int), 1, 21)
def t_Law_read : List (Nat × List (Nat × xI)) := [(22, [(0, .aload_n 3, 1, 3, 0, .int 0, []),
    (1, .iconst 0, 2, 0, 0, .int 0, []),
    (2, .aload_n 0, 3, 0, 0, .int 0, []),
    (3, .iload_n 1, 4, 1, 0, .int 0, []),
    (4, .iload_n 2, 5, 2, 0, .int 0, []),
    (5, .invokevirtual 67, 8, 111, 3, .retAddr 0, [737, 738, 739]),
    (8, .i2l, 9, 0, 0, .int 0, []),
    (9, .lastore, 10, 0, 0, .int 0, []),
    (10, .goto 11, 13, 21, 0, .int 0, []),
    (13, .astore 4, 15, 4, 0, .int 0, []),
    (15, .iconst 1, 16, 0, 0, .int 1, []),
    (16, .ireturn, 17, 0, 0, .int 0, []),
    (17, .astore 4, 19, 4, 0, .int 0, []),
    (19, .iconst 2, 20, 0, 0, .int 2, []),
    (20, .ireturn, 21, 0, 0, .int 0, []),
    (21, .iconst 0, 22, 0, 0, .int 0, [])]),
  (100000, [(22, .ireturn, 23, 0, 0, .int 0, [])])]
def m_Law_read : xM := (xlk t_Law_read, [(0, 10, 13, 17, 10), (0, 10, 17, 13, 8)], 5, ⟨"PrePressRoomLaw", "read", "(LPrePressRoom;II[J)I"⟩, method_18_code, (some .int), 8, 133)
def t_Room_read : List (Nat × List (Nat × xI)) := [(30, [(0, .aload_n 0, 1, 0, 0, .int 0, []),
    (1, .invokevirtual 150, 4, 103, 1, .retAddr 0, [704, 706, 22]),
    (4, .iload_n 1, 5, 1, 0, .int 0, []),
    (5, .iconst 2, 6, 0, 0, .int 2, []),
    (6, .aload_n 0, 7, 0, 0, .int 0, []),
    (7, .getfield 47, 10, 0, 5, .int 0, [279]),
    (10, .invokevirtual 153, 13, 104, 1, .retAddr 5, [709, 710, 711]),
    (13, .imul, 14, 0, 0, .int 0, []),
    (14, .invokestatic 58, 17, 26, 2, .int 0, [309, 310]),
    (17, .iload_n 2, 18, 2, 0, .int 0, []),
    (18, .iconst 2, 19, 0, 0, .int 2, []),
    (19, .invokestatic 58, 22, 26, 2, .int 0, [309, 310]),
    (22, .iload_n 2, 23, 2, 0, .int 0, []),
    (23, .ifCond .ne 14, 26, 37, 0, .int 0, []),
    (26, .aload_n 0, 27, 0, 0, .int 0, []),
    (27, .getfield 47, 30, 0, 5, .int 0, [279])]),
  (100000, [(30, .iload_n 1, 31, 1, 0, .int 0, []),
    (31, .invokevirtual 166, 34, 112, 2, .retAddr 5, [741, 742, 743]),
    (34, .goto 11, 37, 45, 0, .int 0, []),
    (37, .aload_n 0, 38, 0, 0, .int 0, []),
    (38, .getfield 47, 41, 0, 5, .int 0, [279]),
    (41, .iload_n 1, 42, 1, 0, .int 0, []),
    (42, .invokevirtual 169, 45, 113, 2, .retAddr 5, [745, 746, 747]),
    (45, .ireturn, 46, 0, 0, .int 0, [])])]
def m_Room_read : xM := (xlk t_Room_read, [], 3, ⟨"PrePressRoom", "read", "(II)I"⟩, prog_1_method_17_code, (some .int), 7, 111)
def t_She_slotRead : List (Nat × List (Nat × xI)) := [(100000, [(0, .aload_n 0, 1, 0, 0, .int 0, []),
    (1, .getfield 18, 4, 5, 1, .int 0, [259]),
    (4, .iload_n 1, 5, 1, 0, .int 0, []),
    (5, .iconst 2, 6, 0, 0, .int 2, []),
    (6, .idiv, 7, 0, 0, .int 0, []),
    (7, .iaload, 8, 0, 0, .int 0, []),
    (8, .ireturn, 9, 0, 0, .int 0, [])])]
def m_She_slotRead : xM := (xlk t_She_slotRead, [], 2, ⟨"PrePressRoom$Sheets", "slotRead", "(I)I"⟩, prog_6_method_9_code, (some .int), 0, 0)
def t_She_sideRead : List (Nat × List (Nat × xI)) := [(26, [(0, .aload_n 0, 1, 0, 0, .int 0, []),
    (1, .getfield 13, 4, 5, 0, .int 0, [258]),
    (4, .aload_n 0, 5, 0, 0, .int 0, []),
    (5, .iload_n 1, 6, 1, 0, .int 0, []),
    (6, .invokevirtual 62, 9, 112, 2, .retAddr 5, [749, 742, 743]),
    (9, .aaload, 10, 0, 0, .int 0, []),
    (10, .invokevirtual 50, 13, 106, 1, .retAddr 6, [717, 718, 719]),
    (13, .istore_n 2, 14, 2, 0, .int 0, []),
    (14, .iload_n 1, 15, 1, 0, .int 0, []),
    (15, .iconst 2, 16, 0, 0, .int 2, []),
    (16, .irem, 17, 0, 0, .int 0, []),
    (17, .ifCond .ne 7, 20, 24, 0, .int 0, []),
    (20, .iload_n 2, 21, 2, 0, .int 0, []),
    (21, .goto 6, 24, 27, 0, .int 0, []),
    (24, .iconst 1, 25, 0, 0, .int 1, []),
    (25, .iload_n 2, 26, 2, 0, .int 0, [])]),
  (100000, [(26, .isub, 27, 0, 0, .int 0, []),
    (27, .ireturn, 28, 0, 0, .int 0, [])])]
def m_She_sideRead : xM := (xlk t_She_sideRead, [], 3, ⟨"PrePressRoom$Sheets", "sideRead", "(I)I"⟩, prog_6_method_10_code, (some .int), 1, 21)
def t_Mod_init : List (Nat × List (Nat × xI)) := [(33, [(0, .aload_n 0, 1, 0, 0, .int 0, []),
    (1, .invokespecial 1, 4, 0, 0, .null, [755, 68, 69]),
    (4, .aload_n 0, 5, 0, 0, .int 0, []),
    (5, .sipush 512, 8, 0, 0, .int 512, []),
    (8, .newarray .int, 10, 0, 0, .int 0, [95]),
    (10, .putfield 7, 13, 7, 1, .retAddr 2, [757]),
    (13, .aload_n 0, 14, 0, 0, .int 0, []),
    (14, .sipush 12288, 17, 0, 0, .int 12288, []),
    (17, .newarray .int, 19, 0, 0, .int 0, [95]),
    (19, .putfield 13, 22, 7, 2, .retAddr 2, [758]),
    (22, .aload_n 0, 23, 0, 0, .int 0, []),
    (23, .sipush 1020, 26, 0, 0, .int 1020, []),
    (26, .putfield 16, 29, 7, 4, .retAddr 0, [760]),
    (29, .aload_n 0, 30, 0, 0, .int 0, []),
    (30, .iconst 4, 31, 0, 0, .int 4, []),
    (31, .newarray .boolean, 33, 2, 0, .int 0, [850])]),
  (67, [(33, .putfield 20, 36, 7, 5, .retAddr 2, [761]),
    (36, .aload_n 0, 37, 0, 0, .int 0, []),
    (37, .iconst 4, 38, 0, 0, .int 4, []),
    (38, .newarray .boolean, 40, 2, 0, .int 0, [850]),
    (40, .putfield 24, 43, 7, 6, .retAddr 2, [762]),
    (43, .aload_n 0, 44, 0, 0, .int 0, []),
    (44, .sipush 12288, 47, 0, 0, .int 12288, []),
    (47, .newarray .int, 49, 0, 0, .int 0, [95]),
    (49, .putfield 27, 52, 7, 7, .retAddr 2, [763]),
    (52, .aload_n 0, 53, 0, 0, .int 0, []),
    (53, .sipush 2048, 56, 0, 0, .int 2048, []),
    (56, .newarray .int, 58, 0, 0, .int 0, [95]),
    (58, .putfield 30, 61, 7, 8, .retAddr 2, [764]),
    (61, .aload_n 0, 62, 0, 0, .int 0, []),
    (62, .sipush 12288, 65, 0, 0, .int 12288, []),
    (65, .newarray .int, 67, 0, 0, .int 0, [95])]),
  (90, [(67, .putfield 33, 70, 7, 9, .retAddr 2, [765]),
    (70, .aload_n 0, 71, 0, 0, .int 0, []),
    (71, .bipush 64, 73, 0, 0, .int 64, []),
    (73, .newarray .boolean, 75, 2, 0, .int 0, [850]),
    (75, .putfield 36, 78, 7, 10, .retAddr 2, [766]),
    (78, .aload_n 0, 79, 0, 0, .int 0, []),
    (79, .iconst 4, 80, 0, 0, .int 4, []),
    (80, .newarray .int, 82, 0, 0, .int 0, [95]),
    (82, .dup, 83, 0, 0, .int 0, []),
    (83, .iconst 0, 84, 0, 0, .int 0, []),
    (84, .iconst 0, 85, 0, 0, .int 0, []),
    (85, .iastore, 86, 0, 0, .int 0, []),
    (86, .dup, 87, 0, 0, .int 0, []),
    (87, .iconst 1, 88, 0, 0, .int 1, []),
    (88, .iconst 0, 89, 0, 0, .int 0, []),
    (89, .iastore, 90, 0, 0, .int 0, [])]),
  (110, [(90, .dup, 91, 0, 0, .int 0, []),
    (91, .iconst 2, 92, 0, 0, .int 2, []),
    (92, .iconst 0, 93, 0, 0, .int 0, []),
    (93, .iastore, 94, 0, 0, .int 0, []),
    (94, .dup, 95, 0, 0, .int 0, []),
    (95, .iconst 3, 96, 0, 0, .int 3, []),
    (96, .iconst 0, 97, 0, 0, .int 0, []),
    (97, .iastore, 98, 0, 0, .int 0, []),
    (98, .putfield 39, 101, 7, 11, .retAddr 2, [767]),
    (101, .aload_n 0, 102, 0, 0, .int 0, []),
    (102, .bipush 8, 104, 0, 0, .int 8, []),
    (104, .newarray .int, 106, 0, 0, .int 0, [95]),
    (106, .dup, 107, 0, 0, .int 0, []),
    (107, .iconst 0, 108, 0, 0, .int 0, []),
    (108, .iconst 4, 109, 0, 0, .int 4, []),
    (109, .iastore, 110, 0, 0, .int 0, [])]),
  (126, [(110, .dup, 111, 0, 0, .int 0, []),
    (111, .iconst 1, 112, 0, 0, .int 1, []),
    (112, .iconst 4, 113, 0, 0, .int 4, []),
    (113, .iastore, 114, 0, 0, .int 0, []),
    (114, .dup, 115, 0, 0, .int 0, []),
    (115, .iconst 2, 116, 0, 0, .int 2, []),
    (116, .iconst 4, 117, 0, 0, .int 4, []),
    (117, .iastore, 118, 0, 0, .int 0, []),
    (118, .dup, 119, 0, 0, .int 0, []),
    (119, .iconst 3, 120, 0, 0, .int 3, []),
    (120, .iconst 4, 121, 0, 0, .int 4, []),
    (121, .iastore, 122, 0, 0, .int 0, []),
    (122, .dup, 123, 0, 0, .int 0, []),
    (123, .iconst 4, 124, 0, 0, .int 4, []),
    (124, .iconst 4, 125, 0, 0, .int 4, []),
    (125, .iastore, 126, 0, 0, .int 0, [])]),
  (148, [(126, .dup, 127, 0, 0, .int 0, []),
    (127, .iconst 5, 128, 0, 0, .int 5, []),
    (128, .iconst 4, 129, 0, 0, .int 4, []),
    (129, .iastore, 130, 0, 0, .int 0, []),
    (130, .dup, 131, 0, 0, .int 0, []),
    (131, .bipush 6, 133, 0, 0, .int 6, []),
    (133, .iconst 4, 134, 0, 0, .int 4, []),
    (134, .iastore, 135, 0, 0, .int 0, []),
    (135, .dup, 136, 0, 0, .int 0, []),
    (136, .bipush 7, 138, 0, 0, .int 7, []),
    (138, .iconst 4, 139, 0, 0, .int 4, []),
    (139, .iastore, 140, 0, 0, .int 0, []),
    (140, .putfield 42, 143, 7, 12, .retAddr 2, [768]),
    (143, .aload_n 0, 144, 0, 0, .int 0, []),
    (144, .bipush 8, 146, 0, 0, .int 8, []),
    (146, .newarray .int, 148, 0, 0, .int 0, [95])]),
  (164, [(148, .dup, 149, 0, 0, .int 0, []),
    (149, .iconst 0, 150, 0, 0, .int 0, []),
    (150, .iconst 0, 151, 0, 0, .int 0, []),
    (151, .iastore, 152, 0, 0, .int 0, []),
    (152, .dup, 153, 0, 0, .int 0, []),
    (153, .iconst 1, 154, 0, 0, .int 1, []),
    (154, .iconst 0, 155, 0, 0, .int 0, []),
    (155, .iastore, 156, 0, 0, .int 0, []),
    (156, .dup, 157, 0, 0, .int 0, []),
    (157, .iconst 2, 158, 0, 0, .int 2, []),
    (158, .iconst 0, 159, 0, 0, .int 0, []),
    (159, .iastore, 160, 0, 0, .int 0, []),
    (160, .dup, 161, 0, 0, .int 0, []),
    (161, .iconst 3, 162, 0, 0, .int 3, []),
    (162, .iconst 0, 163, 0, 0, .int 0, []),
    (163, .iastore, 164, 0, 0, .int 0, [])]),
  (182, [(164, .dup, 165, 0, 0, .int 0, []),
    (165, .iconst 4, 166, 0, 0, .int 4, []),
    (166, .iconst 0, 167, 0, 0, .int 0, []),
    (167, .iastore, 168, 0, 0, .int 0, []),
    (168, .dup, 169, 0, 0, .int 0, []),
    (169, .iconst 5, 170, 0, 0, .int 5, []),
    (170, .iconst 0, 171, 0, 0, .int 0, []),
    (171, .iastore, 172, 0, 0, .int 0, []),
    (172, .dup, 173, 0, 0, .int 0, []),
    (173, .bipush 6, 175, 0, 0, .int 6, []),
    (175, .iconst 0, 176, 0, 0, .int 0, []),
    (176, .iastore, 177, 0, 0, .int 0, []),
    (177, .dup, 178, 0, 0, .int 0, []),
    (178, .bipush 7, 180, 0, 0, .int 7, []),
    (180, .iconst 0, 181, 0, 0, .int 0, []),
    (181, .iastore, 182, 0, 0, .int 0, [])]),
  (202, [(182, .putfield 45, 185, 7, 13, .retAddr 2, [769]),
    (185, .aload_n 0, 186, 0, 0, .int 0, []),
    (186, .bipush 8, 188, 0, 0, .int 8, []),
    (188, .newarray .int, 190, 0, 0, .int 0, [95]),
    (190, .dup, 191, 0, 0, .int 0, []),
    (191, .iconst 0, 192, 0, 0, .int 0, []),
    (192, .iconst 0, 193, 0, 0, .int 0, []),
    (193, .iastore, 194, 0, 0, .int 0, []),
    (194, .dup, 195, 0, 0, .int 0, []),
    (195, .iconst 1, 196, 0, 0, .int 1, []),
    (196, .iconst 0, 197, 0, 0, .int 0, []),
    (197, .iastore, 198, 0, 0, .int 0, []),
    (198, .dup, 199, 0, 0, .int 0, []),
    (199, .iconst 2, 200, 0, 0, .int 2, []),
    (200, .iconst 0, 201, 0, 0, .int 0, []),
    (201, .iastore, 202, 0, 0, .int 0, [])]),
  (219, [(202, .dup, 203, 0, 0, .int 0, []),
    (203, .iconst 3, 204, 0, 0, .int 3, []),
    (204, .iconst 0, 205, 0, 0, .int 0, []),
    (205, .iastore, 206, 0, 0, .int 0, []),
    (206, .dup, 207, 0, 0, .int 0, []),
    (207, .iconst 4, 208, 0, 0, .int 4, []),
    (208, .iconst 0, 209, 0, 0, .int 0, []),
    (209, .iastore, 210, 0, 0, .int 0, []),
    (210, .dup, 211, 0, 0, .int 0, []),
    (211, .iconst 5, 212, 0, 0, .int 5, []),
    (212, .iconst 0, 213, 0, 0, .int 0, []),
    (213, .iastore, 214, 0, 0, .int 0, []),
    (214, .dup, 215, 0, 0, .int 0, []),
    (215, .bipush 6, 217, 0, 0, .int 6, []),
    (217, .iconst 0, 218, 0, 0, .int 0, []),
    (218, .iastore, 219, 0, 0, .int 0, [])]),
  (249, [(219, .dup, 220, 0, 0, .int 0, []),
    (220, .bipush 7, 222, 0, 0, .int 7, []),
    (222, .iconst 0, 223, 0, 0, .int 0, []),
    (223, .iastore, 224, 0, 0, .int 0, []),
    (224, .putfield 48, 227, 7, 14, .retAddr 2, [770]),
    (227, .aload_n 0, 228, 0, 0, .int 0, []),
    (228, .bipush 8, 230, 0, 0, .int 8, []),
    (230, .newarray .boolean, 232, 2, 0, .int 0, [850]),
    (232, .putfield 51, 235, 7, 15, .retAddr 2, [771]),
    (235, .aload_n 0, 236, 0, 0, .int 0, []),
    (236, .bipush 8, 238, 0, 0, .int 8, []),
    (238, .newarray .int, 240, 0, 0, .int 0, [95]),
    (240, .putfield 54, 243, 7, 16, .retAddr 2, [772]),
    (243, .aload_n 0, 244, 0, 0, .int 0, []),
    (244, .sipush 3200, 247, 0, 0, .int 3200, []),
    (247, .newarray .int, 249, 0, 0, .int 0, [95])]),
  (282, [(249, .putfield 57, 252, 7, 17, .retAddr 2, [773]),
    (252, .aload_n 0, 253, 0, 0, .int 0, []),
    (253, .sipush 3200, 256, 0, 0, .int 3200, []),
    (256, .newarray .int, 258, 0, 0, .int 0, [95]),
    (258, .putfield 60, 261, 7, 18, .retAddr 2, [774]),
    (261, .aload_n 0, 262, 0, 0, .int 0, []),
    (262, .bipush 16, 264, 0, 0, .int 16, []),
    (264, .newarray .int, 266, 0, 0, .int 0, [95]),
    (266, .putfield 63, 269, 7, 25, .retAddr 2, [781]),
    (269, .aload_n 0, 270, 0, 0, .int 0, []),
    (270, .bipush 16, 272, 0, 0, .int 16, []),
    (272, .newarray .int, 274, 0, 0, .int 0, [95]),
    (274, .putfield 66, 277, 7, 26, .retAddr 2, [782]),
    (277, .aload_n 0, 278, 0, 0, .int 0, []),
    (278, .bipush 16, 280, 0, 0, .int 16, []),
    (280, .newarray .int, 282, 0, 0, .int 0, [95])]),
  (100000, [(282, .putfield 69, 285, 7, 27, .retAddr 2, [783]),
    (285, .aload_n 0, 286, 0, 0, .int 0, []),
    (286, .bipush 16, 288, 0, 0, .int 16, []),
    (288, .newarray .int, 290, 0, 0, .int 0, [95]),
    (290, .putfield 72, 293, 7, 28, .retAddr 2, [784]),
    (293, .aload_n 0, 294, 0, 0, .int 0, []),
    (294, .bipush 16, 296, 0, 0, .int 16, []),
    (296, .newarray .int, 298, 0, 0, .int 0, [95]),
    (298, .putfield 75, 301, 7, 29, .retAddr 2, [785]),
    (301, .aload_n 0, 302, 0, 0, .int 0, []),
    (302, .bipush 16, 304, 0, 0, .int 16, []),
    (304, .newarray .int, 306, 0, 0, .int 0, [95]),
    (306, .putfield 78, 309, 7, 30, .retAddr 2, [786]),
    (309, .return_, 310, 0, 0, .int 0, [])])]
def m_Mod_init : xM := (xlk t_Mod_init, [], 1, ⟨"PrePressRoomModel", "<init>", "()V"⟩, prog_9_method_1_code, none, 1, 20)
end
section
def t_Mod_thrown : List (Nat × List (Nat × xI)) := [(100000, [(0, .aload_n 0, 1, 0, 0, .int 0, []),
    (1, .getfield 81, 4, 7, 0, .int 0, [756]),
    (4, .ireturn, 5, 0, 0, .int 0, [])])]
def m_Mod_thrown : xM := (xlk t_Mod_thrown, [], 1, ⟨"PrePressRoomModel", "thrown", "()I"⟩, prog_9_method_2_code, (some .int), 0, 0)
def t_Mod_colour : List (Nat × List (Nat × xI)) := [(30, [(0, .aload_n 0, 1, 0, 0, .int 0, []),
    (1, .iconst 0, 2, 0, 0, .int 0, []),
    (2, .putfield 81, 5, 7, 0, .retAddr 0, [756]),
    (5, .iload_n 1, 6, 1, 0, .int 0, []),
    (6, .iconst 0, 7, 0, 0, .int 0, []),
    (7, .bipush 63, 9, 0, 0, .int 63, []),
    (9, .invokestatic 84, 12, 117, 3, .int 0, [859, 860]),
    (12, .ifCond .eq 13, 15, 25, 0, .int 0, []),
    (15, .iload_n 2, 16, 2, 0, .int 0, []),
    (16, .iconst 0, 17, 0, 0, .int 0, []),
    (17, .bipush 7, 19, 0, 0, .int 7, []),
    (19, .invokestatic 84, 22, 117, 3, .int 0, [859, 860]),
    (22, .ifCond .ne 9, 25, 31, 0, .int 0, []),
    (25, .aload_n 0, 26, 0, 0, .int 0, []),
    (26, .iconst 1, 27, 0, 0, .int 1, []),
    (27, .invokevirtual 88, 30, 118, 2, .retAddr 7, [862, 864, 23])]),
  (59, [(30, .ireturn, 31, 0, 0, .int 0, []),
    (31, .iload_n 3, 32, 3, 0, .int 0, []),
    (32, .iconst 0, 33, 0, 0, .int 0, []),
    (33, .sipush 255, 36, 0, 0, .int 255, []),
    (36, .invokestatic 84, 39, 117, 3, .int 0, [859, 860]),
    (39, .ifCond .ne 9, 42, 48, 0, .int 0, []),
    (42, .aload_n 0, 43, 0, 0, .int 0, []),
    (43, .iconst 2, 44, 0, 0, .int 2, []),
    (44, .invokevirtual 88, 47, 118, 2, .retAddr 7, [862, 864, 23]),
    (47, .ireturn, 48, 0, 0, .int 0, []),
    (48, .iconst 4, 49, 0, 0, .int 4, []),
    (49, .istore 4, 51, 4, 0, .int 0, []),
    (51, .iload 4, 53, 4, 0, .int 0, []),
    (53, .bipush 8, 55, 0, 0, .int 8, []),
    (55, .if_icmp .ge 45, 58, 100, 0, .int 0, []),
    (58, .iload_n 3, 59, 3, 0, .int 0, [])]),
  (88, [(59, .ifCond .le 35, 62, 94, 0, .int 0, []),
    (62, .iload_n 2, 63, 2, 0, .int 0, []),
    (63, .iconst 3, 64, 0, 0, .int 3, []),
    (64, .if_icmp .le 30, 67, 94, 0, .int 0, []),
    (67, .iload 4, 69, 4, 0, .int 0, []),
    (69, .iload_n 2, 70, 2, 0, .int 0, []),
    (70, .if_icmp .eq 24, 73, 94, 0, .int 0, []),
    (73, .aload_n 0, 74, 0, 0, .int 0, []),
    (74, .getfield 7, 77, 7, 1, .int 0, [757]),
    (77, .bipush 8, 79, 0, 0, .int 8, []),
    (79, .iload_n 1, 80, 1, 0, .int 0, []),
    (80, .imul, 81, 0, 0, .int 0, []),
    (81, .iload 4, 83, 4, 0, .int 0, []),
    (83, .iadd, 84, 0, 0, .int 0, []),
    (84, .iaload, 85, 0, 0, .int 0, []),
    (85, .ifCond .le 9, 88, 94, 0, .int 0, [])]),
  (114, [(88, .aload_n 0, 89, 0, 0, .int 0, []),
    (89, .iconst 3, 90, 0, 0, .int 3, []),
    (90, .invokevirtual 88, 93, 118, 2, .retAddr 7, [862, 864, 23]),
    (93, .ireturn, 94, 0, 0, .int 0, []),
    (94, .iinc 4 1, 97, 4, 0, .int 1, []),
    (97, .goto (-46), 100, 51, 0, .int 0, []),
    (100, .aload_n 0, 101, 0, 0, .int 0, []),
    (101, .getfield 7, 104, 7, 1, .int 0, [757]),
    (104, .bipush 8, 106, 0, 0, .int 8, []),
    (106, .iload_n 1, 107, 1, 0, .int 0, []),
    (107, .imul, 108, 0, 0, .int 0, []),
    (108, .iload_n 2, 109, 2, 0, .int 0, []),
    (109, .iadd, 110, 0, 0, .int 0, []),
    (110, .iaload, 111, 0, 0, .int 0, []),
    (111, .istore 4, 113, 4, 0, .int 0, []),
    (113, .aload_n 0, 114, 0, 0, .int 0, [])]),
  (100000, [(114, .getfield 7, 117, 7, 1, .int 0, [757]),
    (117, .bipush 8, 119, 0, 0, .int 8, []),
    (119, .iload_n 1, 120, 1, 0, .int 0, []),
    (120, .imul, 121, 0, 0, .int 0, []),
    (121, .iload_n 2, 122, 2, 0, .int 0, []),
    (122, .iadd, 123, 0, 0, .int 0, []),
    (123, .iload_n 3, 124, 3, 0, .int 0, []),
    (124, .iastore, 125, 0, 0, .int 0, []),
    (125, .iload 4, 127, 4, 0, .int 0, []),
    (127, .ireturn, 128, 0, 0, .int 0, [])])]
def m_Mod_colour : xM := (xlk t_Mod_colour, [], 5, ⟨"PrePressRoomModel", "colour", "(III)I"⟩, prog_9_method_5_code, (some .int), 1, 22)
def t_Mod_within : List (Nat × List (Nat × xI)) := [(100000, [(0, .iload_n 0, 1, 0, 0, .int 0, []),
    (1, .iload_n 1, 2, 1, 0, .int 0, []),
    (2, .if_icmp .lt 12, 5, 14, 0, .int 0, []),
    (5, .iload_n 0, 6, 0, 0, .int 0, []),
    (6, .iload_n 2, 7, 2, 0, .int 0, []),
    (7, .if_icmp .gt 7, 10, 14, 0, .int 0, []),
    (10, .iconst 1, 11, 0, 0, .int 1, []),
    (11, .goto 4, 14, 15, 0, .int 0, []),
    (14, .iconst 0, 15, 0, 0, .int 0, []),
    (15, .ireturn, 16, 0, 0, .int 0, [])])]
def m_Mod_within : xM := (xlk t_Mod_within, [], 3, ⟨"PrePressRoomModel", "within", "(III)Z"⟩, prog_9_method_4_code, (some .boolean), 0, 0)
def t_Mod_fail : List (Nat × List (Nat × xI)) := [(100000, [(0, .aload_n 0, 1, 0, 0, .int 0, []),
    (1, .iload_n 1, 2, 1, 0, .int 0, []),
    (2, .putfield 81, 5, 7, 0, .retAddr 0, [756]),
    (5, .iconst 0, 6, 0, 0, .int 0, []),
    (6, .ireturn, 7, 0, 0, .int 0, [])])]
def m_Mod_fail : xM := (xlk t_Mod_fail, [], 2, ⟨"PrePressRoomModel", "fail", "(I)I"⟩, prog_9_method_3_code, (some .int), 0, 0)
def t_Mod_box : List (Nat × List (Nat × xI)) := [(31, [(0, .aload_n 0, 1, 0, 0, .int 0, []),
    (1, .iconst 0, 2, 0, 0, .int 0, []),
    (2, .putfield 81, 5, 7, 0, .retAddr 0, [756]),
    (5, .iload_n 1, 6, 1, 0, .int 0, []),
    (6, .invokestatic 92, 9, 120, 1, .int 0, [870, 871]),
    (9, .ifCond .eq 14, 12, 23, 0, .int 0, []),
    (12, .iload 6, 14, 6, 0, .int 0, []),
    (14, .iconst 0, 15, 0, 0, .int 0, []),
    (15, .bipush 63, 17, 0, 0, .int 63, []),
    (17, .invokestatic 84, 20, 117, 3, .int 0, [859, 860]),
    (20, .ifCond .ne 9, 23, 29, 0, .int 0, []),
    (23, .aload_n 0, 24, 0, 0, .int 0, []),
    (24, .iconst 1, 25, 0, 0, .int 1, []),
    (25, .invokevirtual 88, 28, 118, 2, .retAddr 7, [862, 864, 23]),
    (28, .ireturn, 29, 0, 0, .int 0, []),
    (29, .iload 4, 31, 4, 0, .int 0, [])]),
  (63, [(31, .iconst 1, 32, 0, 0, .int 1, []),
    (32, .if_icmp .lt 47, 35, 79, 0, .int 0, []),
    (35, .iload 5, 37, 5, 0, .int 0, []),
    (37, .iconst 1, 38, 0, 0, .int 1, []),
    (38, .if_icmp .lt 41, 41, 79, 0, .int 0, []),
    (41, .iload_n 2, 42, 2, 0, .int 0, []),
    (42, .ifCond .lt 37, 45, 79, 0, .int 0, []),
    (45, .iload_n 3, 46, 3, 0, .int 0, []),
    (46, .ifCond .lt 33, 49, 79, 0, .int 0, []),
    (49, .iload_n 2, 50, 2, 0, .int 0, []),
    (50, .bipush 47, 52, 0, 0, .int 47, []),
    (52, .if_icmp .gt 27, 55, 79, 0, .int 0, []),
    (55, .iload_n 3, 56, 3, 0, .int 0, []),
    (56, .bipush 63, 58, 0, 0, .int 63, []),
    (58, .if_icmp .gt 21, 61, 79, 0, .int 0, []),
    (61, .iload 4, 63, 4, 0, .int 0, [])]),
  (89, [(63, .bipush 48, 65, 0, 0, .int 48, []),
    (65, .iload_n 2, 66, 2, 0, .int 0, []),
    (66, .isub, 67, 0, 0, .int 0, []),
    (67, .if_icmp .gt 12, 70, 79, 0, .int 0, []),
    (70, .iload 5, 72, 5, 0, .int 0, []),
    (72, .bipush 64, 74, 0, 0, .int 64, []),
    (74, .iload_n 3, 75, 3, 0, .int 0, []),
    (75, .isub, 76, 0, 0, .int 0, []),
    (76, .if_icmp .le 9, 79, 85, 0, .int 0, []),
    (79, .aload_n 0, 80, 0, 0, .int 0, []),
    (80, .iconst 2, 81, 0, 0, .int 2, []),
    (81, .invokevirtual 88, 84, 118, 2, .retAddr 7, [862, 864, 23]),
    (84, .ireturn, 85, 0, 0, .int 0, []),
    (85, .iconst 0, 86, 0, 0, .int 0, []),
    (86, .istore 7, 88, 7, 0, .int 0, []),
    (88, .iload_n 3, 89, 3, 0, .int 0, [])]),
  (118, [(89, .istore 8, 91, 8, 0, .int 0, []),
    (91, .iload 8, 93, 8, 0, .int 0, []),
    (93, .iload_n 3, 94, 3, 0, .int 0, []),
    (94, .iload 5, 96, 5, 0, .int 0, []),
    (96, .iadd, 97, 0, 0, .int 0, []),
    (97, .if_icmp .ge 70, 100, 167, 0, .int 0, []),
    (100, .iload_n 2, 101, 2, 0, .int 0, []),
    (101, .istore 9, 103, 9, 0, .int 0, []),
    (103, .iload 9, 105, 9, 0, .int 0, []),
    (105, .iload_n 2, 106, 2, 0, .int 0, []),
    (106, .iload 4, 108, 4, 0, .int 0, []),
    (108, .iadd, 109, 0, 0, .int 0, []),
    (109, .if_icmp .ge 52, 112, 161, 0, .int 0, []),
    (112, .iload 7, 114, 7, 0, .int 0, []),
    (114, .aload_n 0, 115, 0, 0, .int 0, []),
    (115, .getfield 13, 118, 7, 2, .int 0, [758])]),
  (147, [(118, .iload_n 1, 119, 1, 0, .int 0, []),
    (119, .iload 9, 121, 9, 0, .int 0, []),
    (121, .iload 8, 123, 8, 0, .int 0, []),
    (123, .invokestatic 96, 126, 121, 3, .int 0, [873, 874]),
    (126, .iaload, 127, 0, 0, .int 0, []),
    (127, .iload 6, 129, 6, 0, .int 0, []),
    (129, .if_icmp .eq 7, 132, 136, 0, .int 0, []),
    (132, .iconst 1, 133, 0, 0, .int 1, []),
    (133, .goto 4, 136, 137, 0, .int 0, []),
    (136, .iconst 0, 137, 0, 0, .int 0, []),
    (137, .iadd, 138, 0, 0, .int 0, []),
    (138, .istore 7, 140, 7, 0, .int 0, []),
    (140, .aload_n 0, 141, 0, 0, .int 0, []),
    (141, .getfield 13, 144, 7, 2, .int 0, [758]),
    (144, .iload_n 1, 145, 1, 0, .int 0, []),
    (145, .iload 9, 147, 9, 0, .int 0, [])]),
  (100000, [(147, .iload 8, 149, 8, 0, .int 0, []),
    (149, .invokestatic 96, 152, 121, 3, .int 0, [873, 874]),
    (152, .iload 6, 154, 6, 0, .int 0, []),
    (154, .iastore, 155, 0, 0, .int 0, []),
    (155, .iinc 9 1, 158, 9, 0, .int 1, []),
    (158, .goto (-55), 161, 103, 0, .int 0, []),
    (161, .iinc 8 1, 164, 8, 0, .int 1, []),
    (164, .goto (-73), 167, 91, 0, .int 0, []),
    (167, .iload 7, 169, 7, 0, .int 0, []),
    (169, .ireturn, 170, 0, 0, .int 0, [])])]
def m_Mod_box : xM := (xlk t_Mod_box, [], 10, ⟨"PrePressRoomModel", "box", "(IIIIII)I"⟩, prog_9_method_9_code, (some .int), 2, 42)
def t_Mod_isPage : List (Nat × List (Nat × xI)) := [(100000, [(0, .iload_n 0, 1, 0, 0, .int 0, []),
    (1, .iconst 0, 2, 0, 0, .int 0, []),
    (2, .iconst 3, 3, 0, 0, .int 3, []),
    (3, .invokestatic 84, 6, 117, 3, .int 0, [859, 860]),
    (6, .ireturn, 7, 0, 0, .int 0, [])])]
def m_Mod_isPage : xM := (xlk t_Mod_isPage, [], 1, ⟨"PrePressRoomModel", "isPage", "(I)Z"⟩, prog_9_method_6_code, (some .boolean), 1, 22)
def t_Mod_at : List (Nat × List (Nat × xI)) := [(100000, [(0, .sipush 3072, 3, 0, 0, .int 3072, []),
    (3, .iload_n 0, 4, 0, 0, .int 0, []),
    (4, .imul, 5, 0, 0, .int 0, []),
    (5, .bipush 48, 7, 0, 0, .int 48, []),
    (7, .iload_n 2, 8, 2, 0, .int 0, []),
    (8, .imul, 9, 0, 0, .int 0, []),
    (9, .iadd, 10, 0, 0, .int 0, []),
    (10, .iload_n 1, 11, 1, 0, .int 0, []),
    (11, .iadd, 12, 0, 0, .int 0, []),
    (12, .ireturn, 13, 0, 0, .int 0, [])])]
def m_Mod_at : xM := (xlk t_Mod_at, [], 3, ⟨"PrePressRoomModel", "at", "(III)I"⟩, prog_9_method_8_code, (some .int), 0, 0)
def t_Mod_cell : List (Nat × List (Nat × xI)) := [(28, [(0, .aload_n 0, 1, 0, 0, .int 0, []),
    (1, .iconst 0, 2, 0, 0, .int 0, []),
    (2, .putfield 81, 5, 7, 0, .retAddr 0, [756]),
    (5, .iload_n 1, 6, 1, 0, .int 0, []),
    (6, .iload_n 2, 7, 2, 0, .int 0, []),
    (7, .iload_n 3, 8, 3, 0, .int 0, []),
    (8, .invokestatic 100, 11, 123, 3, .int 0, [880, 881]),
    (11, .ifCond .eq 17, 14, 28, 0, .int 0, []),
    (14, .aload_n 0, 15, 0, 0, .int 0, []),
    (15, .getfield 13, 18, 7, 2, .int 0, [758]),
    (18, .iload_n 1, 19, 1, 0, .int 0, []),
    (19, .iload_n 2, 20, 2, 0, .int 0, []),
    (20, .iload_n 3, 21, 3, 0, .int 0, []),
    (21, .invokestatic 96, 24, 121, 3, .int 0, [873, 874]),
    (24, .iaload, 25, 0, 0, .int 0, []),
    (25, .goto 8, 28, 33, 0, .int 0, [])]),
  (100000, [(28, .aload_n 0, 29, 0, 0, .int 0, []),
    (29, .iconst 1, 30, 0, 0, .int 1, []),
    (30, .invokevirtual 88, 33, 118, 2, .retAddr 7, [862, 864, 23]),
    (33, .ireturn, 34, 0, 0, .int 0, [])])]
def m_Mod_cell : xM := (xlk t_Mod_cell, [], 4, ⟨"PrePressRoomModel", "cell", "(III)I"⟩, prog_9_method_10_code, (some .int), 3, 64)
def t_Mod_isCell : List (Nat × List (Nat × xI)) := [(32, [(0, .iload_n 0, 1, 0, 0, .int 0, []),
    (1, .invokestatic 92, 4, 120, 1, .int 0, [870, 871]),
    (4, .ifCond .eq 27, 7, 31, 0, .int 0, []),
    (7, .iload_n 1, 8, 1, 0, .int 0, []),
    (8, .iconst 0, 9, 0, 0, .int 0, []),
    (9, .bipush 47, 11, 0, 0, .int 47, []),
    (11, .invokestatic 84, 14, 117, 3, .int 0, [859, 860]),
    (14, .ifCond .eq 17, 17, 31, 0, .int 0, []),
    (17, .iload_n 2, 18, 2, 0, .int 0, []),
    (18, .iconst 0, 19, 0, 0, .int 0, []),
    (19, .bipush 63, 21, 0, 0, .int 63, []),
    (21, .invokestatic 84, 24, 117, 3, .int 0, [859, 860]),
    (24, .ifCond .eq 7, 27, 31, 0, .int 0, []),
    (27, .iconst 1, 28, 0, 0, .int 1, []),
    (28, .goto 4, 31, 32, 0, .int 0, []),
    (31, .iconst 0, 32, 0, 0, .int 0, [])]),
  (100000, [(32, .ireturn, 33, 0, 0, .int 0, [])])]
def m_Mod_isCell : xM := (xlk t_Mod_isCell, [], 3, ⟨"PrePressRoomModel", "isCell", "(III)Z"⟩, prog_9_method_7_code, (some .boolean), 2, 42)
def t_Mod_grey : List (Nat × List (Nat × xI)) := [(33, [(0, .aload_n 0, 1, 0, 0, .int 0, []),
    (1, .iconst 0, 2, 0, 0, .int 0, []),
    (2, .putfield 81, 5, 7, 0, .retAddr 0, [756]),
    (5, .iload_n 1, 6, 1, 0, .int 0, []),
    (6, .iconst 0, 7, 0, 0, .int 0, []),
    (7, .bipush 100, 9, 0, 0, .int 100, []),
    (9, .invokestatic 84, 12, 117, 3, .int 0, [859, 860]),
    (12, .ifCond .eq 16, 15, 28, 0, .int 0, []),
    (15, .iload_n 2, 16, 2, 0, .int 0, []),
    (16, .sipush 200, 19, 0, 0, .int 200, []),
    (19, .sipush 1020, 22, 0, 0, .int 1020, []),
    (22, .invokestatic 84, 25, 117, 3, .int 0, [859, 860]),
    (25, .ifCond .ne 9, 28, 34, 0, .int 0, []),
    (28, .aload_n 0, 29, 0, 0, .int 0, []),
    (29, .iconst 1, 30, 0, 0, .int 1, []),
    (30, .putfield 81, 33, 7, 0, .retAddr 0, [756])]),
  (100000, [(33, .return_, 34, 0, 0, .int 0, []),
    (34, .aload_n 0, 35, 0, 0, .int 0, []),
    (35, .iload_n 1, 36, 1, 0, .int 0, []),
    (36, .putfield 103, 39, 7, 3, .retAddr 0, [759]),
    (39, .aload_n 0, 40, 0, 0, .int 0, []),
    (40, .iload_n 2, 41, 2, 0, .int 0, []),
    (41, .putfield 16, 44, 7, 4, .retAddr 0, [760]),
    (44, .return_, 45, 0, 0, .int 0, [])])]
def m_Mod_grey : xM := (xlk t_Mod_grey, [], 3, ⟨"PrePressRoomModel", "grey", "(II)V"⟩, prog_9_method_11_code, none, 1, 22)
def t_Mod_separate : List (Nat × List (Nat × xI)) := [(26, [(0, .aload_n 0, 1, 0, 0, .int 0, []),
    (1, .iconst 0, 2, 0, 0, .int 0, []),
    (2, .putfield 81, 5, 7, 0, .retAddr 0, [756]),
    (5, .iload_n 1, 6, 1, 0, .int 0, []),
    (6, .invokestatic 92, 9, 120, 1, .int 0, [870, 871]),
    (9, .ifCond .ne 9, 12, 18, 0, .int 0, []),
    (12, .aload_n 0, 13, 0, 0, .int 0, []),
    (13, .iconst 1, 14, 0, 0, .int 1, []),
    (14, .invokevirtual 88, 17, 118, 2, .retAddr 7, [862, 864, 23]),
    (17, .ireturn, 18, 0, 0, .int 0, []),
    (18, .aload_n 0, 19, 0, 0, .int 0, []),
    (19, .getfield 20, 22, 7, 5, .int 0, [761]),
    (22, .iload_n 1, 23, 1, 0, .int 0, []),
    (23, .iconst 1, 24, 0, 0, .int 1, []),
    (24, .bastore, 25, 0, 0, .int 0, []),
    (25, .aload_n 0, 26, 0, 0, .int 0, [])]),
  (51, [(26, .getfield 24, 29, 7, 6, .int 0, [762]),
    (29, .iload_n 1, 30, 1, 0, .int 0, []),
    (30, .iconst 0, 31, 0, 0, .int 0, []),
    (31, .bastore, 32, 0, 0, .int 0, []),
    (32, .iconst 0, 33, 0, 0, .int 0, []),
    (33, .istore_n 2, 34, 2, 0, .int 0, []),
    (34, .iload_n 2, 35, 2, 0, .int 0, []),
    (35, .bipush 64, 37, 0, 0, .int 64, []),
    (37, .if_icmp .ge 22, 40, 59, 0, .int 0, []),
    (40, .aload_n 0, 41, 0, 0, .int 0, []),
    (41, .iload_n 1, 42, 1, 0, .int 0, []),
    (42, .iload_n 2, 43, 2, 0, .int 0, []),
    (43, .invokevirtual 106, 46, 126, 3, .retAddr 7, [891, 893, 24]),
    (46, .aload_n 0, 47, 0, 0, .int 0, []),
    (47, .getfield 36, 50, 7, 10, .int 0, [766]),
    (50, .iload_n 2, 51, 2, 0, .int 0, [])]),
  (79, [(51, .iconst 0, 52, 0, 0, .int 0, []),
    (52, .bastore, 53, 0, 0, .int 0, []),
    (53, .iinc 2 1, 56, 2, 0, .int 1, []),
    (56, .goto (-22), 59, 34, 0, .int 0, []),
    (59, .sipush 3072, 62, 0, 0, .int 3072, []),
    (62, .iload_n 1, 63, 1, 0, .int 0, []),
    (63, .imul, 64, 0, 0, .int 0, []),
    (64, .istore_n 2, 65, 2, 0, .int 0, []),
    (65, .iload_n 2, 66, 2, 0, .int 0, []),
    (66, .sipush 3072, 69, 0, 0, .int 3072, []),
    (69, .iload_n 1, 70, 1, 0, .int 0, []),
    (70, .imul, 71, 0, 0, .int 0, []),
    (71, .sipush 3072, 74, 0, 0, .int 3072, []),
    (74, .iadd, 75, 0, 0, .int 0, []),
    (75, .if_icmp .ge 40, 78, 115, 0, .int 0, []),
    (78, .aload_n 0, 79, 0, 0, .int 0, [])]),
  (105, [(79, .getfield 27, 82, 7, 7, .int 0, [763]),
    (82, .iload_n 2, 83, 2, 0, .int 0, []),
    (83, .aload_n 0, 84, 0, 0, .int 0, []),
    (84, .getfield 13, 87, 7, 2, .int 0, [758]),
    (87, .iload_n 2, 88, 2, 0, .int 0, []),
    (88, .iaload, 89, 0, 0, .int 0, []),
    (89, .iastore, 90, 0, 0, .int 0, []),
    (90, .aload_n 0, 91, 0, 0, .int 0, []),
    (91, .getfield 33, 94, 7, 9, .int 0, [765]),
    (94, .iload_n 2, 95, 2, 0, .int 0, []),
    (95, .iconst 0, 96, 0, 0, .int 0, []),
    (96, .iastore, 97, 0, 0, .int 0, []),
    (97, .aload_n 0, 98, 0, 0, .int 0, []),
    (98, .getfield 36, 101, 7, 10, .int 0, [766]),
    (101, .aload_n 0, 102, 0, 0, .int 0, []),
    (102, .getfield 13, 105, 7, 2, .int 0, [758])]),
  (130, [(105, .iload_n 2, 106, 2, 0, .int 0, []),
    (106, .iaload, 107, 0, 0, .int 0, []),
    (107, .iconst 1, 108, 0, 0, .int 1, []),
    (108, .bastore, 109, 0, 0, .int 0, []),
    (109, .iinc 2 1, 112, 2, 0, .int 1, []),
    (112, .goto (-47), 115, 65, 0, .int 0, []),
    (115, .iconst 0, 116, 0, 0, .int 0, []),
    (116, .istore_n 2, 117, 2, 0, .int 0, []),
    (117, .iconst 0, 118, 0, 0, .int 0, []),
    (118, .istore_n 3, 119, 3, 0, .int 0, []),
    (119, .iload_n 3, 120, 3, 0, .int 0, []),
    (120, .bipush 64, 122, 0, 0, .int 64, []),
    (122, .if_icmp .ge 26, 125, 148, 0, .int 0, []),
    (125, .iload_n 2, 126, 2, 0, .int 0, []),
    (126, .aload_n 0, 127, 0, 0, .int 0, []),
    (127, .getfield 36, 130, 7, 10, .int 0, [766])]),
  (100000, [(130, .iload_n 3, 131, 3, 0, .int 0, []),
    (131, .baload, 132, 0, 0, .int 0, []),
    (132, .ifCond .eq 7, 135, 139, 0, .int 0, []),
    (135, .iconst 1, 136, 0, 0, .int 1, []),
    (136, .goto 4, 139, 140, 0, .int 0, []),
    (139, .iconst 0, 140, 0, 0, .int 0, []),
    (140, .iadd, 141, 0, 0, .int 0, []),
    (141, .istore_n 2, 142, 2, 0, .int 0, []),
    (142, .iinc 3 1, 145, 3, 0, .int 1, []),
    (145, .goto (-26), 148, 119, 0, .int 0, []),
    (148, .iload_n 2, 149, 2, 0, .int 0, []),
    (149, .ireturn, 150, 0, 0, .int 0, [])])]
def m_Mod_separate : xM := (xlk t_Mod_separate, [], 4, ⟨"PrePressRoomModel", "separate", "(I)I"⟩, prog_9_method_13_code, (some .int), 2, 42)
def t_Mod_separateColour : List (Nat × List (Nat × xI)) := [(23, [(0, .iconst 0, 1, 0, 0, .int 0, []),
    (1, .istore_n 3, 2, 3, 0, .int 0, []),
    (2, .iload_n 3, 3, 3, 0, .int 0, []),
    (3, .iconst 4, 4, 0, 0, .int 4, []),
    (4, .if_icmp .ge 26, 7, 30, 0, .int 0, []),
    (7, .aload_n 0, 8, 0, 0, .int 0, []),
    (8, .getfield 39, 11, 7, 11, .int 0, [767]),
    (11, .iload_n 3, 12, 3, 0, .int 0, []),
    (12, .aload_n 0, 13, 0, 0, .int 0, []),
    (13, .getfield 7, 16, 7, 1, .int 0, [757]),
    (16, .bipush 8, 18, 0, 0, .int 8, []),
    (18, .iload_n 2, 19, 2, 0, .int 0, []),
    (19, .imul, 20, 0, 0, .int 0, []),
    (20, .iload_n 3, 21, 3, 0, .int 0, []),
    (21, .iadd, 22, 0, 0, .int 0, []),
    (22, .iaload, 23, 0, 0, .int 0, [])]),
  (51, [(23, .iastore, 24, 0, 0, .int 0, []),
    (24, .iinc 3 1, 27, 3, 0, .int 1, []),
    (27, .goto (-25), 30, 2, 0, .int 0, []),
    (30, .aload_n 0, 31, 0, 0, .int 0, []),
    (31, .getfield 39, 34, 7, 11, .int 0, [767]),
    (34, .iconst 0, 35, 0, 0, .int 0, []),
    (35, .iaload, 36, 0, 0, .int 0, []),
    (36, .aload_n 0, 37, 0, 0, .int 0, []),
    (37, .getfield 39, 40, 7, 11, .int 0, [767]),
    (40, .iconst 1, 41, 0, 0, .int 1, []),
    (41, .iaload, 42, 0, 0, .int 0, []),
    (42, .if_icmp .ge 12, 45, 54, 0, .int 0, []),
    (45, .aload_n 0, 46, 0, 0, .int 0, []),
    (46, .getfield 39, 49, 7, 11, .int 0, [767]),
    (49, .iconst 0, 50, 0, 0, .int 0, []),
    (50, .iaload, 51, 0, 0, .int 0, [])]),
  (79, [(51, .goto 9, 54, 60, 0, .int 0, []),
    (54, .aload_n 0, 55, 0, 0, .int 0, []),
    (55, .getfield 39, 58, 7, 11, .int 0, [767]),
    (58, .iconst 1, 59, 0, 0, .int 1, []),
    (59, .iaload, 60, 0, 0, .int 0, []),
    (60, .istore_n 3, 61, 3, 0, .int 0, []),
    (61, .iload_n 3, 62, 3, 0, .int 0, []),
    (62, .aload_n 0, 63, 0, 0, .int 0, []),
    (63, .getfield 39, 66, 7, 11, .int 0, [767]),
    (66, .iconst 2, 67, 0, 0, .int 2, []),
    (67, .iaload, 68, 0, 0, .int 0, []),
    (68, .if_icmp .ge 7, 71, 75, 0, .int 0, []),
    (71, .iload_n 3, 72, 3, 0, .int 0, []),
    (72, .goto 9, 75, 81, 0, .int 0, []),
    (75, .aload_n 0, 76, 0, 0, .int 0, []),
    (76, .getfield 39, 79, 7, 11, .int 0, [767])]),
  (104, [(79, .iconst 2, 80, 0, 0, .int 2, []),
    (80, .iaload, 81, 0, 0, .int 0, []),
    (81, .istore_n 3, 82, 3, 0, .int 0, []),
    (82, .iload_n 3, 83, 3, 0, .int 0, []),
    (83, .aload_n 0, 84, 0, 0, .int 0, []),
    (84, .getfield 103, 87, 7, 3, .int 0, [759]),
    (87, .imul, 88, 0, 0, .int 0, []),
    (88, .bipush 100, 90, 0, 0, .int 100, []),
    (90, .idiv, 91, 0, 0, .int 0, []),
    (91, .istore 4, 93, 4, 0, .int 0, []),
    (93, .iload 4, 95, 4, 0, .int 0, []),
    (95, .sipush 255, 98, 0, 0, .int 255, []),
    (98, .aload_n 0, 99, 0, 0, .int 0, []),
    (99, .getfield 39, 102, 7, 11, .int 0, [767]),
    (102, .iconst 3, 103, 0, 0, .int 3, []),
    (103, .iaload, 104, 0, 0, .int 0, [])]),
  (134, [(104, .isub, 105, 0, 0, .int 0, []),
    (105, .if_icmp .le 16, 108, 121, 0, .int 0, []),
    (108, .sipush 255, 111, 0, 0, .int 255, []),
    (111, .aload_n 0, 112, 0, 0, .int 0, []),
    (112, .getfield 39, 115, 7, 11, .int 0, [767]),
    (115, .iconst 3, 116, 0, 0, .int 3, []),
    (116, .iaload, 117, 0, 0, .int 0, []),
    (117, .isub, 118, 0, 0, .int 0, []),
    (118, .goto 5, 121, 123, 0, .int 0, []),
    (121, .iload 4, 123, 4, 0, .int 0, []),
    (123, .istore 4, 125, 4, 0, .int 0, []),
    (125, .iconst 0, 126, 0, 0, .int 0, []),
    (126, .istore 5, 128, 5, 0, .int 0, []),
    (128, .iload 5, 130, 5, 0, .int 0, []),
    (130, .iconst 4, 131, 0, 0, .int 4, []),
    (131, .if_icmp .ge 33, 134, 164, 0, .int 0, [])]),
  (164, [(134, .aload_n 0, 135, 0, 0, .int 0, []),
    (135, .getfield 39, 138, 7, 11, .int 0, [767]),
    (138, .iload 5, 140, 5, 0, .int 0, []),
    (140, .dup2, 141, 0, 0, .int 0, []),
    (141, .iaload, 142, 0, 0, .int 0, []),
    (142, .iload 5, 144, 5, 0, .int 0, []),
    (144, .iconst 3, 145, 0, 0, .int 3, []),
    (145, .if_icmp .ne 8, 148, 153, 0, .int 0, []),
    (148, .iload 4, 150, 4, 0, .int 0, []),
    (150, .goto 6, 153, 156, 0, .int 0, []),
    (153, .iload 4, 155, 4, 0, .int 0, []),
    (155, .ineg, 156, 0, 0, .int 0, []),
    (156, .iadd, 157, 0, 0, .int 0, []),
    (157, .iastore, 158, 0, 0, .int 0, []),
    (158, .iinc 5 1, 161, 5, 0, .int 1, []),
    (161, .goto (-33), 164, 128, 0, .int 0, [])]),
  (188, [(164, .aload_n 0, 165, 0, 0, .int 0, []),
    (165, .getfield 39, 168, 7, 11, .int 0, [767]),
    (168, .iconst 0, 169, 0, 0, .int 0, []),
    (169, .iaload, 170, 0, 0, .int 0, []),
    (170, .aload_n 0, 171, 0, 0, .int 0, []),
    (171, .getfield 39, 174, 7, 11, .int 0, [767]),
    (174, .iconst 1, 175, 0, 0, .int 1, []),
    (175, .iaload, 176, 0, 0, .int 0, []),
    (176, .iadd, 177, 0, 0, .int 0, []),
    (177, .aload_n 0, 178, 0, 0, .int 0, []),
    (178, .getfield 39, 181, 7, 11, .int 0, [767]),
    (181, .iconst 2, 182, 0, 0, .int 2, []),
    (182, .iaload, 183, 0, 0, .int 0, []),
    (183, .iadd, 184, 0, 0, .int 0, []),
    (184, .istore 5, 186, 5, 0, .int 0, []),
    (186, .iload 5, 188, 5, 0, .int 0, [])]),
  (216, [(188, .aload_n 0, 189, 0, 0, .int 0, []),
    (189, .getfield 39, 192, 7, 11, .int 0, [767]),
    (192, .iconst 3, 193, 0, 0, .int 3, []),
    (193, .iaload, 194, 0, 0, .int 0, []),
    (194, .iadd, 195, 0, 0, .int 0, []),
    (195, .aload_n 0, 196, 0, 0, .int 0, []),
    (196, .getfield 16, 199, 7, 4, .int 0, [760]),
    (199, .if_icmp .le 77, 202, 276, 0, .int 0, []),
    (202, .aload_n 0, 203, 0, 0, .int 0, []),
    (203, .getfield 16, 206, 7, 4, .int 0, [760]),
    (206, .aload_n 0, 207, 0, 0, .int 0, []),
    (207, .getfield 39, 210, 7, 11, .int 0, [767]),
    (210, .iconst 3, 211, 0, 0, .int 3, []),
    (211, .iaload, 212, 0, 0, .int 0, []),
    (212, .if_icmp .le 17, 215, 229, 0, .int 0, []),
    (215, .aload_n 0, 216, 0, 0, .int 0, [])]),
  (245, [(216, .getfield 16, 219, 7, 4, .int 0, [760]),
    (219, .aload_n 0, 220, 0, 0, .int 0, []),
    (220, .getfield 39, 223, 7, 11, .int 0, [767]),
    (223, .iconst 3, 224, 0, 0, .int 3, []),
    (224, .iaload, 225, 0, 0, .int 0, []),
    (225, .isub, 226, 0, 0, .int 0, []),
    (226, .goto 4, 229, 230, 0, .int 0, []),
    (229, .iconst 0, 230, 0, 0, .int 0, []),
    (230, .istore 6, 232, 6, 0, .int 0, []),
    (232, .iconst 0, 233, 0, 0, .int 0, []),
    (233, .istore 7, 235, 7, 0, .int 0, []),
    (235, .iload 7, 237, 7, 0, .int 0, []),
    (237, .iconst 3, 238, 0, 0, .int 3, []),
    (238, .if_icmp .ge 38, 241, 276, 0, .int 0, []),
    (241, .aload_n 0, 242, 0, 0, .int 0, []),
    (242, .getfield 39, 245, 7, 11, .int 0, [767])]),
  (276, [(245, .iload 7, 247, 7, 0, .int 0, []),
    (247, .iload 5, 249, 5, 0, .int 0, []),
    (249, .ifCond .ne 7, 252, 256, 0, .int 0, []),
    (252, .iconst 0, 253, 0, 0, .int 0, []),
    (253, .goto 16, 256, 269, 0, .int 0, []),
    (256, .aload_n 0, 257, 0, 0, .int 0, []),
    (257, .getfield 39, 260, 7, 11, .int 0, [767]),
    (260, .iload 7, 262, 7, 0, .int 0, []),
    (262, .iaload, 263, 0, 0, .int 0, []),
    (263, .iload 6, 265, 6, 0, .int 0, []),
    (265, .imul, 266, 0, 0, .int 0, []),
    (266, .iload 5, 268, 5, 0, .int 0, []),
    (268, .idiv, 269, 0, 0, .int 0, []),
    (269, .iastore, 270, 0, 0, .int 0, []),
    (270, .iinc 7 1, 273, 7, 0, .int 1, []),
    (273, .goto (-38), 276, 235, 0, .int 0, [])]),
  (303, [(276, .iconst 0, 277, 0, 0, .int 0, []),
    (277, .istore 6, 279, 6, 0, .int 0, []),
    (279, .iload 6, 281, 6, 0, .int 0, []),
    (281, .bipush 8, 283, 0, 0, .int 8, []),
    (283, .if_icmp .ge 55, 286, 338, 0, .int 0, []),
    (286, .aload_n 0, 287, 0, 0, .int 0, []),
    (287, .getfield 30, 290, 7, 8, .int 0, [764]),
    (290, .sipush 512, 293, 0, 0, .int 512, []),
    (293, .iload_n 1, 294, 1, 0, .int 0, []),
    (294, .imul, 295, 0, 0, .int 0, []),
    (295, .bipush 8, 297, 0, 0, .int 8, []),
    (297, .iload_n 2, 298, 2, 0, .int 0, []),
    (298, .imul, 299, 0, 0, .int 0, []),
    (299, .iadd, 300, 0, 0, .int 0, []),
    (300, .iload 6, 302, 6, 0, .int 0, []),
    (302, .iadd, 303, 0, 0, .int 0, [])]),
  (331, [(303, .iload 6, 305, 6, 0, .int 0, []),
    (305, .iconst 4, 306, 0, 0, .int 4, []),
    (306, .if_icmp .ge 13, 309, 319, 0, .int 0, []),
    (309, .aload_n 0, 310, 0, 0, .int 0, []),
    (310, .getfield 39, 313, 7, 11, .int 0, [767]),
    (313, .iload 6, 315, 6, 0, .int 0, []),
    (315, .iaload, 316, 0, 0, .int 0, []),
    (316, .goto 15, 319, 331, 0, .int 0, []),
    (319, .aload_n 0, 320, 0, 0, .int 0, []),
    (320, .getfield 7, 323, 7, 1, .int 0, [757]),
    (323, .bipush 8, 325, 0, 0, .int 8, []),
    (325, .iload_n 2, 326, 2, 0, .int 0, []),
    (326, .imul, 327, 0, 0, .int 0, []),
    (327, .iload 6, 329, 6, 0, .int 0, []),
    (329, .iadd, 330, 0, 0, .int 0, []),
    (330, .iaload, 331, 0, 0, .int 0, [])]),
  (100000, [(331, .iastore, 332, 0, 0, .int 0, []),
    (332, .iinc 6 1, 335, 6, 0, .int 1, []),
    (335, .goto (-56), 338, 279, 0, .int 0, []),
    (338, .return_, 339, 0, 0, .int 0, [])])]
def m_Mod_separateColour : xM := (xlk t_Mod_separateColour, [], 8, ⟨"PrePressRoomModel", "separateColour", "(II)V"⟩, prog_9_method_12_code, none, 0, 0)
def t_Mod_plate : List (Nat × List (Nat × xI)) := [(26, [(0, .aload_n 0, 1, 0, 0, .int 0, []),
    (1, .iconst 0, 2, 0, 0, .int 0, []),
    (2, .putfield 81, 5, 7, 0, .retAddr 0, [756]),
    (5, .aload_n 0, 6, 0, 0, .int 0, []),
    (6, .iload_n 1, 7, 1, 0, .int 0, []),
    (7, .iload_n 2, 8, 2, 0, .int 0, []),
    (8, .iload_n 3, 9, 3, 0, .int 0, []),
    (9, .iload 4, 11, 4, 0, .int 0, []),
    (11, .invokevirtual 113, 14, 128, 5, .retAddr 7, [899, 901, 25]),
    (14, .ifCond .eq 15, 17, 29, 0, .int 0, []),
    (17, .aload_n 0, 18, 0, 0, .int 0, []),
    (18, .iload_n 1, 19, 1, 0, .int 0, []),
    (19, .iload_n 2, 20, 2, 0, .int 0, []),
    (20, .iload_n 3, 21, 3, 0, .int 0, []),
    (21, .iload 4, 23, 4, 0, .int 0, []),
    (23, .invokevirtual 117, 26, 129, 5, .retAddr 7, [903, 905, 26])]),
  (100000, [(26, .goto 4, 29, 30, 0, .int 0, []),
    (29, .iconst 0, 30, 0, 0, .int 0, []),
    (30, .ireturn, 31, 0, 0, .int 0, [])])]
def m_Mod_plate : xM := (xlk t_Mod_plate, [], 5, ⟨"PrePressRoomModel", "plate", "(IIII)I"⟩, prog_9_method_17_code, (some .int), 4, 88)
def t_Mod_has : List (Nat × List (Nat × xI)) := [(32, [(0, .iload_n 1, 1, 1, 0, .int 0, []),
    (1, .iload_n 3, 2, 3, 0, .int 0, []),
    (2, .iload 4, 4, 4, 0, .int 0, []),
    (4, .invokestatic 100, 7, 123, 3, .int 0, [880, 881]),
    (7, .ifCond .eq 13, 10, 20, 0, .int 0, []),
    (10, .iload_n 2, 11, 2, 0, .int 0, []),
    (11, .iconst 0, 12, 0, 0, .int 0, []),
    (12, .bipush 7, 14, 0, 0, .int 7, []),
    (14, .invokestatic 84, 17, 117, 3, .int 0, [859, 860]),
    (17, .ifCond .ne 11, 20, 28, 0, .int 0, []),
    (20, .aload_n 0, 21, 0, 0, .int 0, []),
    (21, .iconst 1, 22, 0, 0, .int 1, []),
    (22, .putfield 81, 25, 7, 0, .retAddr 0, [756]),
    (25, .goto 17, 28, 42, 0, .int 0, []),
    (28, .aload_n 0, 29, 0, 0, .int 0, []),
    (29, .getfield 20, 32, 7, 5, .int 0, [761])]),
  (100000, [(32, .iload_n 1, 33, 1, 0, .int 0, []),
    (33, .baload, 34, 0, 0, .int 0, []),
    (34, .ifCond .ne 8, 37, 42, 0, .int 0, []),
    (37, .aload_n 0, 38, 0, 0, .int 0, []),
    (38, .iconst 2, 39, 0, 0, .int 2, []),
    (39, .putfield 81, 42, 7, 0, .retAddr 0, [756]),
    (42, .aload_n 0, 43, 0, 0, .int 0, []),
    (43, .getfield 81, 46, 7, 0, .int 0, [756]),
    (46, .ifCond .ne 7, 49, 53, 0, .int 0, []),
    (49, .iconst 1, 50, 0, 0, .int 1, []),
    (50, .goto 4, 53, 54, 0, .int 0, []),
    (53, .iconst 0, 54, 0, 0, .int 0, []),
    (54, .ireturn, 55, 0, 0, .int 0, [])])]
def m_Mod_has : xM := (xlk t_Mod_has, [], 5, ⟨"PrePressRoomModel", "has", "(IIII)Z"⟩, prog_9_method_16_code, (some .boolean), 3, 64)
def t_Mod_amountAt : List (Nat × List (Nat × xI)) := [(26, [(0, .aload_n 0, 1, 0, 0, .int 0, []),
    (1, .iload_n 1, 2, 1, 0, .int 0, []),
    (2, .aload_n 0, 3, 0, 0, .int 0, []),
    (3, .getfield 27, 6, 7, 7, .int 0, [763]),
    (6, .iload_n 1, 7, 1, 0, .int 0, []),
    (7, .iload_n 3, 8, 3, 0, .int 0, []),
    (8, .iload 4, 10, 4, 0, .int 0, []),
    (10, .invokestatic 96, 13, 121, 3, .int 0, [873, 874]),
    (13, .iaload, 14, 0, 0, .int 0, []),
    (14, .iload_n 2, 15, 2, 0, .int 0, []),
    (15, .invokevirtual 110, 18, 130, 4, .retAddr 7, [907, 909, 27]),
    (18, .istore 5, 20, 5, 0, .int 0, []),
    (20, .aload_n 0, 21, 0, 0, .int 0, []),
    (21, .getfield 33, 24, 7, 9, .int 0, [765]),
    (24, .iload_n 1, 25, 1, 0, .int 0, []),
    (25, .iload_n 3, 26, 3, 0, .int 0, [])]),
  (55, [(26, .iload 4, 28, 4, 0, .int 0, []),
    (28, .invokestatic 96, 31, 121, 3, .int 0, [873, 874]),
    (31, .iaload, 32, 0, 0, .int 0, []),
    (32, .istore 6, 34, 6, 0, .int 0, []),
    (34, .iload 6, 36, 6, 0, .int 0, []),
    (36, .ifCond .le 16, 39, 52, 0, .int 0, []),
    (39, .aload_n 0, 40, 0, 0, .int 0, []),
    (40, .iload_n 1, 41, 1, 0, .int 0, []),
    (41, .iload 6, 43, 6, 0, .int 0, []),
    (43, .iconst 1, 44, 0, 0, .int 1, []),
    (44, .isub, 45, 0, 0, .int 0, []),
    (45, .iload_n 2, 46, 2, 0, .int 0, []),
    (46, .invokevirtual 110, 49, 130, 4, .retAddr 7, [907, 909, 27]),
    (49, .goto 4, 52, 53, 0, .int 0, []),
    (52, .iconst 0, 53, 0, 0, .int 0, []),
    (53, .istore 7, 55, 7, 0, .int 0, [])]),
  (100000, [(55, .iload 7, 57, 7, 0, .int 0, []),
    (57, .iload 5, 59, 5, 0, .int 0, []),
    (59, .if_icmp .le 8, 62, 67, 0, .int 0, []),
    (62, .iload 7, 64, 7, 0, .int 0, []),
    (64, .goto 5, 67, 69, 0, .int 0, []),
    (67, .iload 5, 69, 5, 0, .int 0, []),
    (69, .ireturn, 70, 0, 0, .int 0, [])])]
def m_Mod_amountAt : xM := (xlk t_Mod_amountAt, [], 8, ⟨"PrePressRoomModel", "amountAt", "(IIII)I"⟩, prog_9_method_15_code, (some .int), 1, 23)
def t_Mod_amount : List (Nat × List (Nat × xI)) := [(100000, [(0, .aload_n 0, 1, 0, 0, .int 0, []),
    (1, .getfield 30, 4, 7, 8, .int 0, [764]),
    (4, .sipush 512, 7, 0, 0, .int 512, []),
    (7, .iload_n 1, 8, 1, 0, .int 0, []),
    (8, .imul, 9, 0, 0, .int 0, []),
    (9, .bipush 8, 11, 0, 0, .int 8, []),
    (11, .iload_n 2, 12, 2, 0, .int 0, []),
    (12, .imul, 13, 0, 0, .int 0, []),
    (13, .iadd, 14, 0, 0, .int 0, []),
    (14, .iload_n 3, 15, 3, 0, .int 0, []),
    (15, .iadd, 16, 0, 0, .int 0, []),
    (16, .iaload, 17, 0, 0, .int 0, []),
    (17, .ireturn, 18, 0, 0, .int 0, [])])]
def m_Mod_amount : xM := (xlk t_Mod_amount, [], 4, ⟨"PrePressRoomModel", "amount", "(III)I"⟩, prog_9_method_14_code, (some .int), 0, 0)
def t_Mod_trap : List (Nat × List (Nat × xI)) := [(28, [(0, .aload_n 0, 1, 0, 0, .int 0, []),
    (1, .iconst 0, 2, 0, 0, .int 0, []),
    (2, .putfield 81, 5, 7, 0, .retAddr 0, [756]),
    (5, .iload_n 1, 6, 1, 0, .int 0, []),
    (6, .invokestatic 92, 9, 120, 1, .int 0, [870, 871]),
    (9, .ifCond .ne 9, 12, 18, 0, .int 0, []),
    (12, .aload_n 0, 13, 0, 0, .int 0, []),
    (13, .iconst 1, 14, 0, 0, .int 1, []),
    (14, .invokevirtual 88, 17, 118, 2, .retAddr 7, [862, 864, 23]),
    (17, .ireturn, 18, 0, 0, .int 0, []),
    (18, .iload_n 2, 19, 2, 0, .int 0, []),
    (19, .iconst 1, 20, 0, 0, .int 1, []),
    (20, .iconst 3, 21, 0, 0, .int 3, []),
    (21, .invokestatic 84, 24, 117, 3, .int 0, [859, 860]),
    (24, .ifCond .ne 9, 27, 33, 0, .int 0, []),
    (27, .aload_n 0, 28, 0, 0, .int 0, [])]),
  (56, [(28, .iconst 2, 29, 0, 0, .int 2, []),
    (29, .invokevirtual 88, 32, 118, 2, .retAddr 7, [862, 864, 23]),
    (32, .ireturn, 33, 0, 0, .int 0, []),
    (33, .aload_n 0, 34, 0, 0, .int 0, []),
    (34, .getfield 20, 37, 7, 5, .int 0, [761]),
    (37, .iload_n 1, 38, 1, 0, .int 0, []),
    (38, .baload, 39, 0, 0, .int 0, []),
    (39, .ifCond .eq 12, 42, 51, 0, .int 0, []),
    (42, .aload_n 0, 43, 0, 0, .int 0, []),
    (43, .getfield 24, 46, 7, 6, .int 0, [762]),
    (46, .iload_n 1, 47, 1, 0, .int 0, []),
    (47, .baload, 48, 0, 0, .int 0, []),
    (48, .ifCond .eq 9, 51, 57, 0, .int 0, []),
    (51, .aload_n 0, 52, 0, 0, .int 0, []),
    (52, .iconst 3, 53, 0, 0, .int 3, []),
    (53, .invokevirtual 88, 56, 118, 2, .retAddr 7, [862, 864, 23])]),
  (81, [(56, .ireturn, 57, 0, 0, .int 0, []),
    (57, .aload_n 0, 58, 0, 0, .int 0, []),
    (58, .getfield 24, 61, 7, 6, .int 0, [762]),
    (61, .iload_n 1, 62, 1, 0, .int 0, []),
    (62, .iconst 1, 63, 0, 0, .int 1, []),
    (63, .bastore, 64, 0, 0, .int 0, []),
    (64, .iconst 0, 65, 0, 0, .int 0, []),
    (65, .istore_n 3, 66, 3, 0, .int 0, []),
    (66, .iconst 0, 67, 0, 0, .int 0, []),
    (67, .istore 4, 69, 4, 0, .int 0, []),
    (69, .iload 4, 71, 4, 0, .int 0, []),
    (71, .bipush 64, 73, 0, 0, .int 64, []),
    (73, .if_icmp .ge 67, 76, 140, 0, .int 0, []),
    (76, .iconst 0, 77, 0, 0, .int 0, []),
    (77, .istore 5, 79, 5, 0, .int 0, []),
    (79, .iload 5, 81, 5, 0, .int 0, [])]),
  (112, [(81, .bipush 48, 83, 0, 0, .int 48, []),
    (83, .if_icmp .ge 51, 86, 134, 0, .int 0, []),
    (86, .aload_n 0, 87, 0, 0, .int 0, []),
    (87, .iload_n 1, 88, 1, 0, .int 0, []),
    (88, .iload 5, 90, 5, 0, .int 0, []),
    (90, .iload 4, 92, 4, 0, .int 0, []),
    (92, .iload_n 2, 93, 2, 0, .int 0, []),
    (93, .invokevirtual 131, 96, 132, 5, .retAddr 7, [915, 917, 28]),
    (96, .istore 6, 98, 6, 0, .int 0, []),
    (98, .aload_n 0, 99, 0, 0, .int 0, []),
    (99, .getfield 33, 102, 7, 9, .int 0, [765]),
    (102, .iload_n 1, 103, 1, 0, .int 0, []),
    (103, .iload 5, 105, 5, 0, .int 0, []),
    (105, .iload 4, 107, 4, 0, .int 0, []),
    (107, .invokestatic 96, 110, 121, 3, .int 0, [873, 874]),
    (110, .iload 6, 112, 6, 0, .int 0, [])]),
  (141, [(112, .iconst 1, 113, 0, 0, .int 1, []),
    (113, .iadd, 114, 0, 0, .int 0, []),
    (114, .iastore, 115, 0, 0, .int 0, []),
    (115, .iload_n 3, 116, 3, 0, .int 0, []),
    (116, .iload 6, 118, 6, 0, .int 0, []),
    (118, .ifCond .lt 7, 121, 125, 0, .int 0, []),
    (121, .iconst 1, 122, 0, 0, .int 1, []),
    (122, .goto 4, 125, 126, 0, .int 0, []),
    (125, .iconst 0, 126, 0, 0, .int 0, []),
    (126, .iadd, 127, 0, 0, .int 0, []),
    (127, .istore_n 3, 128, 3, 0, .int 0, []),
    (128, .iinc 5 1, 131, 5, 0, .int 1, []),
    (131, .goto (-52), 134, 79, 0, .int 0, []),
    (134, .iinc 4 1, 137, 4, 0, .int 1, []),
    (137, .goto (-68), 140, 69, 0, .int 0, []),
    (140, .iload_n 3, 141, 3, 0, .int 0, [])]),
  (100000, [(141, .ireturn, 142, 0, 0, .int 0, [])])]
def m_Mod_trap : xM := (xlk t_Mod_trap, [], 7, ⟨"PrePressRoomModel", "trap", "(II)I"⟩, prog_9_method_22_code, (some .int), 4, 103)
def t_Mod_spreading : List (Nat × List (Nat × xI)) := [(27, [(0, .aload_n 0, 1, 0, 0, .int 0, []),
    (1, .getfield 27, 4, 7, 7, .int 0, [763]),
    (4, .iload_n 1, 5, 1, 0, .int 0, []),
    (5, .iload_n 2, 6, 2, 0, .int 0, []),
    (6, .iload_n 3, 7, 3, 0, .int 0, []),
    (7, .invokestatic 96, 10, 121, 3, .int 0, [873, 874]),
    (10, .iaload, 11, 0, 0, .int 0, []),
    (11, .istore 5, 13, 5, 0, .int 0, []),
    (13, .iconst 1, 14, 0, 0, .int 1, []),
    (14, .istore 6, 16, 6, 0, .int 0, []),
    (16, .iload 6, 18, 6, 0, .int 0, []),
    (18, .iload 4, 20, 4, 0, .int 0, []),
    (20, .if_icmp .gt 188, 23, 208, 0, .int 0, []),
    (23, .iconst (-1), 24, 0, 0, .int (-1), []),
    (24, .istore 7, 26, 7, 0, .int 0, []),
    (26, .iload_n 3, 27, 3, 0, .int 0, [])]),
  (53, [(27, .iload 6, 29, 6, 0, .int 0, []),
    (29, .isub, 30, 0, 0, .int 0, []),
    (30, .istore 8, 32, 8, 0, .int 0, []),
    (32, .iload 8, 34, 8, 0, .int 0, []),
    (34, .iload_n 3, 35, 3, 0, .int 0, []),
    (35, .iload 6, 37, 6, 0, .int 0, []),
    (37, .iadd, 38, 0, 0, .int 0, []),
    (38, .if_icmp .gt 156, 41, 194, 0, .int 0, []),
    (41, .iload_n 2, 42, 2, 0, .int 0, []),
    (42, .iload 6, 44, 6, 0, .int 0, []),
    (44, .isub, 45, 0, 0, .int 0, []),
    (45, .istore 9, 47, 9, 0, .int 0, []),
    (47, .iload 9, 49, 9, 0, .int 0, []),
    (49, .iload_n 2, 50, 2, 0, .int 0, []),
    (50, .iload 6, 52, 6, 0, .int 0, []),
    (52, .iadd, 53, 0, 0, .int 0, [])]),
  (83, [(53, .if_icmp .gt 135, 56, 188, 0, .int 0, []),
    (56, .iload 8, 58, 8, 0, .int 0, []),
    (58, .iload_n 3, 59, 3, 0, .int 0, []),
    (59, .iload 6, 61, 6, 0, .int 0, []),
    (61, .isub, 62, 0, 0, .int 0, []),
    (62, .if_icmp .eq 30, 65, 92, 0, .int 0, []),
    (65, .iload 8, 67, 8, 0, .int 0, []),
    (67, .iload_n 3, 68, 3, 0, .int 0, []),
    (68, .iload 6, 70, 6, 0, .int 0, []),
    (70, .iadd, 71, 0, 0, .int 0, []),
    (71, .if_icmp .eq 21, 74, 92, 0, .int 0, []),
    (74, .iload 9, 76, 9, 0, .int 0, []),
    (76, .iload_n 2, 77, 2, 0, .int 0, []),
    (77, .iload 6, 79, 6, 0, .int 0, []),
    (79, .isub, 80, 0, 0, .int 0, []),
    (80, .if_icmp .eq 12, 83, 92, 0, .int 0, [])]),
  (115, [(83, .iload 9, 85, 9, 0, .int 0, []),
    (85, .iload_n 2, 86, 2, 0, .int 0, []),
    (86, .iload 6, 88, 6, 0, .int 0, []),
    (88, .iadd, 89, 0, 0, .int 0, []),
    (89, .if_icmp .ne 7, 92, 96, 0, .int 0, []),
    (92, .iconst 1, 93, 0, 0, .int 1, []),
    (93, .goto 4, 96, 97, 0, .int 0, []),
    (96, .iconst 0, 97, 0, 0, .int 0, []),
    (97, .istore 10, 99, 10, 0, .int 0, []),
    (99, .iload 10, 101, 10, 0, .int 0, []),
    (101, .ifCond .eq 30, 104, 131, 0, .int 0, []),
    (104, .iload_n 1, 105, 1, 0, .int 0, []),
    (105, .iload 9, 107, 9, 0, .int 0, []),
    (107, .iload 8, 109, 8, 0, .int 0, []),
    (109, .invokestatic 100, 112, 123, 3, .int 0, [880, 881]),
    (112, .ifCond .eq 19, 115, 131, 0, .int 0, [])]),
  (149, [(115, .aload_n 0, 116, 0, 0, .int 0, []),
    (116, .getfield 27, 119, 7, 7, .int 0, [763]),
    (119, .iload_n 1, 120, 1, 0, .int 0, []),
    (120, .iload 9, 122, 9, 0, .int 0, []),
    (122, .iload 8, 124, 8, 0, .int 0, []),
    (124, .invokestatic 96, 127, 121, 3, .int 0, [873, 874]),
    (127, .iaload, 128, 0, 0, .int 0, []),
    (128, .goto 5, 131, 133, 0, .int 0, []),
    (131, .iload 5, 133, 5, 0, .int 0, []),
    (133, .istore 11, 135, 11, 0, .int 0, []),
    (135, .iload 11, 137, 11, 0, .int 0, []),
    (137, .iload 5, 139, 5, 0, .int 0, []),
    (139, .if_icmp .eq 43, 142, 182, 0, .int 0, []),
    (142, .iload 7, 144, 7, 0, .int 0, []),
    (144, .ifCond .lt 10, 147, 154, 0, .int 0, []),
    (147, .iload 11, 149, 11, 0, .int 0, [])]),
  (182, [(149, .iload 7, 151, 7, 0, .int 0, []),
    (151, .if_icmp .ge 31, 154, 182, 0, .int 0, []),
    (154, .aload_n 0, 155, 0, 0, .int 0, []),
    (155, .iload_n 1, 156, 1, 0, .int 0, []),
    (156, .iload 11, 158, 11, 0, .int 0, []),
    (158, .iload 5, 160, 5, 0, .int 0, []),
    (160, .invokevirtual 125, 163, 133, 4, .retAddr 7, [919, 921, 29]),
    (163, .ifCond .eq 19, 166, 182, 0, .int 0, []),
    (166, .aload_n 0, 167, 0, 0, .int 0, []),
    (167, .iload_n 1, 168, 1, 0, .int 0, []),
    (168, .iload 11, 170, 11, 0, .int 0, []),
    (170, .iload 5, 172, 5, 0, .int 0, []),
    (172, .invokevirtual 128, 175, 135, 4, .retAddr 7, [927, 929, 31]),
    (175, .ifCond .eq 7, 178, 182, 0, .int 0, []),
    (178, .iload 11, 180, 11, 0, .int 0, []),
    (180, .istore 7, 182, 7, 0, .int 0, [])]),
  (100000, [(182, .iinc 9 1, 185, 9, 0, .int 1, []),
    (185, .goto (-138), 188, 47, 0, .int 0, []),
    (188, .iinc 8 1, 191, 8, 0, .int 1, []),
    (191, .goto (-159), 194, 32, 0, .int 0, []),
    (194, .iload 7, 196, 7, 0, .int 0, []),
    (196, .ifCond .lt 6, 199, 202, 0, .int 0, []),
    (199, .iload 7, 201, 7, 0, .int 0, []),
    (201, .ireturn, 202, 0, 0, .int 0, []),
    (202, .iinc 6 1, 205, 6, 0, .int 1, []),
    (205, .goto (-189), 208, 16, 0, .int 0, []),
    (208, .iconst (-1), 209, 0, 0, .int (-1), []),
    (209, .ireturn, 210, 0, 0, .int 0, [])])]
def m_Mod_spreading : xM := (xlk t_Mod_spreading, [], 12, ⟨"PrePressRoomModel", "spreading", "(IIII)I"⟩, prog_9_method_21_code, (some .int), 3, 72)
def t_Mod_isLighter : List (Nat × List (Nat × xI)) := [(30, [(0, .aload_n 0, 1, 0, 0, .int 0, []),
    (1, .iload_n 1, 2, 1, 0, .int 0, []),
    (2, .iload_n 2, 3, 2, 0, .int 0, []),
    (3, .invokevirtual 121, 6, 134, 3, .retAddr 7, [923, 925, 30]),
    (6, .istore 4, 8, 4, 0, .int 0, []),
    (8, .aload_n 0, 9, 0, 0, .int 0, []),
    (9, .iload_n 1, 10, 1, 0, .int 0, []),
    (10, .iload_n 3, 11, 3, 0, .int 0, []),
    (11, .invokevirtual 121, 14, 134, 3, .retAddr 7, [923, 925, 30]),
    (14, .istore 5, 16, 5, 0, .int 0, []),
    (16, .iload 4, 18, 4, 0, .int 0, []),
    (18, .iload 5, 20, 5, 0, .int 0, []),
    (20, .if_icmp .lt 15, 23, 35, 0, .int 0, []),
    (23, .iload 4, 25, 4, 0, .int 0, []),
    (25, .iload 5, 27, 5, 0, .int 0, []),
    (27, .if_icmp .ne 12, 30, 39, 0, .int 0, [])]),
  (100000, [(30, .iload_n 2, 31, 2, 0, .int 0, []),
    (31, .iload_n 3, 32, 3, 0, .int 0, []),
    (32, .if_icmp .ge 7, 35, 39, 0, .int 0, []),
    (35, .iconst 1, 36, 0, 0, .int 1, []),
    (36, .goto 4, 39, 40, 0, .int 0, []),
    (39, .iconst 0, 40, 0, 0, .int 0, []),
    (40, .ireturn, 41, 0, 0, .int 0, [])])]
def m_Mod_isLighter : xM := (xlk t_Mod_isLighter, [], 6, ⟨"PrePressRoomModel", "isLighter", "(III)Z"⟩, prog_9_method_20_code, (some .boolean), 2, 47)
def t_Mod_weight : List (Nat × List (Nat × xI)) := [(28, [(0, .iconst 0, 1, 0, 0, .int 0, []),
    (1, .istore_n 3, 2, 3, 0, .int 0, []),
    (2, .iconst 0, 3, 0, 0, .int 0, []),
    (3, .istore 4, 5, 4, 0, .int 0, []),
    (5, .iload 4, 7, 4, 0, .int 0, []),
    (7, .bipush 8, 9, 0, 0, .int 8, []),
    (9, .if_icmp .ge 66, 12, 75, 0, .int 0, []),
    (12, .iload_n 3, 13, 3, 0, .int 0, []),
    (13, .aload_n 0, 14, 0, 0, .int 0, []),
    (14, .iload_n 1, 15, 1, 0, .int 0, []),
    (15, .iload_n 2, 16, 2, 0, .int 0, []),
    (16, .iload 4, 18, 4, 0, .int 0, []),
    (18, .invokevirtual 110, 21, 130, 4, .retAddr 7, [907, 909, 27]),
    (21, .iload 4, 23, 4, 0, .int 0, []),
    (23, .ifCond .ne 8, 26, 31, 0, .int 0, []),
    (26, .bipush 30, 28, 0, 0, .int 30, [])]),
  (64, [(28, .goto 38, 31, 66, 0, .int 0, []),
    (31, .iload 4, 33, 4, 0, .int 0, []),
    (33, .iconst 1, 34, 0, 0, .int 1, []),
    (34, .if_icmp .ne 8, 37, 42, 0, .int 0, []),
    (37, .bipush 59, 39, 0, 0, .int 59, []),
    (39, .goto 27, 42, 66, 0, .int 0, []),
    (42, .iload 4, 44, 4, 0, .int 0, []),
    (44, .iconst 2, 45, 0, 0, .int 2, []),
    (45, .if_icmp .ne 8, 48, 53, 0, .int 0, []),
    (48, .bipush 11, 50, 0, 0, .int 11, []),
    (50, .goto 16, 53, 66, 0, .int 0, []),
    (53, .iload 4, 55, 4, 0, .int 0, []),
    (55, .iconst 3, 56, 0, 0, .int 3, []),
    (56, .if_icmp .ne 8, 59, 64, 0, .int 0, []),
    (59, .bipush 100, 61, 0, 0, .int 100, []),
    (61, .goto 5, 64, 66, 0, .int 0, [])]),
  (100000, [(64, .bipush 50, 66, 0, 0, .int 50, []),
    (66, .imul, 67, 0, 0, .int 0, []),
    (67, .iadd, 68, 0, 0, .int 0, []),
    (68, .istore_n 3, 69, 3, 0, .int 0, []),
    (69, .iinc 4 1, 72, 4, 0, .int 1, []),
    (72, .goto (-67), 75, 5, 0, .int 0, []),
    (75, .iload_n 3, 76, 3, 0, .int 0, []),
    (76, .ireturn, 77, 0, 0, .int 0, [])])]
def m_Mod_weight : xM := (xlk t_Mod_weight, [], 5, ⟨"PrePressRoomModel", "weight", "(II)I"⟩, prog_9_method_19_code, (some .int), 1, 23)
def t_Mod_isShy : List (Nat × List (Nat × xI)) := [(27, [(0, .iconst 0, 1, 0, 0, .int 0, []),
    (1, .istore 4, 3, 4, 0, .int 0, []),
    (3, .iconst 0, 4, 0, 0, .int 0, []),
    (4, .istore 5, 6, 5, 0, .int 0, []),
    (6, .iconst 0, 7, 0, 0, .int 0, []),
    (7, .istore 6, 9, 6, 0, .int 0, []),
    (9, .iconst 0, 10, 0, 0, .int 0, []),
    (10, .istore 7, 12, 7, 0, .int 0, []),
    (12, .iload 7, 14, 7, 0, .int 0, []),
    (14, .bipush 8, 16, 0, 0, .int 8, []),
    (16, .if_icmp .ge 105, 19, 121, 0, .int 0, []),
    (19, .aload_n 0, 20, 0, 0, .int 0, []),
    (20, .iload_n 1, 21, 1, 0, .int 0, []),
    (21, .iload_n 2, 22, 2, 0, .int 0, []),
    (22, .iload 7, 24, 7, 0, .int 0, []),
    (24, .invokevirtual 110, 27, 130, 4, .retAddr 7, [907, 909, 27])]),
  (57, [(27, .bipush 64, 29, 0, 0, .int 64, []),
    (29, .if_icmp .lt 7, 32, 36, 0, .int 0, []),
    (32, .iconst 1, 33, 0, 0, .int 1, []),
    (33, .goto 4, 36, 37, 0, .int 0, []),
    (36, .iconst 0, 37, 0, 0, .int 0, []),
    (37, .istore 8, 39, 8, 0, .int 0, []),
    (39, .aload_n 0, 40, 0, 0, .int 0, []),
    (40, .iload_n 1, 41, 1, 0, .int 0, []),
    (41, .iload_n 3, 42, 3, 0, .int 0, []),
    (42, .iload 7, 44, 7, 0, .int 0, []),
    (44, .invokevirtual 110, 47, 130, 4, .retAddr 7, [907, 909, 27]),
    (47, .bipush 64, 49, 0, 0, .int 64, []),
    (49, .if_icmp .lt 7, 52, 56, 0, .int 0, []),
    (52, .iconst 1, 53, 0, 0, .int 1, []),
    (53, .goto 4, 56, 57, 0, .int 0, []),
    (56, .iconst 0, 57, 0, 0, .int 0, [])]),
  (91, [(57, .istore 9, 59, 9, 0, .int 0, []),
    (59, .iload 4, 61, 4, 0, .int 0, []),
    (61, .ifCond .ne 8, 64, 69, 0, .int 0, []),
    (64, .iload 8, 66, 8, 0, .int 0, []),
    (66, .ifCond .eq 7, 69, 73, 0, .int 0, []),
    (69, .iconst 1, 70, 0, 0, .int 1, []),
    (70, .goto 4, 73, 74, 0, .int 0, []),
    (73, .iconst 0, 74, 0, 0, .int 0, []),
    (74, .istore 4, 76, 4, 0, .int 0, []),
    (76, .iload 5, 78, 5, 0, .int 0, []),
    (78, .ifCond .ne 8, 81, 86, 0, .int 0, []),
    (81, .iload 9, 83, 9, 0, .int 0, []),
    (83, .ifCond .eq 7, 86, 90, 0, .int 0, []),
    (86, .iconst 1, 87, 0, 0, .int 1, []),
    (87, .goto 4, 90, 91, 0, .int 0, []),
    (90, .iconst 0, 91, 0, 0, .int 0, [])]),
  (128, [(91, .istore 5, 93, 5, 0, .int 0, []),
    (93, .iload 6, 95, 6, 0, .int 0, []),
    (95, .ifCond .ne 13, 98, 108, 0, .int 0, []),
    (98, .iload 8, 100, 8, 0, .int 0, []),
    (100, .ifCond .eq 12, 103, 112, 0, .int 0, []),
    (103, .iload 9, 105, 9, 0, .int 0, []),
    (105, .ifCond .eq 7, 108, 112, 0, .int 0, []),
    (108, .iconst 1, 109, 0, 0, .int 1, []),
    (109, .goto 4, 112, 113, 0, .int 0, []),
    (112, .iconst 0, 113, 0, 0, .int 0, []),
    (113, .istore 6, 115, 6, 0, .int 0, []),
    (115, .iinc 7 1, 118, 7, 0, .int 1, []),
    (118, .goto (-106), 121, 12, 0, .int 0, []),
    (121, .iload 4, 123, 4, 0, .int 0, []),
    (123, .ifCond .eq 17, 126, 140, 0, .int 0, []),
    (126, .iload 5, 128, 5, 0, .int 0, [])]),
  (100000, [(128, .ifCond .eq 12, 131, 140, 0, .int 0, []),
    (131, .iload 6, 133, 6, 0, .int 0, []),
    (133, .ifCond .ne 7, 136, 140, 0, .int 0, []),
    (136, .iconst 1, 137, 0, 0, .int 1, []),
    (137, .goto 4, 140, 141, 0, .int 0, []),
    (140, .iconst 0, 141, 0, 0, .int 0, []),
    (141, .ireturn, 142, 0, 0, .int 0, [])])]
def m_Mod_isShy : xM := (xlk t_Mod_isShy, [], 10, ⟨"PrePressRoomModel", "isShy", "(III)Z"⟩, prog_9_method_18_code, (some .boolean), 1, 23)
end
section
def t_Mod_trapped : List (Nat × List (Nat × xI)) := [(24, [(0, .aload_n 0, 1, 0, 0, .int 0, []),
    (1, .iconst 0, 2, 0, 0, .int 0, []),
    (2, .putfield 81, 5, 7, 0, .retAddr 0, [756]),
    (5, .aload_n 0, 6, 0, 0, .int 0, []),
    (6, .iload_n 1, 7, 1, 0, .int 0, []),
    (7, .iconst 0, 8, 0, 0, .int 0, []),
    (8, .iload_n 2, 9, 2, 0, .int 0, []),
    (9, .iload_n 3, 10, 3, 0, .int 0, []),
    (10, .invokevirtual 113, 13, 128, 5, .retAddr 7, [899, 901, 25]),
    (13, .ifCond .ne 5, 16, 18, 0, .int 0, []),
    (16, .iconst 0, 17, 0, 0, .int 0, []),
    (17, .ireturn, 18, 0, 0, .int 0, []),
    (18, .aload_n 0, 19, 0, 0, .int 0, []),
    (19, .getfield 33, 22, 7, 9, .int 0, [765]),
    (22, .iload_n 1, 23, 1, 0, .int 0, []),
    (23, .iload_n 2, 24, 2, 0, .int 0, [])]),
  (50, [(24, .iload_n 3, 25, 3, 0, .int 0, []),
    (25, .invokestatic 96, 28, 121, 3, .int 0, [873, 874]),
    (28, .iaload, 29, 0, 0, .int 0, []),
    (29, .istore 4, 31, 4, 0, .int 0, []),
    (31, .iload 4, 33, 4, 0, .int 0, []),
    (33, .ifCond .ne 7, 36, 40, 0, .int 0, []),
    (36, .iconst 0, 37, 0, 0, .int 0, []),
    (37, .goto 24, 40, 61, 0, .int 0, []),
    (40, .iconst 1, 41, 0, 0, .int 1, []),
    (41, .bipush 64, 43, 0, 0, .int 64, []),
    (43, .iload 4, 45, 4, 0, .int 0, []),
    (45, .iconst 1, 46, 0, 0, .int 1, []),
    (46, .isub, 47, 0, 0, .int 0, []),
    (47, .imul, 48, 0, 0, .int 0, []),
    (48, .iadd, 49, 0, 0, .int 0, []),
    (49, .aload_n 0, 50, 0, 0, .int 0, [])]),
  (100000, [(50, .getfield 27, 53, 7, 7, .int 0, [763]),
    (53, .iload_n 1, 54, 1, 0, .int 0, []),
    (54, .iload_n 2, 55, 2, 0, .int 0, []),
    (55, .iload_n 3, 56, 3, 0, .int 0, []),
    (56, .invokestatic 96, 59, 121, 3, .int 0, [873, 874]),
    (59, .iaload, 60, 0, 0, .int 0, []),
    (60, .iadd, 61, 0, 0, .int 0, []),
    (61, .ireturn, 62, 0, 0, .int 0, [])])]
def m_Mod_trapped : xM := (xlk t_Mod_trapped, [], 5, ⟨"PrePressRoomModel", "trapped", "(III)I"⟩, prog_9_method_23_code, (some .int), 4, 88)
def t_Mod_screen : List (Nat × List (Nat × xI)) := [(29, [(0, .aload_n 0, 1, 0, 0, .int 0, []),
    (1, .iconst 0, 2, 0, 0, .int 0, []),
    (2, .putfield 81, 5, 7, 0, .retAddr 0, [756]),
    (5, .iload_n 1, 6, 1, 0, .int 0, []),
    (6, .iconst 0, 7, 0, 0, .int 0, []),
    (7, .bipush 7, 9, 0, 0, .int 7, []),
    (9, .invokestatic 84, 12, 117, 3, .int 0, [859, 860]),
    (12, .ifCond .ne 9, 15, 21, 0, .int 0, []),
    (15, .aload_n 0, 16, 0, 0, .int 0, []),
    (16, .iconst 1, 17, 0, 0, .int 1, []),
    (17, .invokevirtual 88, 20, 118, 2, .retAddr 7, [862, 864, 23]),
    (20, .ireturn, 21, 0, 0, .int 0, []),
    (21, .iload_n 2, 22, 2, 0, .int 0, []),
    (22, .bipush (-20), 24, 0, 0, .int (-20), []),
    (24, .bipush 20, 26, 0, 0, .int 20, []),
    (26, .invokestatic 84, 29, 117, 3, .int 0, [859, 860])]),
  (56, [(29, .ifCond .eq 24, 32, 53, 0, .int 0, []),
    (32, .iload_n 3, 33, 3, 0, .int 0, []),
    (33, .bipush (-20), 35, 0, 0, .int (-20), []),
    (35, .bipush 20, 37, 0, 0, .int 20, []),
    (37, .invokestatic 84, 40, 117, 3, .int 0, [859, 860]),
    (40, .ifCond .eq 13, 43, 53, 0, .int 0, []),
    (43, .iload_n 2, 44, 2, 0, .int 0, []),
    (44, .iload_n 2, 45, 2, 0, .int 0, []),
    (45, .imul, 46, 0, 0, .int 0, []),
    (46, .iload_n 3, 47, 3, 0, .int 0, []),
    (47, .iload_n 3, 48, 3, 0, .int 0, []),
    (48, .imul, 49, 0, 0, .int 0, []),
    (49, .iadd, 50, 0, 0, .int 0, []),
    (50, .goto 4, 53, 54, 0, .int 0, []),
    (53, .iconst 0, 54, 0, 0, .int 0, []),
    (54, .istore 5, 56, 5, 0, .int 0, [])]),
  (88, [(56, .iload 5, 58, 5, 0, .int 0, []),
    (58, .iconst 1, 59, 0, 0, .int 1, []),
    (59, .sipush 400, 62, 0, 0, .int 400, []),
    (62, .invokestatic 84, 65, 117, 3, .int 0, [859, 860]),
    (65, .ifCond .eq 13, 68, 78, 0, .int 0, []),
    (68, .iload 4, 70, 4, 0, .int 0, []),
    (70, .iconst 0, 71, 0, 0, .int 0, []),
    (71, .iconst 2, 72, 0, 0, .int 2, []),
    (72, .invokestatic 84, 75, 117, 3, .int 0, [859, 860]),
    (75, .ifCond .ne 9, 78, 84, 0, .int 0, []),
    (78, .aload_n 0, 79, 0, 0, .int 0, []),
    (79, .iconst 2, 80, 0, 0, .int 2, []),
    (80, .invokevirtual 88, 83, 118, 2, .retAddr 7, [862, 864, 23]),
    (83, .ireturn, 84, 0, 0, .int 0, []),
    (84, .aload_n 0, 85, 0, 0, .int 0, []),
    (85, .getfield 42, 88, 7, 12, .int 0, [768])]),
  (111, [(88, .iload_n 1, 89, 1, 0, .int 0, []),
    (89, .iload_n 2, 90, 2, 0, .int 0, []),
    (90, .iastore, 91, 0, 0, .int 0, []),
    (91, .aload_n 0, 92, 0, 0, .int 0, []),
    (92, .getfield 45, 95, 7, 13, .int 0, [769]),
    (95, .iload_n 1, 96, 1, 0, .int 0, []),
    (96, .iload_n 3, 97, 3, 0, .int 0, []),
    (97, .iastore, 98, 0, 0, .int 0, []),
    (98, .aload_n 0, 99, 0, 0, .int 0, []),
    (99, .getfield 48, 102, 7, 14, .int 0, [770]),
    (102, .iload_n 1, 103, 1, 0, .int 0, []),
    (103, .iload 4, 105, 4, 0, .int 0, []),
    (105, .iastore, 106, 0, 0, .int 0, []),
    (106, .aload_n 0, 107, 0, 0, .int 0, []),
    (107, .getfield 51, 110, 7, 15, .int 0, [771]),
    (110, .iload_n 1, 111, 1, 0, .int 0, [])]),
  (100000, [(111, .iconst 0, 112, 0, 0, .int 0, []),
    (112, .bastore, 113, 0, 0, .int 0, []),
    (113, .iload 5, 115, 5, 0, .int 0, []),
    (115, .ireturn, 116, 0, 0, .int 0, [])])]
def m_Mod_screen : xM := (xlk t_Mod_screen, [], 6, ⟨"PrePressRoomModel", "screen", "(IIII)I"⟩, prog_9_method_24_code, (some .int), 1, 22)
def t_Mod_rank : List (Nat × List (Nat × xI)) := [(31, [(0, .aload_n 0, 1, 0, 0, .int 0, []),
    (1, .iconst 0, 2, 0, 0, .int 0, []),
    (2, .putfield 81, 5, 7, 0, .retAddr 0, [756]),
    (5, .iload_n 1, 6, 1, 0, .int 0, []),
    (6, .iconst 0, 7, 0, 0, .int 0, []),
    (7, .bipush 7, 9, 0, 0, .int 7, []),
    (9, .invokestatic 84, 12, 117, 3, .int 0, [859, 860]),
    (12, .ifCond .ne 9, 15, 21, 0, .int 0, []),
    (15, .aload_n 0, 16, 0, 0, .int 0, []),
    (16, .iconst 1, 17, 0, 0, .int 1, []),
    (17, .invokevirtual 88, 20, 118, 2, .retAddr 7, [862, 864, 23]),
    (20, .ireturn, 21, 0, 0, .int 0, []),
    (21, .iload_n 2, 22, 2, 0, .int 0, []),
    (22, .sipush (-1000), 25, 0, 0, .int (-1000), []),
    (25, .sipush 1000, 28, 0, 0, .int 1000, []),
    (28, .invokestatic 84, 31, 117, 3, .int 0, [859, 860])]),
  (100000, [(31, .ifCond .eq 26, 34, 57, 0, .int 0, []),
    (34, .iload_n 3, 35, 3, 0, .int 0, []),
    (35, .sipush (-1000), 38, 0, 0, .int (-1000), []),
    (38, .sipush 1000, 41, 0, 0, .int 1000, []),
    (41, .invokestatic 84, 44, 117, 3, .int 0, [859, 860]),
    (44, .ifCond .eq 13, 47, 57, 0, .int 0, []),
    (47, .aload_n 0, 48, 0, 0, .int 0, []),
    (48, .iload_n 1, 49, 1, 0, .int 0, []),
    (49, .iload_n 2, 50, 2, 0, .int 0, []),
    (50, .iload_n 3, 51, 3, 0, .int 0, []),
    (51, .invokevirtual 167, 54, 139, 4, .retAddr 7, [943, 945, 32]),
    (54, .goto 8, 57, 62, 0, .int 0, []),
    (57, .aload_n 0, 58, 0, 0, .int 0, []),
    (58, .iconst 2, 59, 0, 0, .int 2, []),
    (59, .invokevirtual 88, 62, 118, 2, .retAddr 7, [862, 864, 23]),
    (62, .ireturn, 63, 0, 0, .int 0, [])])]
def m_Mod_rank : xM := (xlk t_Mod_rank, [], 4, ⟨"PrePressRoomModel", "rank", "(III)I"⟩, prog_9_method_34_code, (some .int), 5, 134)
def t_Mod_rankOf : List (Nat × List (Nat × xI)) := [(100000, [(0, .aload_n 0, 1, 0, 0, .int 0, []),
    (1, .iload_n 1, 2, 1, 0, .int 0, []),
    (2, .invokevirtual 164, 5, 140, 2, .retAddr 7, [947, 949, 33]),
    (5, .aload_n 0, 6, 0, 0, .int 0, []),
    (6, .iload_n 1, 7, 1, 0, .int 0, []),
    (7, .iload_n 2, 8, 2, 0, .int 0, []),
    (8, .iload_n 3, 9, 3, 0, .int 0, []),
    (9, .invokevirtual 153, 12, 141, 4, .retAddr 7, [951, 953, 34]),
    (12, .aload_n 0, 13, 0, 0, .int 0, []),
    (13, .iload_n 1, 14, 1, 0, .int 0, []),
    (14, .invokevirtual 157, 17, 146, 2, .retAddr 7, [970, 972, 38]),
    (17, .ireturn, 18, 0, 0, .int 0, [])])]
def m_Mod_rankOf : xM := (xlk t_Mod_rankOf, [], 4, ⟨"PrePressRoomModel", "rankOf", "(III)I"⟩, prog_9_method_33_code, (some .int), 4, 111)
def t_Mod_know : List (Nat × List (Nat × xI)) := [(24, [(0, .aload_n 0, 1, 0, 0, .int 0, []),
    (1, .getfield 51, 4, 7, 15, .int 0, [771]),
    (4, .iload_n 1, 5, 1, 0, .int 0, []),
    (5, .baload, 6, 0, 0, .int 0, []),
    (6, .ifCond .eq 4, 9, 10, 0, .int 0, []),
    (9, .return_, 10, 0, 0, .int 0, []),
    (10, .aload_n 0, 11, 0, 0, .int 0, []),
    (11, .getfield 51, 14, 7, 15, .int 0, [771]),
    (14, .iload_n 1, 15, 1, 0, .int 0, []),
    (15, .iconst 1, 16, 0, 0, .int 1, []),
    (16, .bastore, 17, 0, 0, .int 0, []),
    (17, .aload_n 0, 18, 0, 0, .int 0, []),
    (18, .getfield 54, 21, 7, 16, .int 0, [772]),
    (21, .iload_n 1, 22, 1, 0, .int 0, []),
    (22, .iconst 0, 23, 0, 0, .int 0, []),
    (23, .iastore, 24, 0, 0, .int 0, [])]),
  (50, [(24, .bipush (-15), 26, 0, 0, .int (-15), []),
    (26, .istore_n 2, 27, 2, 0, .int 0, []),
    (27, .iload_n 2, 28, 2, 0, .int 0, []),
    (28, .bipush 15, 30, 0, 0, .int 15, []),
    (30, .if_icmp .gt 44, 33, 74, 0, .int 0, []),
    (33, .bipush (-15), 35, 0, 0, .int (-15), []),
    (35, .istore_n 3, 36, 3, 0, .int 0, []),
    (36, .iload_n 3, 37, 3, 0, .int 0, []),
    (37, .bipush 15, 39, 0, 0, .int 15, []),
    (39, .if_icmp .gt 29, 42, 68, 0, .int 0, []),
    (42, .aload_n 0, 43, 0, 0, .int 0, []),
    (43, .iload_n 1, 44, 1, 0, .int 0, []),
    (44, .iload_n 3, 45, 3, 0, .int 0, []),
    (45, .iload_n 2, 46, 2, 0, .int 0, []),
    (46, .invokevirtual 153, 49, 141, 4, .retAddr 7, [951, 953, 34]),
    (49, .aload_n 0, 50, 0, 0, .int 0, [])]),
  (100000, [(50, .iload_n 1, 51, 1, 0, .int 0, []),
    (51, .invokevirtual 157, 54, 146, 2, .retAddr 7, [970, 972, 38]),
    (54, .ifCond .ge 8, 57, 62, 0, .int 0, []),
    (57, .aload_n 0, 58, 0, 0, .int 0, []),
    (58, .iload_n 1, 59, 1, 0, .int 0, []),
    (59, .invokevirtual 160, 62, 147, 2, .retAddr 7, [974, 976, 39]),
    (62, .iinc 3 1, 65, 3, 0, .int 1, []),
    (65, .goto (-29), 68, 36, 0, .int 0, []),
    (68, .iinc 2 1, 71, 2, 0, .int 1, []),
    (71, .goto (-44), 74, 27, 0, .int 0, []),
    (74, .return_, 75, 0, 0, .int 0, [])])]
def m_Mod_know : xM := (xlk t_Mod_know, [], 4, ⟨"PrePressRoomModel", "know", "(I)V"⟩, prog_9_method_32_code, none, 3, 88)
def t_Mod_findHeart : List (Nat × List (Nat × xI)) := [(26, [(0, .aload_n 0, 1, 0, 0, .int 0, []),
    (1, .getfield 42, 4, 7, 12, .int 0, [768]),
    (4, .iload_n 1, 5, 1, 0, .int 0, []),
    (5, .iaload, 6, 0, 0, .int 0, []),
    (6, .istore 4, 8, 4, 0, .int 0, []),
    (8, .aload_n 0, 9, 0, 0, .int 0, []),
    (9, .getfield 45, 12, 7, 13, .int 0, [769]),
    (12, .iload_n 1, 13, 1, 0, .int 0, []),
    (13, .iaload, 14, 0, 0, .int 0, []),
    (14, .istore 5, 16, 5, 0, .int 0, []),
    (16, .aload_n 0, 17, 0, 0, .int 0, []),
    (17, .iload_n 1, 18, 1, 0, .int 0, []),
    (18, .invokevirtual 137, 21, 142, 2, .retAddr 7, [955, 957, 35]),
    (21, .istore 6, 23, 6, 0, .int 0, []),
    (23, .iload 4, 25, 4, 0, .int 0, []),
    (25, .iload_n 2, 26, 2, 0, .int 0, [])]),
  (50, [(26, .imul, 27, 0, 0, .int 0, []),
    (27, .iload 5, 29, 5, 0, .int 0, []),
    (29, .iload_n 3, 30, 3, 0, .int 0, []),
    (30, .imul, 31, 0, 0, .int 0, []),
    (31, .iadd, 32, 0, 0, .int 0, []),
    (32, .iload 6, 34, 6, 0, .int 0, []),
    (34, .invokestatic 140, 37, 143, 2, .int 0, [959, 960]),
    (37, .istore 7, 39, 7, 0, .int 0, []),
    (39, .iload 4, 41, 4, 0, .int 0, []),
    (41, .iload_n 3, 42, 3, 0, .int 0, []),
    (42, .imul, 43, 0, 0, .int 0, []),
    (43, .iload 5, 45, 5, 0, .int 0, []),
    (45, .iload_n 2, 46, 2, 0, .int 0, []),
    (46, .imul, 47, 0, 0, .int 0, []),
    (47, .isub, 48, 0, 0, .int 0, []),
    (48, .iload 6, 50, 6, 0, .int 0, [])]),
  (79, [(50, .invokestatic 140, 53, 143, 2, .int 0, [959, 960]),
    (53, .istore 8, 55, 8, 0, .int 0, []),
    (55, .iconst 1, 56, 0, 0, .int 1, []),
    (56, .istore 9, 58, 9, 0, .int 0, []),
    (58, .iload 7, 60, 7, 0, .int 0, []),
    (60, .iconst 2, 61, 0, 0, .int 2, []),
    (61, .iload 6, 63, 6, 0, .int 0, []),
    (63, .imul, 64, 0, 0, .int 0, []),
    (64, .isub, 65, 0, 0, .int 0, []),
    (65, .istore 10, 67, 10, 0, .int 0, []),
    (67, .iload 10, 69, 10, 0, .int 0, []),
    (69, .iload 7, 71, 7, 0, .int 0, []),
    (71, .iload 6, 73, 6, 0, .int 0, []),
    (73, .iadd, 74, 0, 0, .int 0, []),
    (74, .if_icmp .gt 114, 77, 188, 0, .int 0, []),
    (77, .iload 8, 79, 8, 0, .int 0, [])]),
  (106, [(79, .iconst 2, 80, 0, 0, .int 2, []),
    (80, .iload 6, 82, 6, 0, .int 0, []),
    (82, .imul, 83, 0, 0, .int 0, []),
    (83, .isub, 84, 0, 0, .int 0, []),
    (84, .istore 11, 86, 11, 0, .int 0, []),
    (86, .iload 11, 88, 11, 0, .int 0, []),
    (88, .iload 8, 90, 8, 0, .int 0, []),
    (90, .iload 6, 92, 6, 0, .int 0, []),
    (92, .iadd, 93, 0, 0, .int 0, []),
    (93, .if_icmp .gt 85, 96, 178, 0, .int 0, []),
    (96, .iload 4, 98, 4, 0, .int 0, []),
    (98, .iload 10, 100, 10, 0, .int 0, []),
    (100, .imul, 101, 0, 0, .int 0, []),
    (101, .iload 5, 103, 5, 0, .int 0, []),
    (103, .iload 11, 105, 11, 0, .int 0, []),
    (105, .imul, 106, 0, 0, .int 0, [])]),
  (133, [(106, .isub, 107, 0, 0, .int 0, []),
    (107, .iload 6, 109, 6, 0, .int 0, []),
    (109, .idiv, 110, 0, 0, .int 0, []),
    (110, .istore 12, 112, 12, 0, .int 0, []),
    (112, .iload 5, 114, 5, 0, .int 0, []),
    (114, .iload 10, 116, 10, 0, .int 0, []),
    (116, .imul, 117, 0, 0, .int 0, []),
    (117, .iload 4, 119, 4, 0, .int 0, []),
    (119, .iload 11, 121, 11, 0, .int 0, []),
    (121, .imul, 122, 0, 0, .int 0, []),
    (122, .iadd, 123, 0, 0, .int 0, []),
    (123, .iload 6, 125, 6, 0, .int 0, []),
    (125, .idiv, 126, 0, 0, .int 0, []),
    (126, .istore 13, 128, 13, 0, .int 0, []),
    (128, .iload 9, 130, 9, 0, .int 0, []),
    (130, .ifCond .ne 23, 133, 153, 0, .int 0, [])]),
  (165, [(133, .aload_n 0, 134, 0, 0, .int 0, []),
    (134, .iload_n 1, 135, 1, 0, .int 0, []),
    (135, .iload 12, 137, 12, 0, .int 0, []),
    (137, .iload 13, 139, 13, 0, .int 0, []),
    (139, .aload_n 0, 140, 0, 0, .int 0, []),
    (140, .getfield 143, 143, 7, 19, .int 0, [775]),
    (143, .aload_n 0, 144, 0, 0, .int 0, []),
    (144, .getfield 146, 147, 7, 20, .int 0, [776]),
    (147, .invokevirtual 149, 150, 144, 6, .retAddr 7, [962, 964, 36]),
    (150, .ifCond .eq 18, 153, 168, 0, .int 0, []),
    (153, .aload_n 0, 154, 0, 0, .int 0, []),
    (154, .iload 12, 156, 12, 0, .int 0, []),
    (156, .putfield 143, 159, 7, 19, .retAddr 0, [775]),
    (159, .aload_n 0, 160, 0, 0, .int 0, []),
    (160, .iload 13, 162, 13, 0, .int 0, []),
    (162, .putfield 146, 165, 7, 20, .retAddr 0, [776])]),
  (100000, [(165, .iconst 0, 166, 0, 0, .int 0, []),
    (166, .istore 9, 168, 9, 0, .int 0, []),
    (168, .iload 11, 170, 11, 0, .int 0, []),
    (170, .iload 6, 172, 6, 0, .int 0, []),
    (172, .iadd, 173, 0, 0, .int 0, []),
    (173, .istore 11, 175, 11, 0, .int 0, []),
    (175, .goto (-89), 178, 86, 0, .int 0, []),
    (178, .iload 10, 180, 10, 0, .int 0, []),
    (180, .iload 6, 182, 6, 0, .int 0, []),
    (182, .iadd, 183, 0, 0, .int 0, []),
    (183, .istore 10, 185, 10, 0, .int 0, []),
    (185, .goto (-118), 188, 67, 0, .int 0, []),
    (188, .return_, 189, 0, 0, .int 0, [])])]
def m_Mod_findHeart : xM := (xlk t_Mod_findHeart, [], 14, ⟨"PrePressRoomModel", "findHeart", "(III)V"⟩, prog_9_method_29_code, none, 2, 55)
def t_Mod_sizeOf : List (Nat × List (Nat × xI)) := [(24, [(0, .aload_n 0, 1, 0, 0, .int 0, []),
    (1, .getfield 42, 4, 7, 12, .int 0, [768]),
    (4, .iload_n 1, 5, 1, 0, .int 0, []),
    (5, .iaload, 6, 0, 0, .int 0, []),
    (6, .aload_n 0, 7, 0, 0, .int 0, []),
    (7, .getfield 42, 10, 7, 12, .int 0, [768]),
    (10, .iload_n 1, 11, 1, 0, .int 0, []),
    (11, .iaload, 12, 0, 0, .int 0, []),
    (12, .imul, 13, 0, 0, .int 0, []),
    (13, .aload_n 0, 14, 0, 0, .int 0, []),
    (14, .getfield 45, 17, 7, 13, .int 0, [769]),
    (17, .iload_n 1, 18, 1, 0, .int 0, []),
    (18, .iaload, 19, 0, 0, .int 0, []),
    (19, .aload_n 0, 20, 0, 0, .int 0, []),
    (20, .getfield 45, 23, 7, 13, .int 0, [769]),
    (23, .iload_n 1, 24, 1, 0, .int 0, [])]),
  (100000, [(24, .iaload, 25, 0, 0, .int 0, []),
    (25, .imul, 26, 0, 0, .int 0, []),
    (26, .iadd, 27, 0, 0, .int 0, []),
    (27, .ireturn, 28, 0, 0, .int 0, [])])]
def m_Mod_sizeOf : xM := (xlk t_Mod_sizeOf, [], 2, ⟨"PrePressRoomModel", "sizeOf", "(I)I"⟩, prog_9_method_25_code, (some .int), 0, 0)
def t_Mod_rest : List (Nat × List (Nat × xI)) := [(100000, [(0, .iload_n 0, 1, 0, 0, .int 0, []),
    (1, .iload_n 1, 2, 1, 0, .int 0, []),
    (2, .irem, 3, 0, 0, .int 0, []),
    (3, .iload_n 1, 4, 1, 0, .int 0, []),
    (4, .iadd, 5, 0, 0, .int 0, []),
    (5, .iload_n 1, 6, 1, 0, .int 0, []),
    (6, .irem, 7, 0, 0, .int 0, []),
    (7, .ireturn, 8, 0, 0, .int 0, [])])]
def m_Mod_rest : xM := (xlk t_Mod_rest, [], 2, ⟨"PrePressRoomModel", "rest", "(II)I"⟩, prog_9_method_28_code, (some .int), 0, 0)
def t_Mod_isBefore : List (Nat × List (Nat × xI)) := [(24, [(0, .aload_n 0, 1, 0, 0, .int 0, []),
    (1, .iload_n 1, 2, 1, 0, .int 0, []),
    (2, .iload_n 2, 3, 2, 0, .int 0, []),
    (3, .iload_n 3, 4, 3, 0, .int 0, []),
    (4, .invokevirtual 134, 7, 145, 4, .retAddr 7, [966, 968, 37]),
    (7, .istore 6, 9, 6, 0, .int 0, []),
    (9, .aload_n 0, 10, 0, 0, .int 0, []),
    (10, .iload_n 1, 11, 1, 0, .int 0, []),
    (11, .iload 4, 13, 4, 0, .int 0, []),
    (13, .iload 5, 15, 5, 0, .int 0, []),
    (15, .invokevirtual 134, 18, 145, 4, .retAddr 7, [966, 968, 37]),
    (18, .istore 7, 20, 7, 0, .int 0, []),
    (20, .iload_n 2, 21, 2, 0, .int 0, []),
    (21, .iload_n 2, 22, 2, 0, .int 0, []),
    (22, .imul, 23, 0, 0, .int 0, []),
    (23, .iload_n 3, 24, 3, 0, .int 0, [])]),
  (51, [(24, .iload_n 3, 25, 3, 0, .int 0, []),
    (25, .imul, 26, 0, 0, .int 0, []),
    (26, .iadd, 27, 0, 0, .int 0, []),
    (27, .istore 8, 29, 8, 0, .int 0, []),
    (29, .iload 4, 31, 4, 0, .int 0, []),
    (31, .iload 4, 33, 4, 0, .int 0, []),
    (33, .imul, 34, 0, 0, .int 0, []),
    (34, .iload 5, 36, 5, 0, .int 0, []),
    (36, .iload 5, 38, 5, 0, .int 0, []),
    (38, .imul, 39, 0, 0, .int 0, []),
    (39, .iadd, 40, 0, 0, .int 0, []),
    (40, .istore 9, 42, 9, 0, .int 0, []),
    (42, .iload 6, 44, 6, 0, .int 0, []),
    (44, .iload 7, 46, 7, 0, .int 0, []),
    (46, .if_icmp .eq 18, 49, 64, 0, .int 0, []),
    (49, .iload 6, 51, 6, 0, .int 0, [])]),
  (86, [(51, .iload 7, 53, 7, 0, .int 0, []),
    (53, .if_icmp .ge 7, 56, 60, 0, .int 0, []),
    (56, .iconst 1, 57, 0, 0, .int 1, []),
    (57, .goto 60, 60, 117, 0, .int 0, []),
    (60, .iconst 0, 61, 0, 0, .int 0, []),
    (61, .goto 56, 64, 117, 0, .int 0, []),
    (64, .iload 8, 66, 8, 0, .int 0, []),
    (66, .iload 9, 68, 9, 0, .int 0, []),
    (68, .if_icmp .eq 18, 71, 86, 0, .int 0, []),
    (71, .iload 8, 73, 8, 0, .int 0, []),
    (73, .iload 9, 75, 9, 0, .int 0, []),
    (75, .if_icmp .ge 7, 78, 82, 0, .int 0, []),
    (78, .iconst 1, 79, 0, 0, .int 1, []),
    (79, .goto 38, 82, 117, 0, .int 0, []),
    (82, .iconst 0, 83, 0, 0, .int 0, []),
    (83, .goto 34, 86, 117, 0, .int 0, [])]),
  (117, [(86, .iload_n 3, 87, 3, 0, .int 0, []),
    (87, .iload 5, 89, 5, 0, .int 0, []),
    (89, .if_icmp .eq 17, 92, 106, 0, .int 0, []),
    (92, .iload_n 3, 93, 3, 0, .int 0, []),
    (93, .iload 5, 95, 5, 0, .int 0, []),
    (95, .if_icmp .ge 7, 98, 102, 0, .int 0, []),
    (98, .iconst 1, 99, 0, 0, .int 1, []),
    (99, .goto 18, 102, 117, 0, .int 0, []),
    (102, .iconst 0, 103, 0, 0, .int 0, []),
    (103, .goto 14, 106, 117, 0, .int 0, []),
    (106, .iload_n 2, 107, 2, 0, .int 0, []),
    (107, .iload 4, 109, 4, 0, .int 0, []),
    (109, .if_icmp .ge 7, 112, 116, 0, .int 0, []),
    (112, .iconst 1, 113, 0, 0, .int 1, []),
    (113, .goto 4, 116, 117, 0, .int 0, []),
    (116, .iconst 0, 117, 0, 0, .int 0, [])]),
  (100000, [(117, .ireturn, 118, 0, 0, .int 0, [])])]
def m_Mod_isBefore : xM := (xlk t_Mod_isBefore, [], 10, ⟨"PrePressRoomModel", "isBefore", "(IIIII)Z"⟩, prog_9_method_27_code, (some .boolean), 1, 26)
def t_Mod_formOf : List (Nat × List (Nat × xI)) := [(23, [(0, .aload_n 0, 1, 0, 0, .int 0, []),
    (1, .getfield 42, 4, 7, 12, .int 0, [768]),
    (4, .iload_n 1, 5, 1, 0, .int 0, []),
    (5, .iaload, 6, 0, 0, .int 0, []),
    (6, .iload_n 3, 7, 3, 0, .int 0, []),
    (7, .imul, 8, 0, 0, .int 0, []),
    (8, .aload_n 0, 9, 0, 0, .int 0, []),
    (9, .getfield 45, 12, 7, 13, .int 0, [769]),
    (12, .iload_n 1, 13, 1, 0, .int 0, []),
    (13, .iaload, 14, 0, 0, .int 0, []),
    (14, .iload_n 2, 15, 2, 0, .int 0, []),
    (15, .imul, 16, 0, 0, .int 0, []),
    (16, .isub, 17, 0, 0, .int 0, []),
    (17, .istore 4, 19, 4, 0, .int 0, []),
    (19, .iload_n 2, 20, 2, 0, .int 0, []),
    (20, .ifCond .ge 8, 23, 28, 0, .int 0, [])]),
  (49, [(23, .iload_n 2, 24, 2, 0, .int 0, []),
    (24, .ineg, 25, 0, 0, .int 0, []),
    (25, .goto 4, 28, 29, 0, .int 0, []),
    (28, .iload_n 2, 29, 2, 0, .int 0, []),
    (29, .istore 5, 31, 5, 0, .int 0, []),
    (31, .iload_n 3, 32, 3, 0, .int 0, []),
    (32, .ifCond .ge 8, 35, 40, 0, .int 0, []),
    (35, .iload_n 3, 36, 3, 0, .int 0, []),
    (36, .ineg, 37, 0, 0, .int 0, []),
    (37, .goto 4, 40, 41, 0, .int 0, []),
    (40, .iload_n 3, 41, 3, 0, .int 0, []),
    (41, .istore 6, 43, 6, 0, .int 0, []),
    (43, .aload_n 0, 44, 0, 0, .int 0, []),
    (44, .getfield 48, 47, 7, 14, .int 0, [770]),
    (47, .iload_n 1, 48, 1, 0, .int 0, []),
    (48, .iaload, 49, 0, 0, .int 0, [])]),
  (74, [(49, .ifCond .ne 13, 52, 62, 0, .int 0, []),
    (52, .iload_n 2, 53, 2, 0, .int 0, []),
    (53, .iload_n 2, 54, 2, 0, .int 0, []),
    (54, .imul, 55, 0, 0, .int 0, []),
    (55, .iload_n 3, 56, 3, 0, .int 0, []),
    (56, .iload_n 3, 57, 3, 0, .int 0, []),
    (57, .imul, 58, 0, 0, .int 0, []),
    (58, .iadd, 59, 0, 0, .int 0, []),
    (59, .goto 34, 62, 93, 0, .int 0, []),
    (62, .aload_n 0, 63, 0, 0, .int 0, []),
    (63, .getfield 48, 66, 7, 14, .int 0, [770]),
    (66, .iload_n 1, 67, 1, 0, .int 0, []),
    (67, .iaload, 68, 0, 0, .int 0, []),
    (68, .iconst 1, 69, 0, 0, .int 1, []),
    (69, .if_icmp .ne 19, 72, 88, 0, .int 0, []),
    (72, .iload 4, 74, 4, 0, .int 0, [])]),
  (100000, [(74, .ifCond .ge 9, 77, 83, 0, .int 0, []),
    (77, .iload 4, 79, 4, 0, .int 0, []),
    (79, .ineg, 80, 0, 0, .int 0, []),
    (80, .goto 13, 83, 93, 0, .int 0, []),
    (83, .iload 4, 85, 4, 0, .int 0, []),
    (85, .goto 8, 88, 93, 0, .int 0, []),
    (88, .iload 5, 90, 5, 0, .int 0, []),
    (90, .iload 6, 92, 6, 0, .int 0, []),
    (92, .iadd, 93, 0, 0, .int 0, []),
    (93, .ireturn, 94, 0, 0, .int 0, [])])]
def m_Mod_formOf : xM := (xlk t_Mod_formOf, [], 7, ⟨"PrePressRoomModel", "formOf", "(III)I"⟩, prog_9_method_26_code, (some .int), 0, 0)
def t_Mod_heartNumber : List (Nat × List (Nat × xI)) := [(24, [(0, .iconst (-1), 1, 0, 0, .int (-1), []),
    (1, .istore_n 2, 2, 2, 0, .int 0, []),
    (2, .iconst 0, 3, 0, 0, .int 0, []),
    (3, .istore_n 3, 4, 3, 0, .int 0, []),
    (4, .iload_n 3, 5, 3, 0, .int 0, []),
    (5, .aload_n 0, 6, 0, 0, .int 0, []),
    (6, .getfield 54, 9, 7, 16, .int 0, [772]),
    (9, .iload_n 1, 10, 1, 0, .int 0, []),
    (10, .iaload, 11, 0, 0, .int 0, []),
    (11, .if_icmp .ge 53, 14, 64, 0, .int 0, []),
    (14, .aload_n 0, 15, 0, 0, .int 0, []),
    (15, .getfield 57, 18, 7, 17, .int 0, [773]),
    (18, .sipush 400, 21, 0, 0, .int 400, []),
    (21, .iload_n 1, 22, 1, 0, .int 0, []),
    (22, .imul, 23, 0, 0, .int 0, []),
    (23, .iload_n 3, 24, 3, 0, .int 0, [])]),
  (52, [(24, .iadd, 25, 0, 0, .int 0, []),
    (25, .iaload, 26, 0, 0, .int 0, []),
    (26, .aload_n 0, 27, 0, 0, .int 0, []),
    (27, .getfield 143, 30, 7, 19, .int 0, [775]),
    (30, .if_icmp .ne 26, 33, 56, 0, .int 0, []),
    (33, .aload_n 0, 34, 0, 0, .int 0, []),
    (34, .getfield 60, 37, 7, 18, .int 0, [774]),
    (37, .sipush 400, 40, 0, 0, .int 400, []),
    (40, .iload_n 1, 41, 1, 0, .int 0, []),
    (41, .imul, 42, 0, 0, .int 0, []),
    (42, .iload_n 3, 43, 3, 0, .int 0, []),
    (43, .iadd, 44, 0, 0, .int 0, []),
    (44, .iaload, 45, 0, 0, .int 0, []),
    (45, .aload_n 0, 46, 0, 0, .int 0, []),
    (46, .getfield 146, 49, 7, 20, .int 0, [776]),
    (49, .if_icmp .ne 7, 52, 56, 0, .int 0, [])]),
  (100000, [(52, .iload_n 3, 53, 3, 0, .int 0, []),
    (53, .goto 4, 56, 57, 0, .int 0, []),
    (56, .iload_n 2, 57, 2, 0, .int 0, []),
    (57, .istore_n 2, 58, 2, 0, .int 0, []),
    (58, .iinc 3 1, 61, 3, 0, .int 1, []),
    (61, .goto (-57), 64, 4, 0, .int 0, []),
    (64, .iload_n 2, 65, 2, 0, .int 0, []),
    (65, .ireturn, 66, 0, 0, .int 0, [])])]
def m_Mod_heartNumber : xM := (xlk t_Mod_heartNumber, [], 4, ⟨"PrePressRoomModel", "heartNumber", "(I)I"⟩, prog_9_method_30_code, (some .int), 0, 0)
def t_Mod_addHeart : List (Nat × List (Nat × xI)) := [(20, [(0, .aload_n 0, 1, 0, 0, .int 0, []),
    (1, .getfield 54, 4, 7, 16, .int 0, [772]),
    (4, .iload_n 1, 5, 1, 0, .int 0, []),
    (5, .iaload, 6, 0, 0, .int 0, []),
    (6, .istore_n 2, 7, 2, 0, .int 0, []),
    (7, .aload_n 0, 8, 0, 0, .int 0, []),
    (8, .getfield 54, 11, 7, 16, .int 0, [772]),
    (11, .iload_n 1, 12, 1, 0, .int 0, []),
    (12, .dup2, 13, 0, 0, .int 0, []),
    (13, .iaload, 14, 0, 0, .int 0, []),
    (14, .iconst 1, 15, 0, 0, .int 1, []),
    (15, .iadd, 16, 0, 0, .int 0, []),
    (16, .iastore, 17, 0, 0, .int 0, []),
    (17, .iconst 1, 18, 0, 0, .int 1, []),
    (18, .istore_n 3, 19, 3, 0, .int 0, []),
    (19, .iload_n 2, 20, 2, 0, .int 0, [])]),
  (48, [(20, .ifCond .le 111, 23, 131, 0, .int 0, []),
    (23, .iload_n 3, 24, 3, 0, .int 0, []),
    (24, .ifCond .eq 107, 27, 131, 0, .int 0, []),
    (27, .aload_n 0, 28, 0, 0, .int 0, []),
    (28, .iload_n 1, 29, 1, 0, .int 0, []),
    (29, .aload_n 0, 30, 0, 0, .int 0, []),
    (30, .getfield 143, 33, 7, 19, .int 0, [775]),
    (33, .aload_n 0, 34, 0, 0, .int 0, []),
    (34, .getfield 146, 37, 7, 20, .int 0, [776]),
    (37, .aload_n 0, 38, 0, 0, .int 0, []),
    (38, .getfield 57, 41, 7, 17, .int 0, [773]),
    (41, .sipush 400, 44, 0, 0, .int 400, []),
    (44, .iload_n 1, 45, 1, 0, .int 0, []),
    (45, .imul, 46, 0, 0, .int 0, []),
    (46, .iload_n 2, 47, 2, 0, .int 0, []),
    (47, .iadd, 48, 0, 0, .int 0, [])]),
  (70, [(48, .iconst 1, 49, 0, 0, .int 1, []),
    (49, .isub, 50, 0, 0, .int 0, []),
    (50, .iaload, 51, 0, 0, .int 0, []),
    (51, .aload_n 0, 52, 0, 0, .int 0, []),
    (52, .getfield 60, 55, 7, 18, .int 0, [774]),
    (55, .sipush 400, 58, 0, 0, .int 400, []),
    (58, .iload_n 1, 59, 1, 0, .int 0, []),
    (59, .imul, 60, 0, 0, .int 0, []),
    (60, .iload_n 2, 61, 2, 0, .int 0, []),
    (61, .iadd, 62, 0, 0, .int 0, []),
    (62, .iconst 1, 63, 0, 0, .int 1, []),
    (63, .isub, 64, 0, 0, .int 0, []),
    (64, .iaload, 65, 0, 0, .int 0, []),
    (65, .invokevirtual 149, 68, 144, 6, .retAddr 7, [962, 964, 36]),
    (68, .istore_n 3, 69, 3, 0, .int 0, []),
    (69, .iload_n 3, 70, 3, 0, .int 0, [])]),
  (96, [(70, .ifCond .eq (-51), 73, 19, 0, .int 0, []),
    (73, .aload_n 0, 74, 0, 0, .int 0, []),
    (74, .getfield 57, 77, 7, 17, .int 0, [773]),
    (77, .sipush 400, 80, 0, 0, .int 400, []),
    (80, .iload_n 1, 81, 1, 0, .int 0, []),
    (81, .imul, 82, 0, 0, .int 0, []),
    (82, .iload_n 2, 83, 2, 0, .int 0, []),
    (83, .iadd, 84, 0, 0, .int 0, []),
    (84, .aload_n 0, 85, 0, 0, .int 0, []),
    (85, .getfield 57, 88, 7, 17, .int 0, [773]),
    (88, .sipush 400, 91, 0, 0, .int 400, []),
    (91, .iload_n 1, 92, 1, 0, .int 0, []),
    (92, .imul, 93, 0, 0, .int 0, []),
    (93, .iload_n 2, 94, 2, 0, .int 0, []),
    (94, .iadd, 95, 0, 0, .int 0, []),
    (95, .iconst 1, 96, 0, 0, .int 1, [])]),
  (120, [(96, .isub, 97, 0, 0, .int 0, []),
    (97, .iaload, 98, 0, 0, .int 0, []),
    (98, .iastore, 99, 0, 0, .int 0, []),
    (99, .aload_n 0, 100, 0, 0, .int 0, []),
    (100, .getfield 60, 103, 7, 18, .int 0, [774]),
    (103, .sipush 400, 106, 0, 0, .int 400, []),
    (106, .iload_n 1, 107, 1, 0, .int 0, []),
    (107, .imul, 108, 0, 0, .int 0, []),
    (108, .iload_n 2, 109, 2, 0, .int 0, []),
    (109, .iadd, 110, 0, 0, .int 0, []),
    (110, .aload_n 0, 111, 0, 0, .int 0, []),
    (111, .getfield 60, 114, 7, 18, .int 0, [774]),
    (114, .sipush 400, 117, 0, 0, .int 400, []),
    (117, .iload_n 1, 118, 1, 0, .int 0, []),
    (118, .imul, 119, 0, 0, .int 0, []),
    (119, .iload_n 2, 120, 2, 0, .int 0, [])]),
  (146, [(120, .iadd, 121, 0, 0, .int 0, []),
    (121, .iconst 1, 122, 0, 0, .int 1, []),
    (122, .isub, 123, 0, 0, .int 0, []),
    (123, .iaload, 124, 0, 0, .int 0, []),
    (124, .iastore, 125, 0, 0, .int 0, []),
    (125, .iinc 2 (-1), 128, 2, 0, .int (-1), []),
    (128, .goto (-109), 131, 19, 0, .int 0, []),
    (131, .aload_n 0, 132, 0, 0, .int 0, []),
    (132, .getfield 57, 135, 7, 17, .int 0, [773]),
    (135, .sipush 400, 138, 0, 0, .int 400, []),
    (138, .iload_n 1, 139, 1, 0, .int 0, []),
    (139, .imul, 140, 0, 0, .int 0, []),
    (140, .iload_n 2, 141, 2, 0, .int 0, []),
    (141, .iadd, 142, 0, 0, .int 0, []),
    (142, .aload_n 0, 143, 0, 0, .int 0, []),
    (143, .getfield 143, 146, 7, 19, .int 0, [775])]),
  (100000, [(146, .iastore, 147, 0, 0, .int 0, []),
    (147, .aload_n 0, 148, 0, 0, .int 0, []),
    (148, .getfield 60, 151, 7, 18, .int 0, [774]),
    (151, .sipush 400, 154, 0, 0, .int 400, []),
    (154, .iload_n 1, 155, 1, 0, .int 0, []),
    (155, .imul, 156, 0, 0, .int 0, []),
    (156, .iload_n 2, 157, 2, 0, .int 0, []),
    (157, .iadd, 158, 0, 0, .int 0, []),
    (158, .aload_n 0, 159, 0, 0, .int 0, []),
    (159, .getfield 146, 162, 7, 20, .int 0, [776]),
    (162, .iastore, 163, 0, 0, .int 0, []),
    (163, .return_, 164, 0, 0, .int 0, [])])]
def m_Mod_addHeart : xM := (xlk t_Mod_addHeart, [], 4, ⟨"PrePressRoomModel", "addHeart", "(I)V"⟩, prog_9_method_31_code, none, 2, 55)
def t_Mod_dot : List (Nat × List (Nat × xI)) := [(26, [(0, .aload_n 0, 1, 0, 0, .int 0, []),
    (1, .iconst 0, 2, 0, 0, .int 0, []),
    (2, .putfield 81, 5, 7, 0, .retAddr 0, [756]),
    (5, .aload_n 0, 6, 0, 0, .int 0, []),
    (6, .iload_n 1, 7, 1, 0, .int 0, []),
    (7, .iload_n 2, 8, 2, 0, .int 0, []),
    (8, .iload_n 3, 9, 3, 0, .int 0, []),
    (9, .iload 4, 11, 4, 0, .int 0, []),
    (11, .invokevirtual 113, 14, 128, 5, .retAddr 7, [899, 901, 25]),
    (14, .ifCond .eq 19, 17, 33, 0, .int 0, []),
    (17, .aload_n 0, 18, 0, 0, .int 0, []),
    (18, .iload_n 1, 19, 1, 0, .int 0, []),
    (19, .iload_n 2, 20, 2, 0, .int 0, []),
    (20, .iload_n 3, 21, 3, 0, .int 0, []),
    (21, .iload 4, 23, 4, 0, .int 0, []),
    (23, .invokevirtual 170, 26, 149, 5, .retAddr 7, [982, 984, 40])]),
  (100000, [(26, .ifCond .eq 7, 29, 33, 0, .int 0, []),
    (29, .iconst 1, 30, 0, 0, .int 1, []),
    (30, .goto 4, 33, 34, 0, .int 0, []),
    (33, .iconst 0, 34, 0, 0, .int 0, []),
    (34, .ireturn, 35, 0, 0, .int 0, [])])]
def m_Mod_dot : xM := (xlk t_Mod_dot, [], 5, ⟨"PrePressRoomModel", "dot", "(IIII)Z"⟩, prog_9_method_36_code, (some .boolean), 6, 158)
def t_Mod_isDot : List (Nat × List (Nat × xI)) := [(25, [(0, .aload_n 0, 1, 0, 0, .int 0, []),
    (1, .iload_n 2, 2, 2, 0, .int 0, []),
    (2, .iload_n 3, 3, 3, 0, .int 0, []),
    (3, .iload 4, 5, 4, 0, .int 0, []),
    (5, .invokevirtual 167, 8, 139, 4, .retAddr 7, [943, 945, 32]),
    (8, .aload_n 0, 9, 0, 0, .int 0, []),
    (9, .iload_n 1, 10, 1, 0, .int 0, []),
    (10, .iload_n 2, 11, 2, 0, .int 0, []),
    (11, .iload_n 3, 12, 3, 0, .int 0, []),
    (12, .iload 4, 14, 4, 0, .int 0, []),
    (14, .invokevirtual 117, 17, 129, 5, .retAddr 7, [903, 905, 26]),
    (17, .aload_n 0, 18, 0, 0, .int 0, []),
    (18, .iload_n 2, 19, 2, 0, .int 0, []),
    (19, .invokevirtual 137, 22, 142, 2, .retAddr 7, [955, 957, 35]),
    (22, .imul, 23, 0, 0, .int 0, []),
    (23, .bipush 127, 25, 0, 0, .int 127, [])]),
  (100000, [(25, .iadd, 26, 0, 0, .int 0, []),
    (26, .sipush 255, 29, 0, 0, .int 255, []),
    (29, .idiv, 30, 0, 0, .int 0, []),
    (30, .if_icmp .ge 7, 33, 37, 0, .int 0, []),
    (33, .iconst 1, 34, 0, 0, .int 1, []),
    (34, .goto 4, 37, 38, 0, .int 0, []),
    (37, .iconst 0, 38, 0, 0, .int 0, []),
    (38, .ireturn, 39, 0, 0, .int 0, [])])]
def m_Mod_isDot : xM := (xlk t_Mod_isDot, [], 5, ⟨"PrePressRoomModel", "isDot", "(IIII)Z"⟩, prog_9_method_35_code, (some .boolean), 5, 134)
def t_Mod_share : List (Nat × List (Nat × xI)) := [(25, [(0, .aload_n 0, 1, 0, 0, .int 0, []),
    (1, .iconst 0, 2, 0, 0, .int 0, []),
    (2, .putfield 81, 5, 7, 0, .retAddr 0, [756]),
    (5, .aload_n 0, 6, 0, 0, .int 0, []),
    (6, .iload_n 1, 7, 1, 0, .int 0, []),
    (7, .iload_n 2, 8, 2, 0, .int 0, []),
    (8, .iload_n 3, 9, 3, 0, .int 0, []),
    (9, .iload 4, 11, 4, 0, .int 0, []),
    (11, .invokevirtual 113, 14, 128, 5, .retAddr 7, [899, 901, 25]),
    (14, .ifCond .ne 5, 17, 19, 0, .int 0, []),
    (17, .iconst 0, 18, 0, 0, .int 0, []),
    (18, .ireturn, 19, 0, 0, .int 0, []),
    (19, .aload_n 0, 20, 0, 0, .int 0, []),
    (20, .iload_n 2, 21, 2, 0, .int 0, []),
    (21, .invokevirtual 164, 24, 140, 2, .retAddr 7, [947, 949, 33]),
    (24, .aload_n 0, 25, 0, 0, .int 0, [])]),
  (52, [(25, .iload_n 2, 26, 2, 0, .int 0, []),
    (26, .iload_n 3, 27, 3, 0, .int 0, []),
    (27, .iload 4, 29, 4, 0, .int 0, []),
    (29, .invokevirtual 153, 32, 141, 4, .retAddr 7, [951, 953, 34]),
    (32, .iload_n 3, 33, 3, 0, .int 0, []),
    (33, .aload_n 0, 34, 0, 0, .int 0, []),
    (34, .getfield 143, 37, 7, 19, .int 0, [775]),
    (37, .isub, 38, 0, 0, .int 0, []),
    (38, .istore 5, 40, 5, 0, .int 0, []),
    (40, .iload 4, 42, 4, 0, .int 0, []),
    (42, .aload_n 0, 43, 0, 0, .int 0, []),
    (43, .getfield 146, 46, 7, 20, .int 0, [776]),
    (46, .isub, 47, 0, 0, .int 0, []),
    (47, .istore 6, 49, 6, 0, .int 0, []),
    (49, .iconst 0, 50, 0, 0, .int 0, []),
    (50, .istore 7, 52, 7, 0, .int 0, [])]),
  (79, [(52, .iconst 0, 53, 0, 0, .int 0, []),
    (53, .istore 8, 55, 8, 0, .int 0, []),
    (55, .iload 8, 57, 8, 0, .int 0, []),
    (57, .aload_n 0, 58, 0, 0, .int 0, []),
    (58, .getfield 54, 61, 7, 16, .int 0, [772]),
    (61, .iload_n 2, 62, 2, 0, .int 0, []),
    (62, .iaload, 63, 0, 0, .int 0, []),
    (63, .if_icmp .ge 96, 66, 159, 0, .int 0, []),
    (66, .aload_n 0, 67, 0, 0, .int 0, []),
    (67, .getfield 57, 70, 7, 17, .int 0, [773]),
    (70, .sipush 400, 73, 0, 0, .int 400, []),
    (73, .iload_n 2, 74, 2, 0, .int 0, []),
    (74, .imul, 75, 0, 0, .int 0, []),
    (75, .iload 8, 77, 8, 0, .int 0, []),
    (77, .iadd, 78, 0, 0, .int 0, []),
    (78, .iaload, 79, 0, 0, .int 0, [])]),
  (105, [(79, .iload 5, 81, 5, 0, .int 0, []),
    (81, .iadd, 82, 0, 0, .int 0, []),
    (82, .istore 9, 84, 9, 0, .int 0, []),
    (84, .aload_n 0, 85, 0, 0, .int 0, []),
    (85, .getfield 60, 88, 7, 18, .int 0, [774]),
    (88, .sipush 400, 91, 0, 0, .int 400, []),
    (91, .iload_n 2, 92, 2, 0, .int 0, []),
    (92, .imul, 93, 0, 0, .int 0, []),
    (93, .iload 8, 95, 8, 0, .int 0, []),
    (95, .iadd, 96, 0, 0, .int 0, []),
    (96, .iaload, 97, 0, 0, .int 0, []),
    (97, .iload 6, 99, 6, 0, .int 0, []),
    (99, .iadd, 100, 0, 0, .int 0, []),
    (100, .istore 10, 102, 10, 0, .int 0, []),
    (102, .iload_n 1, 103, 1, 0, .int 0, []),
    (103, .iload 9, 105, 9, 0, .int 0, [])]),
  (134, [(105, .iload 10, 107, 10, 0, .int 0, []),
    (107, .invokestatic 100, 110, 123, 3, .int 0, [880, 881]),
    (110, .ifCond .ne 5, 113, 115, 0, .int 0, []),
    (113, .iconst (-1), 114, 0, 0, .int (-1), []),
    (114, .ireturn, 115, 0, 0, .int 0, []),
    (115, .iload 7, 117, 7, 0, .int 0, []),
    (117, .iload 8, 119, 8, 0, .int 0, []),
    (119, .aload_n 0, 120, 0, 0, .int 0, []),
    (120, .iload_n 1, 121, 1, 0, .int 0, []),
    (121, .iload_n 2, 122, 2, 0, .int 0, []),
    (122, .iload 9, 124, 9, 0, .int 0, []),
    (124, .iload 10, 126, 10, 0, .int 0, []),
    (126, .invokevirtual 117, 129, 129, 5, .retAddr 7, [903, 905, 26]),
    (129, .aload_n 0, 130, 0, 0, .int 0, []),
    (130, .iload_n 2, 131, 2, 0, .int 0, []),
    (131, .invokevirtual 137, 134, 142, 2, .retAddr 7, [955, 957, 35])]),
  (100000, [(134, .imul, 135, 0, 0, .int 0, []),
    (135, .bipush 127, 137, 0, 0, .int 127, []),
    (137, .iadd, 138, 0, 0, .int 0, []),
    (138, .sipush 255, 141, 0, 0, .int 255, []),
    (141, .idiv, 142, 0, 0, .int 0, []),
    (142, .if_icmp .ge 7, 145, 149, 0, .int 0, []),
    (145, .iconst 1, 146, 0, 0, .int 1, []),
    (146, .goto 4, 149, 150, 0, .int 0, []),
    (149, .iconst 0, 150, 0, 0, .int 0, []),
    (150, .iadd, 151, 0, 0, .int 0, []),
    (151, .istore 7, 153, 7, 0, .int 0, []),
    (153, .iinc 8 1, 156, 8, 0, .int 1, []),
    (156, .goto (-101), 159, 55, 0, .int 0, []),
    (159, .iload 7, 161, 7, 0, .int 0, []),
    (161, .ireturn, 162, 0, 0, .int 0, [])])]
def m_Mod_share : xM := (xlk t_Mod_share, [], 11, ⟨"PrePressRoomModel", "share", "(IIII)I"⟩, prog_9_method_37_code, (some .int), 4, 111)
def t_Mod_proof : List (Nat × List (Nat × xI)) := [(24, [(0, .aload_n 0, 1, 0, 0, .int 0, []),
    (1, .iconst 0, 2, 0, 0, .int 0, []),
    (2, .putfield 81, 5, 7, 0, .retAddr 0, [756]),
    (5, .aload_n 0, 6, 0, 0, .int 0, []),
    (6, .iload_n 1, 7, 1, 0, .int 0, []),
    (7, .iconst 0, 8, 0, 0, .int 0, []),
    (8, .iload_n 2, 9, 2, 0, .int 0, []),
    (9, .iload_n 3, 10, 3, 0, .int 0, []),
    (10, .invokevirtual 113, 13, 128, 5, .retAddr 7, [899, 901, 25]),
    (13, .ifCond .ne 5, 16, 18, 0, .int 0, []),
    (16, .iconst 0, 17, 0, 0, .int 0, []),
    (17, .ireturn, 18, 0, 0, .int 0, []),
    (18, .iconst 0, 19, 0, 0, .int 0, []),
    (19, .istore 4, 21, 4, 0, .int 0, []),
    (21, .iconst 0, 22, 0, 0, .int 0, []),
    (22, .istore 5, 24, 5, 0, .int 0, [])]),
  (53, [(24, .iload 5, 26, 5, 0, .int 0, []),
    (26, .bipush 8, 28, 0, 0, .int 8, []),
    (28, .if_icmp .ge 34, 31, 62, 0, .int 0, []),
    (31, .iload 4, 33, 4, 0, .int 0, []),
    (33, .aload_n 0, 34, 0, 0, .int 0, []),
    (34, .iload_n 1, 35, 1, 0, .int 0, []),
    (35, .iload 5, 37, 5, 0, .int 0, []),
    (37, .iload_n 2, 38, 2, 0, .int 0, []),
    (38, .iload_n 3, 39, 3, 0, .int 0, []),
    (39, .invokevirtual 170, 42, 149, 5, .retAddr 7, [982, 984, 40]),
    (42, .ifCond .eq 10, 45, 52, 0, .int 0, []),
    (45, .iconst 1, 46, 0, 0, .int 1, []),
    (46, .iload 5, 48, 5, 0, .int 0, []),
    (48, .ishl, 49, 0, 0, .int 0, []),
    (49, .goto 4, 52, 53, 0, .int 0, []),
    (52, .iconst 0, 53, 0, 0, .int 0, [])]),
  (100000, [(53, .iadd, 54, 0, 0, .int 0, []),
    (54, .istore 4, 56, 4, 0, .int 0, []),
    (56, .iinc 5 1, 59, 5, 0, .int 1, []),
    (59, .goto (-35), 62, 24, 0, .int 0, []),
    (62, .iload 4, 64, 4, 0, .int 0, []),
    (64, .ireturn, 65, 0, 0, .int 0, [])])]
def m_Mod_proof : xM := (xlk t_Mod_proof, [], 6, ⟨"PrePressRoomModel", "proof", "(III)I"⟩, prog_9_method_38_code, (some .int), 6, 158)
def t_Mod_impose : List (Nat × List (Nat × xI)) := [(30, [(0, .aload_n 0, 1, 0, 0, .int 0, []),
    (1, .iconst 0, 2, 0, 0, .int 0, []),
    (2, .putfield 81, 5, 7, 0, .retAddr 0, [756]),
    (5, .iload_n 2, 6, 2, 0, .int 0, []),
    (6, .iconst 1, 7, 0, 0, .int 1, []),
    (7, .iconst 4, 8, 0, 0, .int 4, []),
    (8, .invokestatic 84, 11, 117, 3, .int 0, [859, 860]),
    (11, .ifCond .eq 14, 14, 25, 0, .int 0, []),
    (14, .iload_n 3, 15, 3, 0, .int 0, []),
    (15, .iconst 0, 16, 0, 0, .int 0, []),
    (16, .sipush 1000, 19, 0, 0, .int 1000, []),
    (19, .invokestatic 84, 22, 117, 3, .int 0, [859, 860]),
    (22, .ifCond .ne 9, 25, 31, 0, .int 0, []),
    (25, .aload_n 0, 26, 0, 0, .int 0, []),
    (26, .iconst 1, 27, 0, 0, .int 1, []),
    (27, .invokevirtual 88, 30, 118, 2, .retAddr 7, [862, 864, 23])]),
  (55, [(30, .ireturn, 31, 0, 0, .int 0, []),
    (31, .iconst 2, 32, 0, 0, .int 2, []),
    (32, .iload_n 2, 33, 2, 0, .int 0, []),
    (33, .ishl, 34, 0, 0, .int 0, []),
    (34, .istore 4, 36, 4, 0, .int 0, []),
    (36, .iload_n 1, 37, 1, 0, .int 0, []),
    (37, .iconst 1, 38, 0, 0, .int 1, []),
    (38, .bipush 64, 40, 0, 0, .int 64, []),
    (40, .invokestatic 84, 43, 117, 3, .int 0, [859, 860]),
    (43, .ifCond .eq 10, 46, 53, 0, .int 0, []),
    (46, .iload_n 1, 47, 1, 0, .int 0, []),
    (47, .iload 4, 49, 4, 0, .int 0, []),
    (49, .irem, 50, 0, 0, .int 0, []),
    (50, .ifCond .eq 9, 53, 59, 0, .int 0, []),
    (53, .aload_n 0, 54, 0, 0, .int 0, []),
    (54, .iconst 1, 55, 0, 0, .int 1, [])]),
  (80, [(55, .invokevirtual 88, 58, 118, 2, .retAddr 7, [862, 864, 23]),
    (58, .ireturn, 59, 0, 0, .int 0, []),
    (59, .aload_n 0, 60, 0, 0, .int 0, []),
    (60, .iload_n 2, 61, 2, 0, .int 0, []),
    (61, .putfield 176, 64, 7, 22, .retAddr 0, [778]),
    (64, .aload_n 0, 65, 0, 0, .int 0, []),
    (65, .iload_n 3, 66, 3, 0, .int 0, []),
    (66, .putfield 179, 69, 7, 24, .retAddr 0, [780]),
    (69, .aload_n 0, 70, 0, 0, .int 0, []),
    (70, .iconst 1, 71, 0, 0, .int 1, []),
    (71, .iload_n 2, 72, 2, 0, .int 0, []),
    (72, .ishl, 73, 0, 0, .int 0, []),
    (73, .putfield 173, 76, 7, 23, .retAddr 0, [779]),
    (76, .aload_n 0, 77, 0, 0, .int 0, []),
    (77, .iload_n 1, 78, 1, 0, .int 0, []),
    (78, .iload 4, 80, 4, 0, .int 0, [])]),
  (108, [(80, .idiv, 81, 0, 0, .int 0, []),
    (81, .putfield 182, 84, 7, 21, .retAddr 0, [777]),
    (84, .iload_n 2, 85, 2, 0, .int 0, []),
    (85, .iconst 3, 86, 0, 0, .int 3, []),
    (86, .if_icmp .ge 7, 89, 93, 0, .int 0, []),
    (89, .iconst 2, 90, 0, 0, .int 2, []),
    (90, .goto 4, 93, 94, 0, .int 0, []),
    (93, .iconst 4, 94, 0, 0, .int 4, []),
    (94, .istore 5, 96, 5, 0, .int 0, []),
    (96, .aload_n 0, 97, 0, 0, .int 0, []),
    (97, .getfield 173, 100, 7, 23, .int 0, [779]),
    (100, .iload 5, 102, 5, 0, .int 0, []),
    (102, .idiv, 103, 0, 0, .int 0, []),
    (103, .istore 6, 105, 6, 0, .int 0, []),
    (105, .iconst 0, 106, 0, 0, .int 0, []),
    (106, .istore 7, 108, 7, 0, .int 0, [])]),
  (139, [(108, .iload 7, 110, 7, 0, .int 0, []),
    (110, .aload_n 0, 111, 0, 0, .int 0, []),
    (111, .getfield 173, 114, 7, 23, .int 0, [779]),
    (114, .if_icmp .ge 57, 117, 171, 0, .int 0, []),
    (117, .aload_n 0, 118, 0, 0, .int 0, []),
    (118, .getfield 72, 121, 7, 28, .int 0, [784]),
    (121, .iload 7, 123, 7, 0, .int 0, []),
    (123, .iload 7, 125, 7, 0, .int 0, []),
    (125, .iload 5, 127, 5, 0, .int 0, []),
    (127, .irem, 128, 0, 0, .int 0, []),
    (128, .iastore, 129, 0, 0, .int 0, []),
    (129, .aload_n 0, 130, 0, 0, .int 0, []),
    (130, .getfield 75, 133, 7, 29, .int 0, [785]),
    (133, .iload 7, 135, 7, 0, .int 0, []),
    (135, .iload 7, 137, 7, 0, .int 0, []),
    (137, .iload 5, 139, 5, 0, .int 0, [])]),
  (164, [(139, .idiv, 140, 0, 0, .int 0, []),
    (140, .iastore, 141, 0, 0, .int 0, []),
    (141, .aload_n 0, 142, 0, 0, .int 0, []),
    (142, .getfield 78, 145, 7, 30, .int 0, [786]),
    (145, .iload 7, 147, 7, 0, .int 0, []),
    (147, .iconst 0, 148, 0, 0, .int 0, []),
    (148, .iastore, 149, 0, 0, .int 0, []),
    (149, .aload_n 0, 150, 0, 0, .int 0, []),
    (150, .getfield 66, 153, 7, 26, .int 0, [782]),
    (153, .iload 7, 155, 7, 0, .int 0, []),
    (155, .iconst 0, 156, 0, 0, .int 0, []),
    (156, .iastore, 157, 0, 0, .int 0, []),
    (157, .aload_n 0, 158, 0, 0, .int 0, []),
    (158, .getfield 69, 161, 7, 27, .int 0, [783]),
    (161, .iload 7, 163, 7, 0, .int 0, []),
    (163, .iconst 0, 164, 0, 0, .int 0, [])]),
  (194, [(164, .iastore, 165, 0, 0, .int 0, []),
    (165, .iinc 7 1, 168, 7, 0, .int 1, []),
    (168, .goto (-60), 171, 108, 0, .int 0, []),
    (171, .iconst 0, 172, 0, 0, .int 0, []),
    (172, .istore 7, 174, 7, 0, .int 0, []),
    (174, .iload 7, 176, 7, 0, .int 0, []),
    (176, .iload_n 2, 177, 2, 0, .int 0, []),
    (177, .if_icmp .ge 61, 180, 238, 0, .int 0, []),
    (180, .iload 7, 182, 7, 0, .int 0, []),
    (182, .iconst 2, 183, 0, 0, .int 2, []),
    (183, .irem, 184, 0, 0, .int 0, []),
    (184, .ifCond .ne 7, 187, 191, 0, .int 0, []),
    (187, .iconst 1, 188, 0, 0, .int 1, []),
    (188, .goto 4, 191, 192, 0, .int 0, []),
    (191, .iconst 0, 192, 0, 0, .int 0, []),
    (192, .istore 8, 194, 8, 0, .int 0, [])]),
  (228, [(194, .aload_n 0, 195, 0, 0, .int 0, []),
    (195, .iload 8, 197, 8, 0, .int 0, []),
    (197, .iload 8, 199, 8, 0, .int 0, []),
    (199, .ifCond .eq 8, 202, 207, 0, .int 0, []),
    (202, .iload 5, 204, 5, 0, .int 0, []),
    (204, .goto 5, 207, 209, 0, .int 0, []),
    (207, .iload 6, 209, 6, 0, .int 0, []),
    (209, .invokevirtual 185, 212, 153, 3, .retAddr 7, [998, 1000, 41]),
    (212, .iload 8, 214, 8, 0, .int 0, []),
    (214, .ifCond .eq 12, 217, 226, 0, .int 0, []),
    (217, .iload 5, 219, 5, 0, .int 0, []),
    (219, .iconst 2, 220, 0, 0, .int 2, []),
    (220, .idiv, 221, 0, 0, .int 0, []),
    (221, .istore 5, 223, 5, 0, .int 0, []),
    (223, .goto 9, 226, 232, 0, .int 0, []),
    (226, .iload 6, 228, 6, 0, .int 0, [])]),
  (260, [(228, .iconst 2, 229, 0, 0, .int 2, []),
    (229, .idiv, 230, 0, 0, .int 0, []),
    (230, .istore 6, 232, 6, 0, .int 0, []),
    (232, .iinc 7 1, 235, 7, 0, .int 1, []),
    (235, .goto (-61), 238, 174, 0, .int 0, []),
    (238, .iconst 0, 239, 0, 0, .int 0, []),
    (239, .istore 7, 241, 7, 0, .int 0, []),
    (241, .iload 7, 243, 7, 0, .int 0, []),
    (243, .aload_n 0, 244, 0, 0, .int 0, []),
    (244, .getfield 173, 247, 7, 23, .int 0, [779]),
    (247, .if_icmp .ge 23, 250, 270, 0, .int 0, []),
    (250, .aload_n 0, 251, 0, 0, .int 0, []),
    (251, .getfield 63, 254, 7, 25, .int 0, [781]),
    (254, .aload_n 0, 255, 0, 0, .int 0, []),
    (255, .getfield 78, 258, 7, 30, .int 0, [786]),
    (258, .iload 7, 260, 7, 0, .int 0, [])]),
  (100000, [(260, .iaload, 261, 0, 0, .int 0, []),
    (261, .iload 7, 263, 7, 0, .int 0, []),
    (263, .iastore, 264, 0, 0, .int 0, []),
    (264, .iinc 7 1, 267, 7, 0, .int 1, []),
    (267, .goto (-26), 270, 241, 0, .int 0, []),
    (270, .aload_n 0, 271, 0, 0, .int 0, []),
    (271, .getfield 182, 274, 7, 21, .int 0, [777]),
    (274, .ireturn, 275, 0, 0, .int 0, [])])]
def m_Mod_impose : xM := (xlk t_Mod_impose, [], 9, ⟨"PrePressRoomModel", "impose", "(III)I"⟩, prog_9_method_40_code, (some .int), 1, 25)
end
section
def t_Mod_fold : List (Nat × List (Nat × xI)) := [(29, [(0, .iconst 0, 1, 0, 0, .int 0, []),
    (1, .istore_n 3, 2, 3, 0, .int 0, []),
    (2, .iconst 0, 3, 0, 0, .int 0, []),
    (3, .istore 4, 5, 4, 0, .int 0, []),
    (5, .iload 4, 7, 4, 0, .int 0, []),
    (7, .aload_n 0, 8, 0, 0, .int 0, []),
    (8, .getfield 173, 11, 7, 23, .int 0, [779]),
    (11, .if_icmp .ge 32, 14, 43, 0, .int 0, []),
    (14, .aload_n 0, 15, 0, 0, .int 0, []),
    (15, .getfield 78, 18, 7, 30, .int 0, [786]),
    (18, .iload 4, 20, 4, 0, .int 0, []),
    (20, .iaload, 21, 0, 0, .int 0, []),
    (21, .iload_n 3, 22, 3, 0, .int 0, []),
    (22, .if_icmp .le 13, 25, 35, 0, .int 0, []),
    (25, .aload_n 0, 26, 0, 0, .int 0, []),
    (26, .getfield 78, 29, 7, 30, .int 0, [786])]),
  (60, [(29, .iload 4, 31, 4, 0, .int 0, []),
    (31, .iaload, 32, 0, 0, .int 0, []),
    (32, .goto 4, 35, 36, 0, .int 0, []),
    (35, .iload_n 3, 36, 3, 0, .int 0, []),
    (36, .istore_n 3, 37, 3, 0, .int 0, []),
    (37, .iinc 4 1, 40, 4, 0, .int 1, []),
    (40, .goto (-35), 43, 5, 0, .int 0, []),
    (43, .iconst 0, 44, 0, 0, .int 0, []),
    (44, .istore 4, 46, 4, 0, .int 0, []),
    (46, .iload 4, 48, 4, 0, .int 0, []),
    (48, .aload_n 0, 49, 0, 0, .int 0, []),
    (49, .getfield 173, 52, 7, 23, .int 0, [779]),
    (52, .if_icmp .ge 161, 55, 213, 0, .int 0, []),
    (55, .iload_n 1, 56, 1, 0, .int 0, []),
    (56, .ifCond .eq 13, 59, 69, 0, .int 0, []),
    (59, .aload_n 0, 60, 0, 0, .int 0, [])]),
  (90, [(60, .getfield 72, 63, 7, 28, .int 0, [784]),
    (63, .iload 4, 65, 4, 0, .int 0, []),
    (65, .iaload, 66, 0, 0, .int 0, []),
    (66, .goto 10, 69, 76, 0, .int 0, []),
    (69, .aload_n 0, 70, 0, 0, .int 0, []),
    (70, .getfield 75, 73, 7, 29, .int 0, [785]),
    (73, .iload 4, 75, 4, 0, .int 0, []),
    (75, .iaload, 76, 0, 0, .int 0, []),
    (76, .istore 5, 78, 5, 0, .int 0, []),
    (78, .iload 5, 80, 5, 0, .int 0, []),
    (80, .iload_n 2, 81, 2, 0, .int 0, []),
    (81, .iconst 2, 82, 0, 0, .int 2, []),
    (82, .idiv, 83, 0, 0, .int 0, []),
    (83, .if_icmp .lt 111, 86, 194, 0, .int 0, []),
    (86, .aload_n 0, 87, 0, 0, .int 0, []),
    (87, .getfield 78, 90, 7, 30, .int 0, [786])]),
  (116, [(90, .iload 4, 92, 4, 0, .int 0, []),
    (92, .iload_n 3, 93, 3, 0, .int 0, []),
    (93, .aload_n 0, 94, 0, 0, .int 0, []),
    (94, .getfield 78, 97, 7, 30, .int 0, [786]),
    (97, .iload 4, 99, 4, 0, .int 0, []),
    (99, .iaload, 100, 0, 0, .int 0, []),
    (100, .isub, 101, 0, 0, .int 0, []),
    (101, .iastore, 102, 0, 0, .int 0, []),
    (102, .aload_n 0, 103, 0, 0, .int 0, []),
    (103, .getfield 66, 106, 7, 26, .int 0, [782]),
    (106, .iload 4, 108, 4, 0, .int 0, []),
    (108, .iconst 1, 109, 0, 0, .int 1, []),
    (109, .aload_n 0, 110, 0, 0, .int 0, []),
    (110, .getfield 66, 113, 7, 26, .int 0, [782]),
    (113, .iload 4, 115, 4, 0, .int 0, []),
    (115, .iaload, 116, 0, 0, .int 0, [])]),
  (145, [(116, .isub, 117, 0, 0, .int 0, []),
    (117, .iastore, 118, 0, 0, .int 0, []),
    (118, .aload_n 0, 119, 0, 0, .int 0, []),
    (119, .getfield 69, 122, 7, 27, .int 0, [783]),
    (122, .iload 4, 124, 4, 0, .int 0, []),
    (124, .iload_n 1, 125, 1, 0, .int 0, []),
    (125, .ifCond .eq 13, 128, 138, 0, .int 0, []),
    (128, .aload_n 0, 129, 0, 0, .int 0, []),
    (129, .getfield 69, 132, 7, 27, .int 0, [783]),
    (132, .iload 4, 134, 4, 0, .int 0, []),
    (134, .iaload, 135, 0, 0, .int 0, []),
    (135, .goto 12, 138, 147, 0, .int 0, []),
    (138, .iconst 1, 139, 0, 0, .int 1, []),
    (139, .aload_n 0, 140, 0, 0, .int 0, []),
    (140, .getfield 69, 143, 7, 27, .int 0, [783]),
    (143, .iload 4, 145, 4, 0, .int 0, [])]),
  (169, [(145, .iaload, 146, 0, 0, .int 0, []),
    (146, .isub, 147, 0, 0, .int 0, []),
    (147, .iastore, 148, 0, 0, .int 0, []),
    (148, .iload_n 1, 149, 1, 0, .int 0, []),
    (149, .ifCond .eq 24, 152, 173, 0, .int 0, []),
    (152, .aload_n 0, 153, 0, 0, .int 0, []),
    (153, .getfield 72, 156, 7, 28, .int 0, [784]),
    (156, .iload 4, 158, 4, 0, .int 0, []),
    (158, .iload_n 2, 159, 2, 0, .int 0, []),
    (159, .iconst 1, 160, 0, 0, .int 1, []),
    (160, .isub, 161, 0, 0, .int 0, []),
    (161, .aload_n 0, 162, 0, 0, .int 0, []),
    (162, .getfield 72, 165, 7, 28, .int 0, [784]),
    (165, .iload 4, 167, 4, 0, .int 0, []),
    (167, .iaload, 168, 0, 0, .int 0, []),
    (168, .isub, 169, 0, 0, .int 0, [])]),
  (195, [(169, .iastore, 170, 0, 0, .int 0, []),
    (170, .goto 37, 173, 207, 0, .int 0, []),
    (173, .aload_n 0, 174, 0, 0, .int 0, []),
    (174, .getfield 75, 177, 7, 29, .int 0, [785]),
    (177, .iload 4, 179, 4, 0, .int 0, []),
    (179, .iload_n 2, 180, 2, 0, .int 0, []),
    (180, .iconst 1, 181, 0, 0, .int 1, []),
    (181, .isub, 182, 0, 0, .int 0, []),
    (182, .aload_n 0, 183, 0, 0, .int 0, []),
    (183, .getfield 75, 186, 7, 29, .int 0, [785]),
    (186, .iload 4, 188, 4, 0, .int 0, []),
    (188, .iaload, 189, 0, 0, .int 0, []),
    (189, .isub, 190, 0, 0, .int 0, []),
    (190, .iastore, 191, 0, 0, .int 0, []),
    (191, .goto 16, 194, 207, 0, .int 0, []),
    (194, .aload_n 0, 195, 0, 0, .int 0, [])]),
  (100000, [(195, .getfield 78, 198, 7, 30, .int 0, [786]),
    (198, .iload 4, 200, 4, 0, .int 0, []),
    (200, .dup2, 201, 0, 0, .int 0, []),
    (201, .iaload, 202, 0, 0, .int 0, []),
    (202, .iload_n 3, 203, 3, 0, .int 0, []),
    (203, .iconst 1, 204, 0, 0, .int 1, []),
    (204, .iadd, 205, 0, 0, .int 0, []),
    (205, .iadd, 206, 0, 0, .int 0, []),
    (206, .iastore, 207, 0, 0, .int 0, []),
    (207, .iinc 4 1, 210, 4, 0, .int 1, []),
    (210, .goto (-164), 213, 46, 0, .int 0, []),
    (213, .return_, 214, 0, 0, .int 0, [])])]
def m_Mod_fold : xM := (xlk t_Mod_fold, [], 6, ⟨"PrePressRoomModel", "fold", "(ZI)V"⟩, prog_9_method_39_code, none, 0, 0)
def t_Mod_slot : List (Nat × List (Nat × xI)) := [(26, [(0, .aload_n 0, 1, 0, 0, .int 0, []),
    (1, .iconst 0, 2, 0, 0, .int 0, []),
    (2, .putfield 81, 5, 7, 0, .retAddr 0, [756]),
    (5, .aload_n 0, 6, 0, 0, .int 0, []),
    (6, .getfield 182, 9, 7, 21, .int 0, [777]),
    (9, .ifCond .ne 9, 12, 18, 0, .int 0, []),
    (12, .aload_n 0, 13, 0, 0, .int 0, []),
    (13, .iconst 1, 14, 0, 0, .int 1, []),
    (14, .invokevirtual 88, 17, 118, 2, .retAddr 7, [862, 864, 23]),
    (17, .ireturn, 18, 0, 0, .int 0, []),
    (18, .iload_n 1, 19, 1, 0, .int 0, []),
    (19, .iconst 0, 20, 0, 0, .int 0, []),
    (20, .aload_n 0, 21, 0, 0, .int 0, []),
    (21, .getfield 182, 24, 7, 21, .int 0, [777]),
    (24, .iconst 1, 25, 0, 0, .int 1, []),
    (25, .isub, 26, 0, 0, .int 0, [])]),
  (57, [(26, .invokestatic 84, 29, 117, 3, .int 0, [859, 860]),
    (29, .ifCond .eq 36, 32, 65, 0, .int 0, []),
    (32, .iload_n 2, 33, 2, 0, .int 0, []),
    (33, .iconst 0, 34, 0, 0, .int 0, []),
    (34, .iconst 1, 35, 0, 0, .int 1, []),
    (35, .invokestatic 84, 38, 117, 3, .int 0, [859, 860]),
    (38, .ifCond .eq 27, 41, 65, 0, .int 0, []),
    (41, .iload_n 3, 42, 3, 0, .int 0, []),
    (42, .iconst 0, 43, 0, 0, .int 0, []),
    (43, .aload_n 0, 44, 0, 0, .int 0, []),
    (44, .getfield 173, 47, 7, 23, .int 0, [779]),
    (47, .iconst 1, 48, 0, 0, .int 1, []),
    (48, .isub, 49, 0, 0, .int 0, []),
    (49, .invokestatic 84, 52, 117, 3, .int 0, [859, 860]),
    (52, .ifCond .eq 13, 55, 65, 0, .int 0, []),
    (55, .iload 4, 57, 4, 0, .int 0, [])]),
  (85, [(57, .iconst 0, 58, 0, 0, .int 0, []),
    (58, .iconst 2, 59, 0, 0, .int 2, []),
    (59, .invokestatic 84, 62, 117, 3, .int 0, [859, 860]),
    (62, .ifCond .ne 9, 65, 71, 0, .int 0, []),
    (65, .aload_n 0, 66, 0, 0, .int 0, []),
    (66, .iconst 2, 67, 0, 0, .int 2, []),
    (67, .invokevirtual 88, 70, 118, 2, .retAddr 7, [862, 864, 23]),
    (70, .ireturn, 71, 0, 0, .int 0, []),
    (71, .aload_n 0, 72, 0, 0, .int 0, []),
    (72, .getfield 78, 75, 7, 30, .int 0, [786]),
    (75, .iload_n 3, 76, 3, 0, .int 0, []),
    (76, .iaload, 77, 0, 0, .int 0, []),
    (77, .istore 5, 79, 5, 0, .int 0, []),
    (79, .iload 4, 81, 4, 0, .int 0, []),
    (81, .ifCond .ne 33, 84, 114, 0, .int 0, []),
    (84, .iconst 2, 85, 0, 0, .int 2, [])]),
  (108, [(85, .aload_n 0, 86, 0, 0, .int 0, []),
    (86, .getfield 173, 89, 7, 23, .int 0, [779]),
    (89, .imul, 90, 0, 0, .int 0, []),
    (90, .iload_n 1, 91, 1, 0, .int 0, []),
    (91, .imul, 92, 0, 0, .int 0, []),
    (92, .iconst 2, 93, 0, 0, .int 2, []),
    (93, .iload 5, 95, 5, 0, .int 0, []),
    (95, .imul, 96, 0, 0, .int 0, []),
    (96, .iadd, 97, 0, 0, .int 0, []),
    (97, .iload_n 2, 98, 2, 0, .int 0, []),
    (98, .aload_n 0, 99, 0, 0, .int 0, []),
    (99, .getfield 66, 102, 7, 26, .int 0, [782]),
    (102, .iload_n 3, 103, 3, 0, .int 0, []),
    (103, .iaload, 104, 0, 0, .int 0, []),
    (104, .if_icmp .ne 7, 107, 111, 0, .int 0, []),
    (107, .iconst 0, 108, 0, 0, .int 0, [])]),
  (134, [(108, .goto 4, 111, 112, 0, .int 0, []),
    (111, .iconst 1, 112, 0, 0, .int 1, []),
    (112, .iadd, 113, 0, 0, .int 0, []),
    (113, .ireturn, 114, 0, 0, .int 0, []),
    (114, .iload 4, 116, 4, 0, .int 0, []),
    (116, .iconst 1, 117, 0, 0, .int 1, []),
    (117, .if_icmp .ne 10, 120, 127, 0, .int 0, []),
    (120, .aload_n 0, 121, 0, 0, .int 0, []),
    (121, .getfield 69, 124, 7, 27, .int 0, [783]),
    (124, .iload_n 3, 125, 3, 0, .int 0, []),
    (125, .iaload, 126, 0, 0, .int 0, []),
    (126, .ireturn, 127, 0, 0, .int 0, []),
    (127, .iload 5, 129, 5, 0, .int 0, []),
    (129, .aload_n 0, 130, 0, 0, .int 0, []),
    (130, .getfield 173, 133, 7, 23, .int 0, [779]),
    (133, .iconst 1, 134, 0, 0, .int 1, [])]),
  (162, [(134, .isub, 135, 0, 0, .int 0, []),
    (135, .iload 5, 137, 5, 0, .int 0, []),
    (137, .isub, 138, 0, 0, .int 0, []),
    (138, .if_icmp .ge 8, 141, 146, 0, .int 0, []),
    (141, .iload 5, 143, 5, 0, .int 0, []),
    (143, .goto 12, 146, 155, 0, .int 0, []),
    (146, .aload_n 0, 147, 0, 0, .int 0, []),
    (147, .getfield 173, 150, 7, 23, .int 0, [779]),
    (150, .iconst 1, 151, 0, 0, .int 1, []),
    (151, .isub, 152, 0, 0, .int 0, []),
    (152, .iload 5, 154, 5, 0, .int 0, []),
    (154, .isub, 155, 0, 0, .int 0, []),
    (155, .istore 6, 157, 6, 0, .int 0, []),
    (157, .aload_n 0, 158, 0, 0, .int 0, []),
    (158, .getfield 173, 161, 7, 23, .int 0, [779]),
    (161, .iconst 2, 162, 0, 0, .int 2, [])]),
  (100000, [(162, .if_icmp .ne 7, 165, 169, 0, .int 0, []),
    (165, .iconst 0, 166, 0, 0, .int 0, []),
    (166, .goto 19, 169, 185, 0, .int 0, []),
    (169, .aload_n 0, 170, 0, 0, .int 0, []),
    (170, .getfield 179, 173, 7, 24, .int 0, [780]),
    (173, .iload 6, 175, 6, 0, .int 0, []),
    (175, .imul, 176, 0, 0, .int 0, []),
    (176, .aload_n 0, 177, 0, 0, .int 0, []),
    (177, .getfield 173, 180, 7, 23, .int 0, [779]),
    (180, .iconst 2, 181, 0, 0, .int 2, []),
    (181, .idiv, 182, 0, 0, .int 0, []),
    (182, .iconst 1, 183, 0, 0, .int 1, []),
    (183, .isub, 184, 0, 0, .int 0, []),
    (184, .idiv, 185, 0, 0, .int 0, []),
    (185, .ireturn, 186, 0, 0, .int 0, [])])]
def m_Mod_slot : xM := (xlk t_Mod_slot, [], 7, ⟨"PrePressRoomModel", "slot", "(IIII)I"⟩, prog_9_method_41_code, (some .int), 1, 22)
def t_Mod_read : List (Nat × List (Nat × xI)) := [(26, [(0, .aload_n 0, 1, 0, 0, .int 0, []),
    (1, .iconst 0, 2, 0, 0, .int 0, []),
    (2, .putfield 81, 5, 7, 0, .retAddr 0, [756]),
    (5, .aload_n 0, 6, 0, 0, .int 0, []),
    (6, .getfield 182, 9, 7, 21, .int 0, [777]),
    (9, .ifCond .ne 9, 12, 18, 0, .int 0, []),
    (12, .aload_n 0, 13, 0, 0, .int 0, []),
    (13, .iconst 1, 14, 0, 0, .int 1, []),
    (14, .invokevirtual 88, 17, 118, 2, .retAddr 7, [862, 864, 23]),
    (17, .ireturn, 18, 0, 0, .int 0, []),
    (18, .iload_n 1, 19, 1, 0, .int 0, []),
    (19, .iconst 0, 20, 0, 0, .int 0, []),
    (20, .iconst 2, 21, 0, 0, .int 2, []),
    (21, .aload_n 0, 22, 0, 0, .int 0, []),
    (22, .getfield 173, 25, 7, 23, .int 0, [779]),
    (25, .imul, 26, 0, 0, .int 0, [])]),
  (54, [(26, .iconst 1, 27, 0, 0, .int 1, []),
    (27, .isub, 28, 0, 0, .int 0, []),
    (28, .invokestatic 84, 31, 117, 3, .int 0, [859, 860]),
    (31, .ifCond .eq 12, 34, 43, 0, .int 0, []),
    (34, .iload_n 2, 35, 2, 0, .int 0, []),
    (35, .iconst 0, 36, 0, 0, .int 0, []),
    (36, .iconst 1, 37, 0, 0, .int 1, []),
    (37, .invokestatic 84, 40, 117, 3, .int 0, [859, 860]),
    (40, .ifCond .ne 9, 43, 49, 0, .int 0, []),
    (43, .aload_n 0, 44, 0, 0, .int 0, []),
    (44, .iconst 2, 45, 0, 0, .int 2, []),
    (45, .invokevirtual 88, 48, 118, 2, .retAddr 7, [862, 864, 23]),
    (48, .ireturn, 49, 0, 0, .int 0, []),
    (49, .aload_n 0, 50, 0, 0, .int 0, []),
    (50, .getfield 63, 53, 7, 25, .int 0, [781]),
    (53, .iload_n 1, 54, 1, 0, .int 0, [])]),
  (78, [(54, .iconst 2, 55, 0, 0, .int 2, []),
    (55, .idiv, 56, 0, 0, .int 0, []),
    (56, .iaload, 57, 0, 0, .int 0, []),
    (57, .istore_n 3, 58, 3, 0, .int 0, []),
    (58, .iload_n 2, 59, 2, 0, .int 0, []),
    (59, .ifCond .ne 7, 62, 66, 0, .int 0, []),
    (62, .iload_n 3, 63, 3, 0, .int 0, []),
    (63, .goto 26, 66, 89, 0, .int 0, []),
    (66, .iload_n 1, 67, 1, 0, .int 0, []),
    (67, .iconst 2, 68, 0, 0, .int 2, []),
    (68, .irem, 69, 0, 0, .int 0, []),
    (69, .ifCond .ne 12, 72, 81, 0, .int 0, []),
    (72, .aload_n 0, 73, 0, 0, .int 0, []),
    (73, .getfield 66, 76, 7, 26, .int 0, [782]),
    (76, .iload_n 3, 77, 3, 0, .int 0, []),
    (77, .iaload, 78, 0, 0, .int 0, [])]),
  (100000, [(78, .goto 11, 81, 89, 0, .int 0, []),
    (81, .iconst 1, 82, 0, 0, .int 1, []),
    (82, .aload_n 0, 83, 0, 0, .int 0, []),
    (83, .getfield 66, 86, 7, 26, .int 0, [782]),
    (86, .iload_n 3, 87, 3, 0, .int 0, []),
    (87, .iaload, 88, 0, 0, .int 0, []),
    (88, .isub, 89, 0, 0, .int 0, []),
    (89, .ireturn, 90, 0, 0, .int 0, [])])]
def m_Mod_read : xM := (xlk t_Mod_read, [], 4, ⟨"PrePressRoomModel", "read", "(II)I"⟩, prog_9_method_42_code, (some .int), 1, 22)
def t_Law_law : List (Nat × List (Nat × xI)) := [(27, [(0, .new 8, 3, 0, 8, .int 0, [62, 63, 43]),
    (3, .dup, 4, 0, 0, .int 0, []),
    (4, .invokespecial 70, 7, 0, 1, .int 0, [64, 65]),
    (7, .astore_n 1, 8, 1, 0, .int 0, []),
    (8, .new 71, 11, 7, 31, .int 0, [750, 751, 53]),
    (11, .dup, 12, 0, 0, .int 0, []),
    (12, .invokespecial 73, 15, 114, 1, .int 0, [752, 753]),
    (15, .astore_n 2, 16, 2, 0, .int 0, []),
    (16, .iconst 1, 17, 0, 0, .int 1, []),
    (17, .newarray .long, 19, 1, 0, .int 0, [118]),
    (19, .astore_n 3, 20, 3, 0, .int 0, []),
    (20, .iconst 0, 21, 0, 0, .int 0, []),
    (21, .istore 4, 23, 4, 0, .int 0, []),
    (23, .iload 4, 25, 4, 0, .int 0, []),
    (25, .aload_n 0, 26, 0, 0, .int 0, []),
    (26, .arraylength, 27, 0, 0, .int 0, [])]),
  (128, [(27, .bipush 7, 29, 0, 0, .int 7, []),
    (29, .isub, 30, 0, 0, .int 0, []),
    (30, .if_icmp .gt 1401, 33, 1431, 0, .int 0, []),
    (33, .aload_n 0, 34, 0, 0, .int 0, []),
    (34, .iload 4, 36, 4, 0, .int 0, []),
    (36, .iaload, 37, 0, 0, .int 0, []),
    (37, .bipush 15, 39, 0, 0, .int 15, []),
    (39, .iand, 40, 0, 0, .int 0, []),
    (40, .tableswitch 1385 0 15 #[80, 160, 278, 358, 406, 462, 554, 622, 702, 794, 874, 973, 1065, 1145, 1225, 1317], 120, 1425, 0, .int 0, []),
    (120, .aload_n 1, 121, 1, 0, .int 0, []),
    (121, .aload_n 0, 122, 0, 0, .int 0, []),
    (122, .iload 4, 124, 4, 0, .int 0, []),
    (124, .iconst 1, 125, 0, 0, .int 1, []),
    (125, .iadd, 126, 0, 0, .int 0, []),
    (126, .iaload, 127, 0, 0, .int 0, []),
    (127, .aload_n 0, 128, 0, 0, .int 0, [])]),
  (150, [(128, .iload 4, 130, 4, 0, .int 0, []),
    (130, .iconst 2, 131, 0, 0, .int 2, []),
    (131, .iadd, 132, 0, 0, .int 0, []),
    (132, .iaload, 133, 0, 0, .int 0, []),
    (133, .aload_n 0, 134, 0, 0, .int 0, []),
    (134, .iload 4, 136, 4, 0, .int 0, []),
    (136, .iconst 3, 137, 0, 0, .int 3, []),
    (137, .iadd, 138, 0, 0, .int 0, []),
    (138, .iaload, 139, 0, 0, .int 0, []),
    (139, .aload_n 3, 140, 3, 0, .int 0, []),
    (140, .invokestatic 74, 143, 24, 5, .int 0, [299, 300]),
    (143, .istore 5, 145, 5, 0, .int 0, []),
    (145, .aload_n 2, 146, 2, 0, .int 0, []),
    (146, .aload_n 0, 147, 0, 0, .int 0, []),
    (147, .iload 4, 149, 4, 0, .int 0, []),
    (149, .iconst 1, 150, 0, 0, .int 1, [])]),
  (173, [(150, .iadd, 151, 0, 0, .int 0, []),
    (151, .iaload, 152, 0, 0, .int 0, []),
    (152, .aload_n 0, 153, 0, 0, .int 0, []),
    (153, .iload 4, 155, 4, 0, .int 0, []),
    (155, .iconst 2, 156, 0, 0, .int 2, []),
    (156, .iadd, 157, 0, 0, .int 0, []),
    (157, .iaload, 158, 0, 0, .int 0, []),
    (158, .aload_n 0, 159, 0, 0, .int 0, []),
    (159, .iload 4, 161, 4, 0, .int 0, []),
    (161, .iconst 3, 162, 0, 0, .int 3, []),
    (162, .iadd, 163, 0, 0, .int 0, []),
    (163, .iaload, 164, 0, 0, .int 0, []),
    (164, .invokevirtual 79, 167, 116, 4, .retAddr 7, [855, 856, 857]),
    (167, .istore 6, 169, 6, 0, .int 0, []),
    (169, .aload_n 2, 170, 2, 0, .int 0, []),
    (170, .invokevirtual 80, 173, 115, 1, .retAddr 7, [851, 852, 853])]),
  (200, [(173, .iload 5, 175, 5, 0, .int 0, []),
    (175, .if_icmp .eq 5, 178, 180, 0, .int 0, []),
    (178, .iconst 0, 179, 0, 0, .int 0, []),
    (179, .ireturn, 180, 0, 0, .int 0, []),
    (180, .iload 5, 182, 5, 0, .int 0, []),
    (182, .ifCond .ne 15, 185, 197, 0, .int 0, []),
    (185, .aload_n 3, 186, 3, 0, .int 0, []),
    (186, .iconst 0, 187, 0, 0, .int 0, []),
    (187, .laload, 188, 0, 0, .int 0, []),
    (188, .iload 6, 190, 6, 0, .int 0, []),
    (190, .i2l, 191, 0, 0, .int 0, []),
    (191, .lcmp, 192, 0, 0, .int 0, []),
    (192, .ifCond .eq 5, 195, 197, 0, .int 0, []),
    (195, .iconst 0, 196, 0, 0, .int 0, []),
    (196, .ireturn, 197, 0, 0, .int 0, []),
    (197, .goto 1228, 200, 1425, 0, .int 0, [])]),
  (219, [(200, .aload_n 1, 201, 1, 0, .int 0, []),
    (201, .aload_n 0, 202, 0, 0, .int 0, []),
    (202, .iload 4, 204, 4, 0, .int 0, []),
    (204, .iconst 1, 205, 0, 0, .int 1, []),
    (205, .iadd, 206, 0, 0, .int 0, []),
    (206, .iaload, 207, 0, 0, .int 0, []),
    (207, .aload_n 0, 208, 0, 0, .int 0, []),
    (208, .iload 4, 210, 4, 0, .int 0, []),
    (210, .iconst 2, 211, 0, 0, .int 2, []),
    (211, .iadd, 212, 0, 0, .int 0, []),
    (212, .iaload, 213, 0, 0, .int 0, []),
    (213, .aload_n 0, 214, 0, 0, .int 0, []),
    (214, .iload 4, 216, 4, 0, .int 0, []),
    (216, .iconst 3, 217, 0, 0, .int 3, []),
    (217, .iadd, 218, 0, 0, .int 0, []),
    (218, .iaload, 219, 0, 0, .int 0, [])]),
  (239, [(219, .aload_n 0, 220, 0, 0, .int 0, []),
    (220, .iload 4, 222, 4, 0, .int 0, []),
    (222, .iconst 4, 223, 0, 0, .int 4, []),
    (223, .iadd, 224, 0, 0, .int 0, []),
    (224, .iaload, 225, 0, 0, .int 0, []),
    (225, .aload_n 0, 226, 0, 0, .int 0, []),
    (226, .iload 4, 228, 4, 0, .int 0, []),
    (228, .iconst 5, 229, 0, 0, .int 5, []),
    (229, .iadd, 230, 0, 0, .int 0, []),
    (230, .iaload, 231, 0, 0, .int 0, []),
    (231, .aload_n 0, 232, 0, 0, .int 0, []),
    (232, .iload 4, 234, 4, 0, .int 0, []),
    (234, .bipush 6, 236, 0, 0, .int 6, []),
    (236, .iadd, 237, 0, 0, .int 0, []),
    (237, .iaload, 238, 0, 0, .int 0, []),
    (238, .aload_n 3, 239, 3, 0, .int 0, [])]),
  (261, [(239, .invokestatic 84, 242, 29, 8, .int 0, [419, 420]),
    (242, .istore 5, 244, 5, 0, .int 0, []),
    (244, .aload_n 2, 245, 2, 0, .int 0, []),
    (245, .aload_n 0, 246, 0, 0, .int 0, []),
    (246, .iload 4, 248, 4, 0, .int 0, []),
    (248, .iconst 1, 249, 0, 0, .int 1, []),
    (249, .iadd, 250, 0, 0, .int 0, []),
    (250, .iaload, 251, 0, 0, .int 0, []),
    (251, .aload_n 0, 252, 0, 0, .int 0, []),
    (252, .iload 4, 254, 4, 0, .int 0, []),
    (254, .iconst 2, 255, 0, 0, .int 2, []),
    (255, .iadd, 256, 0, 0, .int 0, []),
    (256, .iaload, 257, 0, 0, .int 0, []),
    (257, .aload_n 0, 258, 0, 0, .int 0, []),
    (258, .iload 4, 260, 4, 0, .int 0, []),
    (260, .iconst 3, 261, 0, 0, .int 3, [])]),
  (281, [(261, .iadd, 262, 0, 0, .int 0, []),
    (262, .iaload, 263, 0, 0, .int 0, []),
    (263, .aload_n 0, 264, 0, 0, .int 0, []),
    (264, .iload 4, 266, 4, 0, .int 0, []),
    (266, .iconst 4, 267, 0, 0, .int 4, []),
    (267, .iadd, 268, 0, 0, .int 0, []),
    (268, .iaload, 269, 0, 0, .int 0, []),
    (269, .aload_n 0, 270, 0, 0, .int 0, []),
    (270, .iload 4, 272, 4, 0, .int 0, []),
    (272, .iconst 5, 273, 0, 0, .int 5, []),
    (273, .iadd, 274, 0, 0, .int 0, []),
    (274, .iaload, 275, 0, 0, .int 0, []),
    (275, .aload_n 0, 276, 0, 0, .int 0, []),
    (276, .iload 4, 278, 4, 0, .int 0, []),
    (278, .bipush 6, 280, 0, 0, .int 6, []),
    (280, .iadd, 281, 0, 0, .int 0, [])]),
  (309, [(281, .iaload, 282, 0, 0, .int 0, []),
    (282, .invokevirtual 87, 285, 119, 7, .retAddr 7, [866, 867, 868]),
    (285, .istore 6, 287, 6, 0, .int 0, []),
    (287, .aload_n 2, 288, 2, 0, .int 0, []),
    (288, .invokevirtual 80, 291, 115, 1, .retAddr 7, [851, 852, 853]),
    (291, .iload 5, 293, 5, 0, .int 0, []),
    (293, .if_icmp .eq 5, 296, 298, 0, .int 0, []),
    (296, .iconst 0, 297, 0, 0, .int 0, []),
    (297, .ireturn, 298, 0, 0, .int 0, []),
    (298, .iload 5, 300, 5, 0, .int 0, []),
    (300, .ifCond .ne 15, 303, 315, 0, .int 0, []),
    (303, .aload_n 3, 304, 3, 0, .int 0, []),
    (304, .iconst 0, 305, 0, 0, .int 0, []),
    (305, .laload, 306, 0, 0, .int 0, []),
    (306, .iload 6, 308, 6, 0, .int 0, []),
    (308, .i2l, 309, 0, 0, .int 0, [])]),
  (331, [(309, .lcmp, 310, 0, 0, .int 0, []),
    (310, .ifCond .eq 5, 313, 315, 0, .int 0, []),
    (313, .iconst 0, 314, 0, 0, .int 0, []),
    (314, .ireturn, 315, 0, 0, .int 0, []),
    (315, .goto 1110, 318, 1425, 0, .int 0, []),
    (318, .aload_n 1, 319, 1, 0, .int 0, []),
    (319, .aload_n 0, 320, 0, 0, .int 0, []),
    (320, .iload 4, 322, 4, 0, .int 0, []),
    (322, .iconst 1, 323, 0, 0, .int 1, []),
    (323, .iadd, 324, 0, 0, .int 0, []),
    (324, .iaload, 325, 0, 0, .int 0, []),
    (325, .aload_n 0, 326, 0, 0, .int 0, []),
    (326, .iload 4, 328, 4, 0, .int 0, []),
    (328, .iconst 2, 329, 0, 0, .int 2, []),
    (329, .iadd, 330, 0, 0, .int 0, []),
    (330, .iaload, 331, 0, 0, .int 0, [])]),
  (353, [(331, .aload_n 0, 332, 0, 0, .int 0, []),
    (332, .iload 4, 334, 4, 0, .int 0, []),
    (334, .iconst 3, 335, 0, 0, .int 3, []),
    (335, .iadd, 336, 0, 0, .int 0, []),
    (336, .iaload, 337, 0, 0, .int 0, []),
    (337, .aload_n 3, 338, 3, 0, .int 0, []),
    (338, .invokestatic 88, 341, 32, 5, .int 0, [429, 430]),
    (341, .istore 5, 343, 5, 0, .int 0, []),
    (343, .aload_n 2, 344, 2, 0, .int 0, []),
    (344, .aload_n 0, 345, 0, 0, .int 0, []),
    (345, .iload 4, 347, 4, 0, .int 0, []),
    (347, .iconst 1, 348, 0, 0, .int 1, []),
    (348, .iadd, 349, 0, 0, .int 0, []),
    (349, .iaload, 350, 0, 0, .int 0, []),
    (350, .aload_n 0, 351, 0, 0, .int 0, []),
    (351, .iload 4, 353, 4, 0, .int 0, [])]),
  (378, [(353, .iconst 2, 354, 0, 0, .int 2, []),
    (354, .iadd, 355, 0, 0, .int 0, []),
    (355, .iaload, 356, 0, 0, .int 0, []),
    (356, .aload_n 0, 357, 0, 0, .int 0, []),
    (357, .iload 4, 359, 4, 0, .int 0, []),
    (359, .iconst 3, 360, 0, 0, .int 3, []),
    (360, .iadd, 361, 0, 0, .int 0, []),
    (361, .iaload, 362, 0, 0, .int 0, []),
    (362, .invokevirtual 90, 365, 122, 4, .retAddr 7, [876, 877, 878]),
    (365, .istore 6, 367, 6, 0, .int 0, []),
    (367, .aload_n 2, 368, 2, 0, .int 0, []),
    (368, .invokevirtual 80, 371, 115, 1, .retAddr 7, [851, 852, 853]),
    (371, .iload 5, 373, 5, 0, .int 0, []),
    (373, .if_icmp .eq 5, 376, 378, 0, .int 0, []),
    (376, .iconst 0, 377, 0, 0, .int 0, []),
    (377, .ireturn, 378, 0, 0, .int 0, [])]),
  (403, [(378, .iload 5, 380, 5, 0, .int 0, []),
    (380, .ifCond .ne 15, 383, 395, 0, .int 0, []),
    (383, .aload_n 3, 384, 3, 0, .int 0, []),
    (384, .iconst 0, 385, 0, 0, .int 0, []),
    (385, .laload, 386, 0, 0, .int 0, []),
    (386, .iload 6, 388, 6, 0, .int 0, []),
    (388, .i2l, 389, 0, 0, .int 0, []),
    (389, .lcmp, 390, 0, 0, .int 0, []),
    (390, .ifCond .eq 5, 393, 395, 0, .int 0, []),
    (393, .iconst 0, 394, 0, 0, .int 0, []),
    (394, .ireturn, 395, 0, 0, .int 0, []),
    (395, .goto 1030, 398, 1425, 0, .int 0, []),
    (398, .aload_n 1, 399, 1, 0, .int 0, []),
    (399, .aload_n 0, 400, 0, 0, .int 0, []),
    (400, .iload 4, 402, 4, 0, .int 0, []),
    (402, .iconst 1, 403, 0, 0, .int 1, [])]),
  (424, [(403, .iadd, 404, 0, 0, .int 0, []),
    (404, .iaload, 405, 0, 0, .int 0, []),
    (405, .aload_n 0, 406, 0, 0, .int 0, []),
    (406, .iload 4, 408, 4, 0, .int 0, []),
    (408, .iconst 2, 409, 0, 0, .int 2, []),
    (409, .iadd, 410, 0, 0, .int 0, []),
    (410, .iaload, 411, 0, 0, .int 0, []),
    (411, .invokestatic 91, 414, 36, 3, .int 0, [442, 443]),
    (414, .istore 5, 416, 5, 0, .int 0, []),
    (416, .aload_n 2, 417, 2, 0, .int 0, []),
    (417, .aload_n 0, 418, 0, 0, .int 0, []),
    (418, .iload 4, 420, 4, 0, .int 0, []),
    (420, .iconst 1, 421, 0, 0, .int 1, []),
    (421, .iadd, 422, 0, 0, .int 0, []),
    (422, .iaload, 423, 0, 0, .int 0, []),
    (423, .aload_n 0, 424, 0, 0, .int 0, [])]),
  (451, [(424, .iload 4, 426, 4, 0, .int 0, []),
    (426, .iconst 2, 427, 0, 0, .int 2, []),
    (427, .iadd, 428, 0, 0, .int 0, []),
    (428, .iaload, 429, 0, 0, .int 0, []),
    (429, .invokevirtual 94, 432, 124, 3, .retAddr 7, [883, 884, 885]),
    (432, .aload_n 2, 433, 2, 0, .int 0, []),
    (433, .invokevirtual 80, 436, 115, 1, .retAddr 7, [851, 852, 853]),
    (436, .iload 5, 438, 5, 0, .int 0, []),
    (438, .if_icmp .eq 5, 441, 443, 0, .int 0, []),
    (441, .iconst 0, 442, 0, 0, .int 0, []),
    (442, .ireturn, 443, 0, 0, .int 0, []),
    (443, .goto 982, 446, 1425, 0, .int 0, []),
    (446, .aload_n 1, 447, 1, 0, .int 0, []),
    (447, .aload_n 0, 448, 0, 0, .int 0, []),
    (448, .iload 4, 450, 4, 0, .int 0, []),
    (450, .iconst 1, 451, 0, 0, .int 1, [])]),
  (477, [(451, .iadd, 452, 0, 0, .int 0, []),
    (452, .iaload, 453, 0, 0, .int 0, []),
    (453, .aload_n 3, 454, 3, 0, .int 0, []),
    (454, .invokestatic 95, 457, 38, 3, .int 0, [449, 450]),
    (457, .istore 5, 459, 5, 0, .int 0, []),
    (459, .aload_n 2, 460, 2, 0, .int 0, []),
    (460, .aload_n 0, 461, 0, 0, .int 0, []),
    (461, .iload 4, 463, 4, 0, .int 0, []),
    (463, .iconst 1, 464, 0, 0, .int 1, []),
    (464, .iadd, 465, 0, 0, .int 0, []),
    (465, .iaload, 466, 0, 0, .int 0, []),
    (466, .invokevirtual 98, 469, 125, 2, .retAddr 7, [887, 888, 889]),
    (469, .istore 6, 471, 6, 0, .int 0, []),
    (471, .aload_n 2, 472, 2, 0, .int 0, []),
    (472, .invokevirtual 80, 475, 115, 1, .retAddr 7, [851, 852, 853]),
    (475, .iload 5, 477, 5, 0, .int 0, [])]),
  (503, [(477, .if_icmp .eq 5, 480, 482, 0, .int 0, []),
    (480, .iconst 0, 481, 0, 0, .int 0, []),
    (481, .ireturn, 482, 0, 0, .int 0, []),
    (482, .iload 5, 484, 5, 0, .int 0, []),
    (484, .ifCond .ne 15, 487, 499, 0, .int 0, []),
    (487, .aload_n 3, 488, 3, 0, .int 0, []),
    (488, .iconst 0, 489, 0, 0, .int 0, []),
    (489, .laload, 490, 0, 0, .int 0, []),
    (490, .iload 6, 492, 6, 0, .int 0, []),
    (492, .i2l, 493, 0, 0, .int 0, []),
    (493, .lcmp, 494, 0, 0, .int 0, []),
    (494, .ifCond .eq 5, 497, 499, 0, .int 0, []),
    (497, .iconst 0, 498, 0, 0, .int 0, []),
    (498, .ireturn, 499, 0, 0, .int 0, []),
    (499, .goto 926, 502, 1425, 0, .int 0, []),
    (502, .aload_n 1, 503, 1, 0, .int 0, [])]),
  (522, [(503, .aload_n 0, 504, 0, 0, .int 0, []),
    (504, .iload 4, 506, 4, 0, .int 0, []),
    (506, .iconst 1, 507, 0, 0, .int 1, []),
    (507, .iadd, 508, 0, 0, .int 0, []),
    (508, .iaload, 509, 0, 0, .int 0, []),
    (509, .aload_n 0, 510, 0, 0, .int 0, []),
    (510, .iload 4, 512, 4, 0, .int 0, []),
    (512, .iconst 2, 513, 0, 0, .int 2, []),
    (513, .iadd, 514, 0, 0, .int 0, []),
    (514, .iaload, 515, 0, 0, .int 0, []),
    (515, .aload_n 0, 516, 0, 0, .int 0, []),
    (516, .iload 4, 518, 4, 0, .int 0, []),
    (518, .iconst 3, 519, 0, 0, .int 3, []),
    (519, .iadd, 520, 0, 0, .int 0, []),
    (520, .iaload, 521, 0, 0, .int 0, []),
    (521, .aload_n 0, 522, 0, 0, .int 0, [])]),
  (544, [(522, .iload 4, 524, 4, 0, .int 0, []),
    (524, .iconst 4, 525, 0, 0, .int 4, []),
    (525, .iadd, 526, 0, 0, .int 0, []),
    (526, .iaload, 527, 0, 0, .int 0, []),
    (527, .aload_n 3, 528, 3, 0, .int 0, []),
    (528, .invokestatic 99, 531, 47, 6, .int 0, [486, 487]),
    (531, .istore 5, 533, 5, 0, .int 0, []),
    (533, .aload_n 2, 534, 2, 0, .int 0, []),
    (534, .aload_n 0, 535, 0, 0, .int 0, []),
    (535, .iload 4, 537, 4, 0, .int 0, []),
    (537, .iconst 1, 538, 0, 0, .int 1, []),
    (538, .iadd, 539, 0, 0, .int 0, []),
    (539, .iaload, 540, 0, 0, .int 0, []),
    (540, .aload_n 0, 541, 0, 0, .int 0, []),
    (541, .iload 4, 543, 4, 0, .int 0, []),
    (543, .iconst 2, 544, 0, 0, .int 2, [])]),
  (567, [(544, .iadd, 545, 0, 0, .int 0, []),
    (545, .iaload, 546, 0, 0, .int 0, []),
    (546, .aload_n 0, 547, 0, 0, .int 0, []),
    (547, .iload 4, 549, 4, 0, .int 0, []),
    (549, .iconst 3, 550, 0, 0, .int 3, []),
    (550, .iadd, 551, 0, 0, .int 0, []),
    (551, .iaload, 552, 0, 0, .int 0, []),
    (552, .aload_n 0, 553, 0, 0, .int 0, []),
    (553, .iload 4, 555, 4, 0, .int 0, []),
    (555, .iconst 4, 556, 0, 0, .int 4, []),
    (556, .iadd, 557, 0, 0, .int 0, []),
    (557, .iaload, 558, 0, 0, .int 0, []),
    (558, .invokevirtual 102, 561, 127, 5, .retAddr 7, [895, 896, 897]),
    (561, .istore 6, 563, 6, 0, .int 0, []),
    (563, .aload_n 2, 564, 2, 0, .int 0, []),
    (564, .invokevirtual 80, 567, 115, 1, .retAddr 7, [851, 852, 853])]),
  (594, [(567, .iload 5, 569, 5, 0, .int 0, []),
    (569, .if_icmp .eq 5, 572, 574, 0, .int 0, []),
    (572, .iconst 0, 573, 0, 0, .int 0, []),
    (573, .ireturn, 574, 0, 0, .int 0, []),
    (574, .iload 5, 576, 5, 0, .int 0, []),
    (576, .ifCond .ne 15, 579, 591, 0, .int 0, []),
    (579, .aload_n 3, 580, 3, 0, .int 0, []),
    (580, .iconst 0, 581, 0, 0, .int 0, []),
    (581, .laload, 582, 0, 0, .int 0, []),
    (582, .iload 6, 584, 6, 0, .int 0, []),
    (584, .i2l, 585, 0, 0, .int 0, []),
    (585, .lcmp, 586, 0, 0, .int 0, []),
    (586, .ifCond .eq 5, 589, 591, 0, .int 0, []),
    (589, .iconst 0, 590, 0, 0, .int 0, []),
    (590, .ireturn, 591, 0, 0, .int 0, []),
    (591, .goto 834, 594, 1425, 0, .int 0, [])]),
  (615, [(594, .aload_n 1, 595, 1, 0, .int 0, []),
    (595, .aload_n 0, 596, 0, 0, .int 0, []),
    (596, .iload 4, 598, 4, 0, .int 0, []),
    (598, .iconst 1, 599, 0, 0, .int 1, []),
    (599, .iadd, 600, 0, 0, .int 0, []),
    (600, .iaload, 601, 0, 0, .int 0, []),
    (601, .aload_n 0, 602, 0, 0, .int 0, []),
    (602, .iload 4, 604, 4, 0, .int 0, []),
    (604, .iconst 2, 605, 0, 0, .int 2, []),
    (605, .iadd, 606, 0, 0, .int 0, []),
    (606, .iaload, 607, 0, 0, .int 0, []),
    (607, .aload_n 3, 608, 3, 0, .int 0, []),
    (608, .invokestatic 103, 611, 52, 4, .int 0, [506, 507]),
    (611, .istore 5, 613, 5, 0, .int 0, []),
    (613, .aload_n 2, 614, 2, 0, .int 0, []),
    (614, .aload_n 0, 615, 0, 0, .int 0, [])]),
  (641, [(615, .iload 4, 617, 4, 0, .int 0, []),
    (617, .iconst 1, 618, 0, 0, .int 1, []),
    (618, .iadd, 619, 0, 0, .int 0, []),
    (619, .iaload, 620, 0, 0, .int 0, []),
    (620, .aload_n 0, 621, 0, 0, .int 0, []),
    (621, .iload 4, 623, 4, 0, .int 0, []),
    (623, .iconst 2, 624, 0, 0, .int 2, []),
    (624, .iadd, 625, 0, 0, .int 0, []),
    (625, .iaload, 626, 0, 0, .int 0, []),
    (626, .invokevirtual 106, 629, 131, 3, .retAddr 7, [911, 912, 913]),
    (629, .istore 6, 631, 6, 0, .int 0, []),
    (631, .aload_n 2, 632, 2, 0, .int 0, []),
    (632, .invokevirtual 80, 635, 115, 1, .retAddr 7, [851, 852, 853]),
    (635, .iload 5, 637, 5, 0, .int 0, []),
    (637, .if_icmp .eq 5, 640, 642, 0, .int 0, []),
    (640, .iconst 0, 641, 0, 0, .int 0, [])]),
  (666, [(641, .ireturn, 642, 0, 0, .int 0, []),
    (642, .iload 5, 644, 5, 0, .int 0, []),
    (644, .ifCond .ne 15, 647, 659, 0, .int 0, []),
    (647, .aload_n 3, 648, 3, 0, .int 0, []),
    (648, .iconst 0, 649, 0, 0, .int 0, []),
    (649, .laload, 650, 0, 0, .int 0, []),
    (650, .iload 6, 652, 6, 0, .int 0, []),
    (652, .i2l, 653, 0, 0, .int 0, []),
    (653, .lcmp, 654, 0, 0, .int 0, []),
    (654, .ifCond .eq 5, 657, 659, 0, .int 0, []),
    (657, .iconst 0, 658, 0, 0, .int 0, []),
    (658, .ireturn, 659, 0, 0, .int 0, []),
    (659, .goto 766, 662, 1425, 0, .int 0, []),
    (662, .aload_n 1, 663, 1, 0, .int 0, []),
    (663, .aload_n 0, 664, 0, 0, .int 0, []),
    (664, .iload 4, 666, 4, 0, .int 0, [])]),
  (687, [(666, .iconst 1, 667, 0, 0, .int 1, []),
    (667, .iadd, 668, 0, 0, .int 0, []),
    (668, .iaload, 669, 0, 0, .int 0, []),
    (669, .aload_n 0, 670, 0, 0, .int 0, []),
    (670, .iload 4, 672, 4, 0, .int 0, []),
    (672, .iconst 2, 673, 0, 0, .int 2, []),
    (673, .iadd, 674, 0, 0, .int 0, []),
    (674, .iaload, 675, 0, 0, .int 0, []),
    (675, .aload_n 0, 676, 0, 0, .int 0, []),
    (676, .iload 4, 678, 4, 0, .int 0, []),
    (678, .iconst 3, 679, 0, 0, .int 3, []),
    (679, .iadd, 680, 0, 0, .int 0, []),
    (680, .iaload, 681, 0, 0, .int 0, []),
    (681, .aload_n 3, 682, 3, 0, .int 0, []),
    (682, .invokestatic 107, 685, 71, 5, .int 0, [583, 584]),
    (685, .istore 5, 687, 5, 0, .int 0, [])]),
  (706, [(687, .aload_n 2, 688, 2, 0, .int 0, []),
    (688, .aload_n 0, 689, 0, 0, .int 0, []),
    (689, .iload 4, 691, 4, 0, .int 0, []),
    (691, .iconst 1, 692, 0, 0, .int 1, []),
    (692, .iadd, 693, 0, 0, .int 0, []),
    (693, .iaload, 694, 0, 0, .int 0, []),
    (694, .aload_n 0, 695, 0, 0, .int 0, []),
    (695, .iload 4, 697, 4, 0, .int 0, []),
    (697, .iconst 2, 698, 0, 0, .int 2, []),
    (698, .iadd, 699, 0, 0, .int 0, []),
    (699, .iaload, 700, 0, 0, .int 0, []),
    (700, .aload_n 0, 701, 0, 0, .int 0, []),
    (701, .iload 4, 703, 4, 0, .int 0, []),
    (703, .iconst 3, 704, 0, 0, .int 3, []),
    (704, .iadd, 705, 0, 0, .int 0, []),
    (705, .iaload, 706, 0, 0, .int 0, [])]),
  (734, [(706, .invokevirtual 109, 709, 136, 4, .retAddr 7, [931, 932, 933]),
    (709, .istore 6, 711, 6, 0, .int 0, []),
    (711, .aload_n 2, 712, 2, 0, .int 0, []),
    (712, .invokevirtual 80, 715, 115, 1, .retAddr 7, [851, 852, 853]),
    (715, .iload 5, 717, 5, 0, .int 0, []),
    (717, .if_icmp .eq 5, 720, 722, 0, .int 0, []),
    (720, .iconst 0, 721, 0, 0, .int 0, []),
    (721, .ireturn, 722, 0, 0, .int 0, []),
    (722, .iload 5, 724, 5, 0, .int 0, []),
    (724, .ifCond .ne 15, 727, 739, 0, .int 0, []),
    (727, .aload_n 3, 728, 3, 0, .int 0, []),
    (728, .iconst 0, 729, 0, 0, .int 0, []),
    (729, .laload, 730, 0, 0, .int 0, []),
    (730, .iload 6, 732, 6, 0, .int 0, []),
    (732, .i2l, 733, 0, 0, .int 0, []),
    (733, .lcmp, 734, 0, 0, .int 0, [])]),
  (756, [(734, .ifCond .eq 5, 737, 739, 0, .int 0, []),
    (737, .iconst 0, 738, 0, 0, .int 0, []),
    (738, .ireturn, 739, 0, 0, .int 0, []),
    (739, .goto 686, 742, 1425, 0, .int 0, []),
    (742, .aload_n 1, 743, 1, 0, .int 0, []),
    (743, .aload_n 0, 744, 0, 0, .int 0, []),
    (744, .iload 4, 746, 4, 0, .int 0, []),
    (746, .iconst 1, 747, 0, 0, .int 1, []),
    (747, .iadd, 748, 0, 0, .int 0, []),
    (748, .iaload, 749, 0, 0, .int 0, []),
    (749, .aload_n 0, 750, 0, 0, .int 0, []),
    (750, .iload 4, 752, 4, 0, .int 0, []),
    (752, .iconst 2, 753, 0, 0, .int 2, []),
    (753, .iadd, 754, 0, 0, .int 0, []),
    (754, .iaload, 755, 0, 0, .int 0, []),
    (755, .aload_n 0, 756, 0, 0, .int 0, [])]),
  (778, [(756, .iload 4, 758, 4, 0, .int 0, []),
    (758, .iconst 3, 759, 0, 0, .int 3, []),
    (759, .iadd, 760, 0, 0, .int 0, []),
    (760, .iaload, 761, 0, 0, .int 0, []),
    (761, .aload_n 0, 762, 0, 0, .int 0, []),
    (762, .iload 4, 764, 4, 0, .int 0, []),
    (764, .iconst 4, 765, 0, 0, .int 4, []),
    (765, .iadd, 766, 0, 0, .int 0, []),
    (766, .iaload, 767, 0, 0, .int 0, []),
    (767, .aload_n 3, 768, 3, 0, .int 0, []),
    (768, .invokestatic 110, 771, 74, 6, .int 0, [594, 595]),
    (771, .istore 5, 773, 5, 0, .int 0, []),
    (773, .aload_n 2, 774, 2, 0, .int 0, []),
    (774, .aload_n 0, 775, 0, 0, .int 0, []),
    (775, .iload 4, 777, 4, 0, .int 0, []),
    (777, .iconst 1, 778, 0, 0, .int 1, [])]),
  (797, [(778, .iadd, 779, 0, 0, .int 0, []),
    (779, .iaload, 780, 0, 0, .int 0, []),
    (780, .aload_n 0, 781, 0, 0, .int 0, []),
    (781, .iload 4, 783, 4, 0, .int 0, []),
    (783, .iconst 2, 784, 0, 0, .int 2, []),
    (784, .iadd, 785, 0, 0, .int 0, []),
    (785, .iaload, 786, 0, 0, .int 0, []),
    (786, .aload_n 0, 787, 0, 0, .int 0, []),
    (787, .iload 4, 789, 4, 0, .int 0, []),
    (789, .iconst 3, 790, 0, 0, .int 3, []),
    (790, .iadd, 791, 0, 0, .int 0, []),
    (791, .iaload, 792, 0, 0, .int 0, []),
    (792, .aload_n 0, 793, 0, 0, .int 0, []),
    (793, .iload 4, 795, 4, 0, .int 0, []),
    (795, .iconst 4, 796, 0, 0, .int 4, []),
    (796, .iadd, 797, 0, 0, .int 0, [])]),
  (825, [(797, .iaload, 798, 0, 0, .int 0, []),
    (798, .invokevirtual 112, 801, 137, 5, .retAddr 7, [935, 936, 937]),
    (801, .istore 6, 803, 6, 0, .int 0, []),
    (803, .aload_n 2, 804, 2, 0, .int 0, []),
    (804, .invokevirtual 80, 807, 115, 1, .retAddr 7, [851, 852, 853]),
    (807, .iload 5, 809, 5, 0, .int 0, []),
    (809, .if_icmp .eq 5, 812, 814, 0, .int 0, []),
    (812, .iconst 0, 813, 0, 0, .int 0, []),
    (813, .ireturn, 814, 0, 0, .int 0, []),
    (814, .iload 5, 816, 5, 0, .int 0, []),
    (816, .ifCond .ne 15, 819, 831, 0, .int 0, []),
    (819, .aload_n 3, 820, 3, 0, .int 0, []),
    (820, .iconst 0, 821, 0, 0, .int 0, []),
    (821, .laload, 822, 0, 0, .int 0, []),
    (822, .iload 6, 824, 6, 0, .int 0, []),
    (824, .i2l, 825, 0, 0, .int 0, [])]),
  (847, [(825, .lcmp, 826, 0, 0, .int 0, []),
    (826, .ifCond .eq 5, 829, 831, 0, .int 0, []),
    (829, .iconst 0, 830, 0, 0, .int 0, []),
    (830, .ireturn, 831, 0, 0, .int 0, []),
    (831, .goto 594, 834, 1425, 0, .int 0, []),
    (834, .aload_n 1, 835, 1, 0, .int 0, []),
    (835, .aload_n 0, 836, 0, 0, .int 0, []),
    (836, .iload 4, 838, 4, 0, .int 0, []),
    (838, .iconst 1, 839, 0, 0, .int 1, []),
    (839, .iadd, 840, 0, 0, .int 0, []),
    (840, .iaload, 841, 0, 0, .int 0, []),
    (841, .aload_n 0, 842, 0, 0, .int 0, []),
    (842, .iload 4, 844, 4, 0, .int 0, []),
    (844, .iconst 2, 845, 0, 0, .int 2, []),
    (845, .iadd, 846, 0, 0, .int 0, []),
    (846, .iaload, 847, 0, 0, .int 0, [])]),
  (869, [(847, .aload_n 0, 848, 0, 0, .int 0, []),
    (848, .iload 4, 850, 4, 0, .int 0, []),
    (850, .iconst 3, 851, 0, 0, .int 3, []),
    (851, .iadd, 852, 0, 0, .int 0, []),
    (852, .iaload, 853, 0, 0, .int 0, []),
    (853, .aload_n 3, 854, 3, 0, .int 0, []),
    (854, .invokestatic 113, 857, 77, 5, .int 0, [606, 607]),
    (857, .istore 5, 859, 5, 0, .int 0, []),
    (859, .aload_n 2, 860, 2, 0, .int 0, []),
    (860, .aload_n 0, 861, 0, 0, .int 0, []),
    (861, .iload 4, 863, 4, 0, .int 0, []),
    (863, .iconst 1, 864, 0, 0, .int 1, []),
    (864, .iadd, 865, 0, 0, .int 0, []),
    (865, .iaload, 866, 0, 0, .int 0, []),
    (866, .aload_n 0, 867, 0, 0, .int 0, []),
    (867, .iload 4, 869, 4, 0, .int 0, [])]),
  (894, [(869, .iconst 2, 870, 0, 0, .int 2, []),
    (870, .iadd, 871, 0, 0, .int 0, []),
    (871, .iaload, 872, 0, 0, .int 0, []),
    (872, .aload_n 0, 873, 0, 0, .int 0, []),
    (873, .iload 4, 875, 4, 0, .int 0, []),
    (875, .iconst 3, 876, 0, 0, .int 3, []),
    (876, .iadd, 877, 0, 0, .int 0, []),
    (877, .iaload, 878, 0, 0, .int 0, []),
    (878, .invokevirtual 115, 881, 138, 4, .retAddr 7, [939, 940, 941]),
    (881, .istore 6, 883, 6, 0, .int 0, []),
    (883, .aload_n 2, 884, 2, 0, .int 0, []),
    (884, .invokevirtual 80, 887, 115, 1, .retAddr 7, [851, 852, 853]),
    (887, .iload 5, 889, 5, 0, .int 0, []),
    (889, .if_icmp .eq 5, 892, 894, 0, .int 0, []),
    (892, .iconst 0, 893, 0, 0, .int 0, []),
    (893, .ireturn, 894, 0, 0, .int 0, [])]),
  (919, [(894, .iload 5, 896, 5, 0, .int 0, []),
    (896, .ifCond .ne 15, 899, 911, 0, .int 0, []),
    (899, .aload_n 3, 900, 3, 0, .int 0, []),
    (900, .iconst 0, 901, 0, 0, .int 0, []),
    (901, .laload, 902, 0, 0, .int 0, []),
    (902, .iload 6, 904, 6, 0, .int 0, []),
    (904, .i2l, 905, 0, 0, .int 0, []),
    (905, .lcmp, 906, 0, 0, .int 0, []),
    (906, .ifCond .eq 5, 909, 911, 0, .int 0, []),
    (909, .iconst 0, 910, 0, 0, .int 0, []),
    (910, .ireturn, 911, 0, 0, .int 0, []),
    (911, .goto 514, 914, 1425, 0, .int 0, []),
    (914, .aload_n 1, 915, 1, 0, .int 0, []),
    (915, .aload_n 0, 916, 0, 0, .int 0, []),
    (916, .iload 4, 918, 4, 0, .int 0, []),
    (918, .iconst 1, 919, 0, 0, .int 1, [])]),
  (938, [(919, .iadd, 920, 0, 0, .int 0, []),
    (920, .iaload, 921, 0, 0, .int 0, []),
    (921, .aload_n 0, 922, 0, 0, .int 0, []),
    (922, .iload 4, 924, 4, 0, .int 0, []),
    (924, .iconst 2, 925, 0, 0, .int 2, []),
    (925, .iadd, 926, 0, 0, .int 0, []),
    (926, .iaload, 927, 0, 0, .int 0, []),
    (927, .aload_n 0, 928, 0, 0, .int 0, []),
    (928, .iload 4, 930, 4, 0, .int 0, []),
    (930, .iconst 3, 931, 0, 0, .int 3, []),
    (931, .iadd, 932, 0, 0, .int 0, []),
    (932, .iaload, 933, 0, 0, .int 0, []),
    (933, .aload_n 0, 934, 0, 0, .int 0, []),
    (934, .iload 4, 936, 4, 0, .int 0, []),
    (936, .iconst 4, 937, 0, 0, .int 4, []),
    (937, .iadd, 938, 0, 0, .int 0, [])]),
  (959, [(938, .iaload, 939, 0, 0, .int 0, []),
    (939, .aload_n 3, 940, 3, 0, .int 0, []),
    (940, .invokestatic 116, 943, 80, 6, .int 0, [617, 618]),
    (943, .istore 5, 945, 5, 0, .int 0, []),
    (945, .aload_n 2, 946, 2, 0, .int 0, []),
    (946, .aload_n 0, 947, 0, 0, .int 0, []),
    (947, .iload 4, 949, 4, 0, .int 0, []),
    (949, .iconst 1, 950, 0, 0, .int 1, []),
    (950, .iadd, 951, 0, 0, .int 0, []),
    (951, .iaload, 952, 0, 0, .int 0, []),
    (952, .aload_n 0, 953, 0, 0, .int 0, []),
    (953, .iload 4, 955, 4, 0, .int 0, []),
    (955, .iconst 2, 956, 0, 0, .int 2, []),
    (956, .iadd, 957, 0, 0, .int 0, []),
    (957, .iaload, 958, 0, 0, .int 0, []),
    (958, .aload_n 0, 959, 0, 0, .int 0, [])]),
  (985, [(959, .iload 4, 961, 4, 0, .int 0, []),
    (961, .iconst 3, 962, 0, 0, .int 3, []),
    (962, .iadd, 963, 0, 0, .int 0, []),
    (963, .iaload, 964, 0, 0, .int 0, []),
    (964, .aload_n 0, 965, 0, 0, .int 0, []),
    (965, .iload 4, 967, 4, 0, .int 0, []),
    (967, .iconst 4, 968, 0, 0, .int 4, []),
    (968, .iadd, 969, 0, 0, .int 0, []),
    (969, .iaload, 970, 0, 0, .int 0, []),
    (970, .invokevirtual 118, 973, 148, 5, .retAddr 7, [978, 979, 980]),
    (973, .istore 6, 975, 6, 0, .int 0, []),
    (975, .aload_n 2, 976, 2, 0, .int 0, []),
    (976, .invokevirtual 80, 979, 115, 1, .retAddr 7, [851, 852, 853]),
    (979, .iload 5, 981, 5, 0, .int 0, []),
    (981, .if_icmp .eq 5, 984, 986, 0, .int 0, []),
    (984, .iconst 0, 985, 0, 0, .int 0, [])]),
  (1013, [(985, .ireturn, 986, 0, 0, .int 0, []),
    (986, .iload 5, 988, 5, 0, .int 0, []),
    (988, .ifCond .ne 22, 991, 1010, 0, .int 0, []),
    (991, .aload_n 3, 992, 3, 0, .int 0, []),
    (992, .iconst 0, 993, 0, 0, .int 0, []),
    (993, .laload, 994, 0, 0, .int 0, []),
    (994, .iload 6, 996, 6, 0, .int 0, []),
    (996, .ifCond .eq 7, 999, 1003, 0, .int 0, []),
    (999, .lconst 1, 1000, 0, 0, .long 1, []),
    (1000, .goto 4, 1003, 1004, 0, .int 0, []),
    (1003, .lconst 0, 1004, 0, 0, .long 0, []),
    (1004, .lcmp, 1005, 0, 0, .int 0, []),
    (1005, .ifCond .eq 5, 1008, 1010, 0, .int 0, []),
    (1008, .iconst 0, 1009, 0, 0, .int 0, []),
    (1009, .ireturn, 1010, 0, 0, .int 0, []),
    (1010, .goto 415, 1013, 1425, 0, .int 0, [])]),
  (1032, [(1013, .aload_n 1, 1014, 1, 0, .int 0, []),
    (1014, .aload_n 0, 1015, 0, 0, .int 0, []),
    (1015, .iload 4, 1017, 4, 0, .int 0, []),
    (1017, .iconst 1, 1018, 0, 0, .int 1, []),
    (1018, .iadd, 1019, 0, 0, .int 0, []),
    (1019, .iaload, 1020, 0, 0, .int 0, []),
    (1020, .aload_n 0, 1021, 0, 0, .int 0, []),
    (1021, .iload 4, 1023, 4, 0, .int 0, []),
    (1023, .iconst 2, 1024, 0, 0, .int 2, []),
    (1024, .iadd, 1025, 0, 0, .int 0, []),
    (1025, .iaload, 1026, 0, 0, .int 0, []),
    (1026, .aload_n 0, 1027, 0, 0, .int 0, []),
    (1027, .iload 4, 1029, 4, 0, .int 0, []),
    (1029, .iconst 3, 1030, 0, 0, .int 3, []),
    (1030, .iadd, 1031, 0, 0, .int 0, []),
    (1031, .iaload, 1032, 0, 0, .int 0, [])]),
  (1054, [(1032, .aload_n 0, 1033, 0, 0, .int 0, []),
    (1033, .iload 4, 1035, 4, 0, .int 0, []),
    (1035, .iconst 4, 1036, 0, 0, .int 4, []),
    (1036, .iadd, 1037, 0, 0, .int 0, []),
    (1037, .iaload, 1038, 0, 0, .int 0, []),
    (1038, .aload_n 3, 1039, 3, 0, .int 0, []),
    (1039, .invokestatic 119, 1042, 84, 6, .int 0, [632, 633]),
    (1042, .istore 5, 1044, 5, 0, .int 0, []),
    (1044, .aload_n 2, 1045, 2, 0, .int 0, []),
    (1045, .aload_n 0, 1046, 0, 0, .int 0, []),
    (1046, .iload 4, 1048, 4, 0, .int 0, []),
    (1048, .iconst 1, 1049, 0, 0, .int 1, []),
    (1049, .iadd, 1050, 0, 0, .int 0, []),
    (1050, .iaload, 1051, 0, 0, .int 0, []),
    (1051, .aload_n 0, 1052, 0, 0, .int 0, []),
    (1052, .iload 4, 1054, 4, 0, .int 0, [])]),
  (1075, [(1054, .iconst 2, 1055, 0, 0, .int 2, []),
    (1055, .iadd, 1056, 0, 0, .int 0, []),
    (1056, .iaload, 1057, 0, 0, .int 0, []),
    (1057, .aload_n 0, 1058, 0, 0, .int 0, []),
    (1058, .iload 4, 1060, 4, 0, .int 0, []),
    (1060, .iconst 3, 1061, 0, 0, .int 3, []),
    (1061, .iadd, 1062, 0, 0, .int 0, []),
    (1062, .iaload, 1063, 0, 0, .int 0, []),
    (1063, .aload_n 0, 1064, 0, 0, .int 0, []),
    (1064, .iload 4, 1066, 4, 0, .int 0, []),
    (1066, .iconst 4, 1067, 0, 0, .int 4, []),
    (1067, .iadd, 1068, 0, 0, .int 0, []),
    (1068, .iaload, 1069, 0, 0, .int 0, []),
    (1069, .invokevirtual 121, 1072, 150, 5, .retAddr 7, [986, 987, 988]),
    (1072, .istore 6, 1074, 6, 0, .int 0, []),
    (1074, .aload_n 2, 1075, 2, 0, .int 0, [])]),
  (1102, [(1075, .invokevirtual 80, 1078, 115, 1, .retAddr 7, [851, 852, 853]),
    (1078, .iload 5, 1080, 5, 0, .int 0, []),
    (1080, .if_icmp .eq 5, 1083, 1085, 0, .int 0, []),
    (1083, .iconst 0, 1084, 0, 0, .int 0, []),
    (1084, .ireturn, 1085, 0, 0, .int 0, []),
    (1085, .iload 5, 1087, 5, 0, .int 0, []),
    (1087, .ifCond .ne 15, 1090, 1102, 0, .int 0, []),
    (1090, .aload_n 3, 1091, 3, 0, .int 0, []),
    (1091, .iconst 0, 1092, 0, 0, .int 0, []),
    (1092, .laload, 1093, 0, 0, .int 0, []),
    (1093, .iload 6, 1095, 6, 0, .int 0, []),
    (1095, .i2l, 1096, 0, 0, .int 0, []),
    (1096, .lcmp, 1097, 0, 0, .int 0, []),
    (1097, .ifCond .eq 5, 1100, 1102, 0, .int 0, []),
    (1100, .iconst 0, 1101, 0, 0, .int 0, []),
    (1101, .ireturn, 1102, 0, 0, .int 0, [])]),
  (1123, [(1102, .goto 323, 1105, 1425, 0, .int 0, []),
    (1105, .aload_n 1, 1106, 1, 0, .int 0, []),
    (1106, .aload_n 0, 1107, 0, 0, .int 0, []),
    (1107, .iload 4, 1109, 4, 0, .int 0, []),
    (1109, .iconst 1, 1110, 0, 0, .int 1, []),
    (1110, .iadd, 1111, 0, 0, .int 0, []),
    (1111, .iaload, 1112, 0, 0, .int 0, []),
    (1112, .aload_n 0, 1113, 0, 0, .int 0, []),
    (1113, .iload 4, 1115, 4, 0, .int 0, []),
    (1115, .iconst 2, 1116, 0, 0, .int 2, []),
    (1116, .iadd, 1117, 0, 0, .int 0, []),
    (1117, .iaload, 1118, 0, 0, .int 0, []),
    (1118, .aload_n 0, 1119, 0, 0, .int 0, []),
    (1119, .iload 4, 1121, 4, 0, .int 0, []),
    (1121, .iconst 3, 1122, 0, 0, .int 3, []),
    (1122, .iadd, 1123, 0, 0, .int 0, [])]),
  (1144, [(1123, .iaload, 1124, 0, 0, .int 0, []),
    (1124, .aload_n 3, 1125, 3, 0, .int 0, []),
    (1125, .invokestatic 122, 1128, 89, 5, .int 0, [650, 651]),
    (1128, .istore 5, 1130, 5, 0, .int 0, []),
    (1130, .aload_n 2, 1131, 2, 0, .int 0, []),
    (1131, .aload_n 0, 1132, 0, 0, .int 0, []),
    (1132, .iload 4, 1134, 4, 0, .int 0, []),
    (1134, .iconst 1, 1135, 0, 0, .int 1, []),
    (1135, .iadd, 1136, 0, 0, .int 0, []),
    (1136, .iaload, 1137, 0, 0, .int 0, []),
    (1137, .aload_n 0, 1138, 0, 0, .int 0, []),
    (1138, .iload 4, 1140, 4, 0, .int 0, []),
    (1140, .iconst 2, 1141, 0, 0, .int 2, []),
    (1141, .iadd, 1142, 0, 0, .int 0, []),
    (1142, .iaload, 1143, 0, 0, .int 0, []),
    (1143, .aload_n 0, 1144, 0, 0, .int 0, [])]),
  (1172, [(1144, .iload 4, 1146, 4, 0, .int 0, []),
    (1146, .iconst 3, 1147, 0, 0, .int 3, []),
    (1147, .iadd, 1148, 0, 0, .int 0, []),
    (1148, .iaload, 1149, 0, 0, .int 0, []),
    (1149, .invokevirtual 124, 1152, 151, 4, .retAddr 7, [990, 991, 992]),
    (1152, .istore 6, 1154, 6, 0, .int 0, []),
    (1154, .aload_n 2, 1155, 2, 0, .int 0, []),
    (1155, .invokevirtual 80, 1158, 115, 1, .retAddr 7, [851, 852, 853]),
    (1158, .iload 5, 1160, 5, 0, .int 0, []),
    (1160, .if_icmp .eq 5, 1163, 1165, 0, .int 0, []),
    (1163, .iconst 0, 1164, 0, 0, .int 0, []),
    (1164, .ireturn, 1165, 0, 0, .int 0, []),
    (1165, .iload 5, 1167, 5, 0, .int 0, []),
    (1167, .ifCond .ne 15, 1170, 1182, 0, .int 0, []),
    (1170, .aload_n 3, 1171, 3, 0, .int 0, []),
    (1171, .iconst 0, 1172, 0, 0, .int 0, [])]),
  (1195, [(1172, .laload, 1173, 0, 0, .int 0, []),
    (1173, .iload 6, 1175, 6, 0, .int 0, []),
    (1175, .i2l, 1176, 0, 0, .int 0, []),
    (1176, .lcmp, 1177, 0, 0, .int 0, []),
    (1177, .ifCond .eq 5, 1180, 1182, 0, .int 0, []),
    (1180, .iconst 0, 1181, 0, 0, .int 0, []),
    (1181, .ireturn, 1182, 0, 0, .int 0, []),
    (1182, .goto 243, 1185, 1425, 0, .int 0, []),
    (1185, .aload_n 1, 1186, 1, 0, .int 0, []),
    (1186, .aload_n 0, 1187, 0, 0, .int 0, []),
    (1187, .iload 4, 1189, 4, 0, .int 0, []),
    (1189, .iconst 1, 1190, 0, 0, .int 1, []),
    (1190, .iadd, 1191, 0, 0, .int 0, []),
    (1191, .iaload, 1192, 0, 0, .int 0, []),
    (1192, .aload_n 0, 1193, 0, 0, .int 0, []),
    (1193, .iload 4, 1195, 4, 0, .int 0, [])]),
  (1216, [(1195, .iconst 2, 1196, 0, 0, .int 2, []),
    (1196, .iadd, 1197, 0, 0, .int 0, []),
    (1197, .iaload, 1198, 0, 0, .int 0, []),
    (1198, .aload_n 0, 1199, 0, 0, .int 0, []),
    (1199, .iload 4, 1201, 4, 0, .int 0, []),
    (1201, .iconst 3, 1202, 0, 0, .int 3, []),
    (1202, .iadd, 1203, 0, 0, .int 0, []),
    (1203, .iaload, 1204, 0, 0, .int 0, []),
    (1204, .aload_n 3, 1205, 3, 0, .int 0, []),
    (1205, .invokestatic 125, 1208, 91, 5, .int 0, [657, 658]),
    (1208, .istore 5, 1210, 5, 0, .int 0, []),
    (1210, .aload_n 2, 1211, 2, 0, .int 0, []),
    (1211, .aload_n 0, 1212, 0, 0, .int 0, []),
    (1212, .iload 4, 1214, 4, 0, .int 0, []),
    (1214, .iconst 1, 1215, 0, 0, .int 1, []),
    (1215, .iadd, 1216, 0, 0, .int 0, [])]),
  (1240, [(1216, .iaload, 1217, 0, 0, .int 0, []),
    (1217, .aload_n 0, 1218, 0, 0, .int 0, []),
    (1218, .iload 4, 1220, 4, 0, .int 0, []),
    (1220, .iconst 2, 1221, 0, 0, .int 2, []),
    (1221, .iadd, 1222, 0, 0, .int 0, []),
    (1222, .iaload, 1223, 0, 0, .int 0, []),
    (1223, .aload_n 0, 1224, 0, 0, .int 0, []),
    (1224, .iload 4, 1226, 4, 0, .int 0, []),
    (1226, .iconst 3, 1227, 0, 0, .int 3, []),
    (1227, .iadd, 1228, 0, 0, .int 0, []),
    (1228, .iaload, 1229, 0, 0, .int 0, []),
    (1229, .invokevirtual 127, 1232, 152, 4, .retAddr 7, [994, 995, 996]),
    (1232, .istore 6, 1234, 6, 0, .int 0, []),
    (1234, .aload_n 2, 1235, 2, 0, .int 0, []),
    (1235, .invokevirtual 80, 1238, 115, 1, .retAddr 7, [851, 852, 853]),
    (1238, .iload 5, 1240, 5, 0, .int 0, [])]),
  (1266, [(1240, .if_icmp .eq 5, 1243, 1245, 0, .int 0, []),
    (1243, .iconst 0, 1244, 0, 0, .int 0, []),
    (1244, .ireturn, 1245, 0, 0, .int 0, []),
    (1245, .iload 5, 1247, 5, 0, .int 0, []),
    (1247, .ifCond .ne 15, 1250, 1262, 0, .int 0, []),
    (1250, .aload_n 3, 1251, 3, 0, .int 0, []),
    (1251, .iconst 0, 1252, 0, 0, .int 0, []),
    (1252, .laload, 1253, 0, 0, .int 0, []),
    (1253, .iload 6, 1255, 6, 0, .int 0, []),
    (1255, .i2l, 1256, 0, 0, .int 0, []),
    (1256, .lcmp, 1257, 0, 0, .int 0, []),
    (1257, .ifCond .eq 5, 1260, 1262, 0, .int 0, []),
    (1260, .iconst 0, 1261, 0, 0, .int 0, []),
    (1261, .ireturn, 1262, 0, 0, .int 0, []),
    (1262, .goto 163, 1265, 1425, 0, .int 0, []),
    (1265, .aload_n 1, 1266, 1, 0, .int 0, [])]),
  (1285, [(1266, .aload_n 0, 1267, 0, 0, .int 0, []),
    (1267, .iload 4, 1269, 4, 0, .int 0, []),
    (1269, .iconst 1, 1270, 0, 0, .int 1, []),
    (1270, .iadd, 1271, 0, 0, .int 0, []),
    (1271, .iaload, 1272, 0, 0, .int 0, []),
    (1272, .aload_n 0, 1273, 0, 0, .int 0, []),
    (1273, .iload 4, 1275, 4, 0, .int 0, []),
    (1275, .iconst 2, 1276, 0, 0, .int 2, []),
    (1276, .iadd, 1277, 0, 0, .int 0, []),
    (1277, .iaload, 1278, 0, 0, .int 0, []),
    (1278, .aload_n 0, 1279, 0, 0, .int 0, []),
    (1279, .iload 4, 1281, 4, 0, .int 0, []),
    (1281, .iconst 3, 1282, 0, 0, .int 3, []),
    (1282, .iadd, 1283, 0, 0, .int 0, []),
    (1283, .iaload, 1284, 0, 0, .int 0, []),
    (1284, .aload_n 0, 1285, 0, 0, .int 0, [])]),
  (1307, [(1285, .iload 4, 1287, 4, 0, .int 0, []),
    (1287, .iconst 4, 1288, 0, 0, .int 4, []),
    (1288, .iadd, 1289, 0, 0, .int 0, []),
    (1289, .iaload, 1290, 0, 0, .int 0, []),
    (1290, .aload_n 3, 1291, 3, 0, .int 0, []),
    (1291, .invokestatic 128, 1294, 101, 6, .int 0, [697, 698]),
    (1294, .istore 5, 1296, 5, 0, .int 0, []),
    (1296, .aload_n 2, 1297, 2, 0, .int 0, []),
    (1297, .aload_n 0, 1298, 0, 0, .int 0, []),
    (1298, .iload 4, 1300, 4, 0, .int 0, []),
    (1300, .iconst 1, 1301, 0, 0, .int 1, []),
    (1301, .iadd, 1302, 0, 0, .int 0, []),
    (1302, .iaload, 1303, 0, 0, .int 0, []),
    (1303, .aload_n 0, 1304, 0, 0, .int 0, []),
    (1304, .iload 4, 1306, 4, 0, .int 0, []),
    (1306, .iconst 2, 1307, 0, 0, .int 2, [])]),
  (1330, [(1307, .iadd, 1308, 0, 0, .int 0, []),
    (1308, .iaload, 1309, 0, 0, .int 0, []),
    (1309, .aload_n 0, 1310, 0, 0, .int 0, []),
    (1310, .iload 4, 1312, 4, 0, .int 0, []),
    (1312, .iconst 3, 1313, 0, 0, .int 3, []),
    (1313, .iadd, 1314, 0, 0, .int 0, []),
    (1314, .iaload, 1315, 0, 0, .int 0, []),
    (1315, .aload_n 0, 1316, 0, 0, .int 0, []),
    (1316, .iload 4, 1318, 4, 0, .int 0, []),
    (1318, .iconst 4, 1319, 0, 0, .int 4, []),
    (1319, .iadd, 1320, 0, 0, .int 0, []),
    (1320, .iaload, 1321, 0, 0, .int 0, []),
    (1321, .invokevirtual 130, 1324, 154, 5, .retAddr 7, [1002, 1003, 1004]),
    (1324, .istore 6, 1326, 6, 0, .int 0, []),
    (1326, .aload_n 2, 1327, 2, 0, .int 0, []),
    (1327, .invokevirtual 80, 1330, 115, 1, .retAddr 7, [851, 852, 853])]),
  (1357, [(1330, .iload 5, 1332, 5, 0, .int 0, []),
    (1332, .if_icmp .eq 5, 1335, 1337, 0, .int 0, []),
    (1335, .iconst 0, 1336, 0, 0, .int 0, []),
    (1336, .ireturn, 1337, 0, 0, .int 0, []),
    (1337, .iload 5, 1339, 5, 0, .int 0, []),
    (1339, .ifCond .ne 15, 1342, 1354, 0, .int 0, []),
    (1342, .aload_n 3, 1343, 3, 0, .int 0, []),
    (1343, .iconst 0, 1344, 0, 0, .int 0, []),
    (1344, .laload, 1345, 0, 0, .int 0, []),
    (1345, .iload 6, 1347, 6, 0, .int 0, []),
    (1347, .i2l, 1348, 0, 0, .int 0, []),
    (1348, .lcmp, 1349, 0, 0, .int 0, []),
    (1349, .ifCond .eq 5, 1352, 1354, 0, .int 0, []),
    (1352, .iconst 0, 1353, 0, 0, .int 0, []),
    (1353, .ireturn, 1354, 0, 0, .int 0, []),
    (1354, .goto 71, 1357, 1425, 0, .int 0, [])]),
  (1378, [(1357, .aload_n 1, 1358, 1, 0, .int 0, []),
    (1358, .aload_n 0, 1359, 0, 0, .int 0, []),
    (1359, .iload 4, 1361, 4, 0, .int 0, []),
    (1361, .iconst 1, 1362, 0, 0, .int 1, []),
    (1362, .iadd, 1363, 0, 0, .int 0, []),
    (1363, .iaload, 1364, 0, 0, .int 0, []),
    (1364, .aload_n 0, 1365, 0, 0, .int 0, []),
    (1365, .iload 4, 1367, 4, 0, .int 0, []),
    (1367, .iconst 2, 1368, 0, 0, .int 2, []),
    (1368, .iadd, 1369, 0, 0, .int 0, []),
    (1369, .iaload, 1370, 0, 0, .int 0, []),
    (1370, .aload_n 3, 1371, 3, 0, .int 0, []),
    (1371, .invokestatic 131, 1374, 110, 4, .int 0, [734, 735]),
    (1374, .istore 5, 1376, 5, 0, .int 0, []),
    (1376, .aload_n 2, 1377, 2, 0, .int 0, []),
    (1377, .aload_n 0, 1378, 0, 0, .int 0, [])]),
  (1404, [(1378, .iload 4, 1380, 4, 0, .int 0, []),
    (1380, .iconst 1, 1381, 0, 0, .int 1, []),
    (1381, .iadd, 1382, 0, 0, .int 0, []),
    (1382, .iaload, 1383, 0, 0, .int 0, []),
    (1383, .aload_n 0, 1384, 0, 0, .int 0, []),
    (1384, .iload 4, 1386, 4, 0, .int 0, []),
    (1386, .iconst 2, 1387, 0, 0, .int 2, []),
    (1387, .iadd, 1388, 0, 0, .int 0, []),
    (1388, .iaload, 1389, 0, 0, .int 0, []),
    (1389, .invokevirtual 133, 1392, 155, 3, .retAddr 7, [1006, 1007, 1008]),
    (1392, .istore 6, 1394, 6, 0, .int 0, []),
    (1394, .aload_n 2, 1395, 2, 0, .int 0, []),
    (1395, .invokevirtual 80, 1398, 115, 1, .retAddr 7, [851, 852, 853]),
    (1398, .iload 5, 1400, 5, 0, .int 0, []),
    (1400, .if_icmp .eq 5, 1403, 1405, 0, .int 0, []),
    (1403, .iconst 0, 1404, 0, 0, .int 0, [])]),
  (1432, [(1404, .ireturn, 1405, 0, 0, .int 0, []),
    (1405, .iload 5, 1407, 5, 0, .int 0, []),
    (1407, .ifCond .ne 15, 1410, 1422, 0, .int 0, []),
    (1410, .aload_n 3, 1411, 3, 0, .int 0, []),
    (1411, .iconst 0, 1412, 0, 0, .int 0, []),
    (1412, .laload, 1413, 0, 0, .int 0, []),
    (1413, .iload 6, 1415, 6, 0, .int 0, []),
    (1415, .i2l, 1416, 0, 0, .int 0, []),
    (1416, .lcmp, 1417, 0, 0, .int 0, []),
    (1417, .ifCond .eq 5, 1420, 1422, 0, .int 0, []),
    (1420, .iconst 0, 1421, 0, 0, .int 0, []),
    (1421, .ireturn, 1422, 0, 0, .int 0, []),
    (1422, .goto 3, 1425, 1425, 0, .int 0, []),
    (1425, .iinc 4 7, 1428, 4, 0, .int 7, []),
    (1428, .goto (-1405), 1431, 23, 0, .int 0, []),
    (1431, .iconst 1, 1432, 0, 0, .int 1, [])]),
  (100000, [(1432, .ireturn, 1433, 0, 0, .int 0, [])])]
def m_Law_law : xM := (xlk t_Law_law, [], 7, ⟨"PrePressRoomLaw", "law", "([I)Z"⟩, code, (some .boolean), 11, 215)
end
section
def xGL : List xM := [m_Room_init, m_Job_init, m_Spr_init, m_Pla_init, m_Pla_distanceOf, m_Pla_xOf, m_Pla_yOf, m_Pla_sortByForm, m_Arrays_fill, m_Pla_formOf, m_Math_abs, m_Scr_init, m_Scr_lay, m_Scr_greatestDivisor, m_Scr_shiftOfRows, m_Scr_isOfLattice, m_Pla_countWithin, m_Pla_inOrder, m_Scr_giveRanks, m_Scr_classAt, m_Math_floorDiv, m_Math_floorMod, m_She_init, m_Leaf_init, m_Law_colour, m_Room_colour, m_Room_needIndex, m_Room_needBetween, m_Room_hasOtherSpot, m_Law_box, m_Room_box, m_Room_needSpan, m_Law_cell, m_Room_cell, m_Room_needCell, m_Room_cellAt, m_Law_grey, m_Room_grey, m_Law_separate, m_Room_separate, m_Job_make, m_Job_moveToBlack, m_Math_min, m_Job_keepLimit, m_Math_max, m_Job_countColours, m_Long_bitCount, m_Law_plate, m_Room_plate, m_Room_madeJob, m_Job_isMade, m_Job_amountAt, m_Law_trap, m_Room_trap, m_Job_isSpread, m_Spr_spread, m_Spr_weigh, m_Job_inksOf, m_Job_weightOf, m_Spr_lighterShyOf, m_Spr_isShy, m_Spr_isLighter, m_Job_colourAt, m_Spr_widenAcross, m_Spr_widenDown, m_Spr_markReached, m_Job_lighterAt, m_Long_numberOfTrailingZeros, m_Integer_numberOfTrailingZeros, m_Job_setLighter, m_Job_setSpread, m_Law_trapped, m_Room_trapped, m_Job_markAt, m_Law_screen, m_Room_screen, m_Scr_classCount, m_Law_rank, m_Room_rank, m_Scr_rankAt, m_Law_dot, m_Room_dot, m_Room_isPrinted, m_Scr_prints, m_Law_share, m_Room_share, m_Scr_heartX, m_Scr_heartY, m_Room_isOnPage, m_Law_proof, m_Room_proof, m_Law_impose, m_Room_impose, m_She_lay, m_Leaf_start, m_She_fold, m_Leaf_foldRightOnLeft, m_Leaf_turnOver, m_Leaf_foldLowerOnUpper, m_Leaf_leavesAbove, m_She_sheetCount, m_Law_slot, m_Room_slot, m_Room_needLaid, m_She_leafCount, m_She_pageOn, m_Leaf_sideUp, m_She_turnOf, m_Leaf_turnAtEnd, m_She_moveOf, m_Law_read, m_Room_read, m_She_slotRead, m_She_sideRead, m_Mod_init, m_Mod_thrown, m_Mod_colour, m_Mod_within, m_Mod_fail, m_Mod_box, m_Mod_isPage, m_Mod_at, m_Mod_cell, m_Mod_isCell, m_Mod_grey, m_Mod_separate, m_Mod_separateColour, m_Mod_plate, m_Mod_has, m_Mod_amountAt, m_Mod_amount, m_Mod_trap, m_Mod_spreading, m_Mod_isLighter, m_Mod_weight, m_Mod_isShy, m_Mod_trapped, m_Mod_screen, m_Mod_rank, m_Mod_rankOf, m_Mod_know, m_Mod_findHeart, m_Mod_sizeOf, m_Mod_rest, m_Mod_isBefore, m_Mod_formOf, m_Mod_heartNumber, m_Mod_addHeart, m_Mod_dot, m_Mod_isDot, m_Mod_share, m_Mod_proof, m_Mod_impose, m_Mod_fold, m_Mod_slot, m_Mod_read, m_Law_law]
def xgetM : List xM → Nat → xM
  | [], _ => m_Room_init
  | x :: _, 0 => x
  | _ :: t, k + 1 => xgetM t k
def xG : Nat → xM := xgetM xGL
def xnG : Nat := 157
def xWL : List Cond := Cond.code x code maxLocals ret :: lw_tbl
def xHL : List Cond := [.isRef (.static "java/lang/Throwable" "UNASSIGNED_STACK" "[Ljava/lang/StackTraceElement;"), .isRef (.static "java/lang/Throwable" "SUPPRESSED_SENTINEL" "Ljava/util/List;")]
end
section
theorem h_Room_init : xmok xWL xcl m_Room_init [66, 43] = true := by decide +kernel
set_option maxRecDepth 100000 in
theorem k_Room_init : (t_Room_init.all fun c => c.2.all fun q => xok xWL xHL xcl xSL xNM xty0 xsf "PrePressRoom" xnG xG m_Room_init q.1 q.2) = true := by decide +kernel
theorem h_Job_init : xmok xWL xcl m_Job_init [77, 44] = true := by decide +kernel
set_option maxRecDepth 100000 in
theorem k_Job_init : (t_Job_init.all fun c => c.2.all fun q => xok xWL xHL xcl xSL xNM xty0 xsf "PrePressRoom" xnG xG m_Job_init q.1 q.2) = true := by decide +kernel
theorem h_Spr_init : xmok xWL xcl m_Spr_init [100, 45] = true := by decide +kernel
set_option maxRecDepth 100000 in
theorem k_Spr_init : (t_Spr_init.all fun c => c.2.all fun q => xok xWL xHL xcl xSL xNM xty0 xsf "PrePressRoom" xnG xG m_Spr_init q.1 q.2) = true := by decide +kernel
theorem h_Pla_init : xmok xWL xcl m_Pla_init [125, 46] = true := by decide +kernel
set_option maxRecDepth 100000 in
theorem k_Pla_init : (t_Pla_init.all fun c => c.2.all fun q => xok xWL xHL xcl xSL xNM xty0 xsf "PrePressRoom" xnG xG m_Pla_init q.1 q.2) = true := by decide +kernel
theorem h_Pla_distanceOf : xmok xWL xcl m_Pla_distanceOf [129, 46] = true := by decide +kernel
set_option maxRecDepth 100000 in
theorem k_Pla_distanceOf : (t_Pla_distanceOf.all fun c => c.2.all fun q => xok xWL xHL xcl xSL xNM xty0 xsf "PrePressRoom" xnG xG m_Pla_distanceOf q.1 q.2) = true := by decide +kernel
theorem h_Pla_xOf : xmok xWL xcl m_Pla_xOf [132, 46] = true := by decide +kernel
set_option maxRecDepth 100000 in
theorem k_Pla_xOf : (t_Pla_xOf.all fun c => c.2.all fun q => xok xWL xHL xcl xSL xNM xty0 xsf "PrePressRoom" xnG xG m_Pla_xOf q.1 q.2) = true := by decide +kernel
theorem h_Pla_yOf : xmok xWL xcl m_Pla_yOf [135, 46] = true := by decide +kernel
set_option maxRecDepth 100000 in
theorem k_Pla_yOf : (t_Pla_yOf.all fun c => c.2.all fun q => xok xWL xHL xcl xSL xNM xty0 xsf "PrePressRoom" xnG xG m_Pla_yOf q.1 q.2) = true := by decide +kernel
theorem h_Pla_sortByForm : xmok xWL xcl m_Pla_sortByForm [139, 46] = true := by decide +kernel
set_option maxRecDepth 100000 in
theorem k_Pla_sortByForm : (t_Pla_sortByForm.all fun c => c.2.all fun q => xok xWL xHL xcl xSL xNM xty0 xsf "PrePressRoom" xnG xG m_Pla_sortByForm q.1 q.2) = true := by decide +kernel
theorem h_Arrays_fill : xmok xWL xcl m_Arrays_fill [142, 47] = true := by decide +kernel
set_option maxRecDepth 100000 in
theorem k_Arrays_fill : (t_Arrays_fill.all fun c => c.2.all fun q => xok xWL xHL xcl xSL xNM xty0 xsf "PrePressRoom" xnG xG m_Arrays_fill q.1 q.2) = true := by decide +kernel
theorem h_Pla_formOf : xmok xWL xcl m_Pla_formOf [145, 46] = true := by decide +kernel
set_option maxRecDepth 100000 in
theorem k_Pla_formOf : (t_Pla_formOf.all fun c => c.2.all fun q => xok xWL xHL xcl xSL xNM xty0 xsf "PrePressRoom" xnG xG m_Pla_formOf q.1 q.2) = true := by decide +kernel
theorem h_Math_abs : xmok xWL xcl m_Math_abs [148, 48] = true := by decide +kernel
set_option maxRecDepth 100000 in
theorem k_Math_abs : (t_Math_abs.all fun c => c.2.all fun q => xok xWL xHL xcl xSL xNM xty0 xsf "PrePressRoom" xnG xG m_Math_abs q.1 q.2) = true := by decide +kernel
theorem h_Scr_init : xmok xWL xcl m_Scr_init [168, 50] = true := by decide +kernel
set_option maxRecDepth 100000 in
theorem k_Scr_init : (t_Scr_init.all fun c => c.2.all fun q => xok xWL xHL xcl xSL xNM xty0 xsf "PrePressRoom" xnG xG m_Scr_init q.1 q.2) = true := by decide +kernel
theorem h_Scr_lay : xmok xWL xcl m_Scr_lay [173, 50] = true := by decide +kernel
set_option maxRecDepth 100000 in
theorem k_Scr_lay : (t_Scr_lay.all fun c => c.2.all fun q => xok xWL xHL xcl xSL xNM xty0 xsf "PrePressRoom" xnG xG m_Scr_lay q.1 q.2) = true := by decide +kernel
theorem h_Scr_greatestDivisor : xmok xWL xcl m_Scr_greatestDivisor [176, 50] = true := by decide +kernel
set_option maxRecDepth 100000 in
theorem k_Scr_greatestDivisor : (t_Scr_greatestDivisor.all fun c => c.2.all fun q => xok xWL xHL xcl xSL xNM xty0 xsf "PrePressRoom" xnG xG m_Scr_greatestDivisor q.1 q.2) = true := by decide +kernel
theorem h_Scr_shiftOfRows : xmok xWL xcl m_Scr_shiftOfRows [180, 50] = true := by decide +kernel
set_option maxRecDepth 100000 in
theorem k_Scr_shiftOfRows : (t_Scr_shiftOfRows.all fun c => c.2.all fun q => xok xWL xHL xcl xSL xNM xty0 xsf "PrePressRoom" xnG xG m_Scr_shiftOfRows q.1 q.2) = true := by decide +kernel
theorem h_Scr_isOfLattice : xmok xWL xcl m_Scr_isOfLattice [184, 50] = true := by decide +kernel
set_option maxRecDepth 100000 in
theorem k_Scr_isOfLattice : (t_Scr_isOfLattice.all fun c => c.2.all fun q => xok xWL xHL xcl xSL xNM xty0 xsf "PrePressRoom" xnG xG m_Scr_isOfLattice q.1 q.2) = true := by decide +kernel
theorem h_Pla_countWithin : xmok xWL xcl m_Pla_countWithin [188, 46] = true := by decide +kernel
set_option maxRecDepth 100000 in
theorem k_Pla_countWithin : (t_Pla_countWithin.all fun c => c.2.all fun q => xok xWL xHL xcl xSL xNM xty0 xsf "PrePressRoom" xnG xG m_Pla_countWithin q.1 q.2) = true := by decide +kernel
theorem h_Pla_inOrder : xmok xWL xcl m_Pla_inOrder [192, 46] = true := by decide +kernel
set_option maxRecDepth 100000 in
theorem k_Pla_inOrder : (t_Pla_inOrder.all fun c => c.2.all fun q => xok xWL xHL xcl xSL xNM xty0 xsf "PrePressRoom" xnG xG m_Pla_inOrder q.1 q.2) = true := by decide +kernel
theorem h_Scr_giveRanks : xmok xWL xcl m_Scr_giveRanks [196, 50] = true := by decide +kernel
set_option maxRecDepth 100000 in
theorem k_Scr_giveRanks : (t_Scr_giveRanks.all fun c => c.2.all fun q => xok xWL xHL xcl xSL xNM xty0 xsf "PrePressRoom" xnG xG m_Scr_giveRanks q.1 q.2) = true := by decide +kernel
theorem h_Scr_classAt : xmok xWL xcl m_Scr_classAt [203, 50] = true := by decide +kernel
set_option maxRecDepth 100000 in
theorem k_Scr_classAt : (t_Scr_classAt.all fun c => c.2.all fun q => xok xWL xHL xcl xSL xNM xty0 xsf "PrePressRoom" xnG xG m_Scr_classAt q.1 q.2) = true := by decide +kernel
theorem h_Math_floorDiv : xmok xWL xcl m_Math_floorDiv [206, 48] = true := by decide +kernel
set_option maxRecDepth 100000 in
theorem k_Math_floorDiv : (t_Math_floorDiv.all fun c => c.2.all fun q => xok xWL xHL xcl xSL xNM xty0 xsf "PrePressRoom" xnG xG m_Math_floorDiv q.1 q.2) = true := by decide +kernel
theorem h_Math_floorMod : xmok xWL xcl m_Math_floorMod [209, 48] = true := by decide +kernel
set_option maxRecDepth 100000 in
theorem k_Math_floorMod : (t_Math_floorMod.all fun c => c.2.all fun q => xok xWL xHL xcl xSL xNM xty0 xsf "PrePressRoom" xnG xG m_Math_floorMod q.1 q.2) = true := by decide +kernel
theorem h_She_init : xmok xWL xcl m_She_init [233, 51] = true := by decide +kernel
set_option maxRecDepth 100000 in
theorem k_She_init : (t_She_init.all fun c => c.2.all fun q => xok xWL xHL xcl xSL xNM xty0 xsf "PrePressRoom" xnG xG m_She_init q.1 q.2) = true := by decide +kernel
theorem h_Leaf_init : xmok xWL xcl m_Leaf_init [240, 52] = true := by decide +kernel
set_option maxRecDepth 100000 in
theorem k_Leaf_init : (t_Leaf_init.all fun c => c.2.all fun q => xok xWL xHL xcl xSL xNM xty0 xsf "PrePressRoom" xnG xG m_Leaf_init q.1 q.2) = true := by decide +kernel
theorem h_Law_colour : xmok xWL xcl m_Law_colour [301, 42] = true := by decide +kernel
set_option maxRecDepth 100000 in
theorem k_Law_colour : (t_Law_colour.all fun c => c.2.all fun q => xok xWL xHL xcl xSL xNM xty0 xsf "PrePressRoom" xnG xG m_Law_colour q.1 q.2) = true := by decide +kernel
theorem h_Room_colour : xmok xWL xcl m_Room_colour [308, 43] = true := by decide +kernel
set_option maxRecDepth 100000 in
theorem k_Room_colour : (t_Room_colour.all fun c => c.2.all fun q => xok xWL xHL xcl xSL xNM xty0 xsf "PrePressRoom" xnG xG m_Room_colour q.1 q.2) = true := by decide +kernel
theorem h_Room_needIndex : xmok xWL xcl m_Room_needIndex [311, 43] = true := by decide +kernel
set_option maxRecDepth 100000 in
theorem k_Room_needIndex : (t_Room_needIndex.all fun c => c.2.all fun q => xok xWL xHL xcl xSL xNM xty0 xsf "PrePressRoom" xnG xG m_Room_needIndex q.1 q.2) = true := by decide +kernel
theorem h_Room_needBetween : xmok xWL xcl m_Room_needBetween [382, 43] = true := by decide +kernel
set_option maxRecDepth 100000 in
theorem k_Room_needBetween : (t_Room_needBetween.all fun c => c.2.all fun q => xok xWL xHL xcl xSL xNM xty0 xsf "PrePressRoom" xnG xG m_Room_needBetween q.1 q.2) = true := by decide +kernel
theorem h_Room_hasOtherSpot : xmok xWL xcl m_Room_hasOtherSpot [402, 43] = true := by decide +kernel
set_option maxRecDepth 100000 in
theorem k_Room_hasOtherSpot : (t_Room_hasOtherSpot.all fun c => c.2.all fun q => xok xWL xHL xcl xSL xNM xty0 xsf "PrePressRoom" xnG xG m_Room_hasOtherSpot q.1 q.2) = true := by decide +kernel
theorem h_Law_box : xmok xWL xcl m_Law_box [421, 42] = true := by decide +kernel
set_option maxRecDepth 100000 in
theorem k_Law_box : (t_Law_box.all fun c => c.2.all fun q => xok xWL xHL xcl xSL xNM xty0 xsf "PrePressRoom" xnG xG m_Law_box q.1 q.2) = true := by decide +kernel
theorem h_Room_box : xmok xWL xcl m_Room_box [425, 43] = true := by decide +kernel
set_option maxRecDepth 100000 in
theorem k_Room_box : (t_Room_box.all fun c => c.2.all fun q => xok xWL xHL xcl xSL xNM xty0 xsf "PrePressRoom" xnG xG m_Room_box q.1 q.2) = true := by decide +kernel
theorem h_Room_needSpan : xmok xWL xcl m_Room_needSpan [428, 43] = true := by decide +kernel
set_option maxRecDepth 100000 in
theorem k_Room_needSpan : (t_Room_needSpan.all fun c => c.2.all fun q => xok xWL xHL xcl xSL xNM xty0 xsf "PrePressRoom" xnG xG m_Room_needSpan q.1 q.2) = true := by decide +kernel
theorem h_Law_cell : xmok xWL xcl m_Law_cell [431, 42] = true := by decide +kernel
set_option maxRecDepth 100000 in
theorem k_Law_cell : (t_Law_cell.all fun c => c.2.all fun q => xok xWL xHL xcl xSL xNM xty0 xsf "PrePressRoom" xnG xG m_Law_cell q.1 q.2) = true := by decide +kernel
theorem h_Room_cell : xmok xWL xcl m_Room_cell [435, 43] = true := by decide +kernel
set_option maxRecDepth 100000 in
theorem k_Room_cell : (t_Room_cell.all fun c => c.2.all fun q => xok xWL xHL xcl xSL xNM xty0 xsf "PrePressRoom" xnG xG m_Room_cell q.1 q.2) = true := by decide +kernel
theorem h_Room_needCell : xmok xWL xcl m_Room_needCell [438, 43] = true := by decide +kernel
set_option maxRecDepth 100000 in
theorem k_Room_needCell : (t_Room_needCell.all fun c => c.2.all fun q => xok xWL xHL xcl xSL xNM xty0 xsf "PrePressRoom" xnG xG m_Room_needCell q.1 q.2) = true := by decide +kernel
theorem h_Room_cellAt : xmok xWL xcl m_Room_cellAt [441, 43] = true := by decide +kernel
set_option maxRecDepth 100000 in
theorem k_Room_cellAt : (t_Room_cellAt.all fun c => c.2.all fun q => xok xWL xHL xcl xSL xNM xty0 xsf "PrePressRoom" xnG xG m_Room_cellAt q.1 q.2) = true := by decide +kernel
theorem h_Law_grey : xmok xWL xcl m_Law_grey [444, 42] = true := by decide +kernel
set_option maxRecDepth 100000 in
theorem k_Law_grey : (t_Law_grey.all fun c => c.2.all fun q => xok xWL xHL xcl xSL xNM xty0 xsf "PrePressRoom" xnG xG m_Law_grey q.1 q.2) = true := by decide +kernel
theorem h_Room_grey : xmok xWL xcl m_Room_grey [448, 43] = true := by decide +kernel
set_option maxRecDepth 100000 in
theorem k_Room_grey : (t_Room_grey.all fun c => c.2.all fun q => xok xWL xHL xcl xSL xNM xty0 xsf "PrePressRoom" xnG xG m_Room_grey q.1 q.2) = true := by decide +kernel
theorem h_Law_separate : xmok xWL xcl m_Law_separate [451, 42] = true := by decide +kernel
set_option maxRecDepth 100000 in
theorem k_Law_separate : (t_Law_separate.all fun c => c.2.all fun q => xok xWL xHL xcl xSL xNM xty0 xsf "PrePressRoom" xnG xG m_Law_separate q.1 q.2) = true := by decide +kernel
theorem h_Room_separate : xmok xWL xcl m_Room_separate [455, 43] = true := by decide +kernel
set_option maxRecDepth 100000 in
theorem k_Room_separate : (t_Room_separate.all fun c => c.2.all fun q => xok xWL xHL xcl xSL xNM xty0 xsf "PrePressRoom" xnG xG m_Room_separate q.1 q.2) = true := by decide +kernel
theorem h_Job_make : xmok xWL xcl m_Job_make [459, 44] = true := by decide +kernel
set_option maxRecDepth 100000 in
theorem k_Job_make : (t_Job_make.all fun c => c.2.all fun q => xok xWL xHL xcl xSL xNM xty0 xsf "PrePressRoom" xnG xG m_Job_make q.1 q.2) = true := by decide +kernel
theorem h_Job_moveToBlack : xmok xWL xcl m_Job_moveToBlack [465, 44] = true := by decide +kernel
set_option maxRecDepth 100000 in
theorem k_Job_moveToBlack : (t_Job_moveToBlack.all fun c => c.2.all fun q => xok xWL xHL xcl xSL xNM xty0 xsf "PrePressRoom" xnG xG m_Job_moveToBlack q.1 q.2) = true := by decide +kernel
theorem h_Math_min : xmok xWL xcl m_Math_min [468, 48] = true := by decide +kernel
set_option maxRecDepth 100000 in
theorem k_Math_min : (t_Math_min.all fun c => c.2.all fun q => xok xWL xHL xcl xSL xNM xty0 xsf "PrePressRoom" xnG xG m_Math_min q.1 q.2) = true := by decide +kernel
theorem h_Job_keepLimit : xmok xWL xcl m_Job_keepLimit [472, 44] = true := by decide +kernel
set_option maxRecDepth 100000 in
theorem k_Job_keepLimit : (t_Job_keepLimit.all fun c => c.2.all fun q => xok xWL xHL xcl xSL xNM xty0 xsf "PrePressRoom" xnG xG m_Job_keepLimit q.1 q.2) = true := by decide +kernel
theorem h_Math_max : xmok xWL xcl m_Math_max [475, 48] = true := by decide +kernel
set_option maxRecDepth 100000 in
theorem k_Math_max : (t_Math_max.all fun c => c.2.all fun q => xok xWL xHL xcl xSL xNM xty0 xsf "PrePressRoom" xnG xG m_Math_max q.1 q.2) = true := by decide +kernel
theorem h_Job_countColours : xmok xWL xcl m_Job_countColours [479, 44] = true := by decide +kernel
set_option maxRecDepth 100000 in
theorem k_Job_countColours : (t_Job_countColours.all fun c => c.2.all fun q => xok xWL xHL xcl xSL xNM xty0 xsf "PrePressRoom" xnG xG m_Job_countColours q.1 q.2) = true := by decide +kernel
theorem h_Long_bitCount : xmok xWL xcl m_Long_bitCount [482, 60] = true := by decide +kernel
set_option maxRecDepth 100000 in
theorem k_Long_bitCount : (t_Long_bitCount.all fun c => c.2.all fun q => xok xWL xHL xcl xSL xNM xty0 xsf "PrePressRoom" xnG xG m_Long_bitCount q.1 q.2) = true := by decide +kernel
theorem h_Law_plate : xmok xWL xcl m_Law_plate [488, 42] = true := by decide +kernel
set_option maxRecDepth 100000 in
theorem k_Law_plate : (t_Law_plate.all fun c => c.2.all fun q => xok xWL xHL xcl xSL xNM xty0 xsf "PrePressRoom" xnG xG m_Law_plate q.1 q.2) = true := by decide +kernel
theorem h_Room_plate : xmok xWL xcl m_Room_plate [492, 43] = true := by decide +kernel
set_option maxRecDepth 100000 in
theorem k_Room_plate : (t_Room_plate.all fun c => c.2.all fun q => xok xWL xHL xcl xSL xNM xty0 xsf "PrePressRoom" xnG xG m_Room_plate q.1 q.2) = true := by decide +kernel
theorem h_Room_madeJob : xmok xWL xcl m_Room_madeJob [496, 43] = true := by decide +kernel
set_option maxRecDepth 100000 in
theorem k_Room_madeJob : (t_Room_madeJob.all fun c => c.2.all fun q => xok xWL xHL xcl xSL xNM xty0 xsf "PrePressRoom" xnG xG m_Room_madeJob q.1 q.2) = true := by decide +kernel
theorem h_Job_isMade : xmok xWL xcl m_Job_isMade [500, 44] = true := by decide +kernel
set_option maxRecDepth 100000 in
theorem k_Job_isMade : (t_Job_isMade.all fun c => c.2.all fun q => xok xWL xHL xcl xSL xNM xty0 xsf "PrePressRoom" xnG xG m_Job_isMade q.1 q.2) = true := by decide +kernel
theorem h_Job_amountAt : xmok xWL xcl m_Job_amountAt [505, 44] = true := by decide +kernel
set_option maxRecDepth 100000 in
theorem k_Job_amountAt : (t_Job_amountAt.all fun c => c.2.all fun q => xok xWL xHL xcl xSL xNM xty0 xsf "PrePressRoom" xnG xG m_Job_amountAt q.1 q.2) = true := by decide +kernel
theorem h_Law_trap : xmok xWL xcl m_Law_trap [508, 42] = true := by decide +kernel
set_option maxRecDepth 100000 in
theorem k_Law_trap : (t_Law_trap.all fun c => c.2.all fun q => xok xWL xHL xcl xSL xNM xty0 xsf "PrePressRoom" xnG xG m_Law_trap q.1 q.2) = true := by decide +kernel
theorem h_Room_trap : xmok xWL xcl m_Room_trap [512, 43] = true := by decide +kernel
set_option maxRecDepth 100000 in
theorem k_Room_trap : (t_Room_trap.all fun c => c.2.all fun q => xok xWL xHL xcl xSL xNM xty0 xsf "PrePressRoom" xnG xG m_Room_trap q.1 q.2) = true := by decide +kernel
theorem h_Job_isSpread : xmok xWL xcl m_Job_isSpread [516, 44] = true := by decide +kernel
set_option maxRecDepth 100000 in
theorem k_Job_isSpread : (t_Job_isSpread.all fun c => c.2.all fun q => xok xWL xHL xcl xSL xNM xty0 xsf "PrePressRoom" xnG xG m_Job_isSpread q.1 q.2) = true := by decide +kernel
theorem h_Spr_spread : xmok xWL xcl m_Spr_spread [521, 45] = true := by decide +kernel
set_option maxRecDepth 100000 in
theorem k_Spr_spread : (t_Spr_spread.all fun c => c.2.all fun q => xok xWL xHL xcl xSL xNM xty0 xsf "PrePressRoom" xnG xG m_Spr_spread q.1 q.2) = true := by decide +kernel
theorem h_Spr_weigh : xmok xWL xcl m_Spr_weigh [525, 45] = true := by decide +kernel
set_option maxRecDepth 100000 in
theorem k_Spr_weigh : (t_Spr_weigh.all fun c => c.2.all fun q => xok xWL xHL xcl xSL xNM xty0 xsf "PrePressRoom" xnG xG m_Spr_weigh q.1 q.2) = true := by decide +kernel
theorem h_Job_inksOf : xmok xWL xcl m_Job_inksOf [529, 44] = true := by decide +kernel
set_option maxRecDepth 100000 in
theorem k_Job_inksOf : (t_Job_inksOf.all fun c => c.2.all fun q => xok xWL xHL xcl xSL xNM xty0 xsf "PrePressRoom" xnG xG m_Job_inksOf q.1 q.2) = true := by decide +kernel
theorem h_Job_weightOf : xmok xWL xcl m_Job_weightOf [533, 44] = true := by decide +kernel
set_option maxRecDepth 100000 in
theorem k_Job_weightOf : (t_Job_weightOf.all fun c => c.2.all fun q => xok xWL xHL xcl xSL xNM xty0 xsf "PrePressRoom" xnG xG m_Job_weightOf q.1 q.2) = true := by decide +kernel
theorem h_Spr_lighterShyOf : xmok xWL xcl m_Spr_lighterShyOf [539, 45] = true := by decide +kernel
set_option maxRecDepth 100000 in
theorem k_Spr_lighterShyOf : (t_Spr_lighterShyOf.all fun c => c.2.all fun q => xok xWL xHL xcl xSL xNM xty0 xsf "PrePressRoom" xnG xG m_Spr_lighterShyOf q.1 q.2) = true := by decide +kernel
theorem h_Spr_isShy : xmok xWL xcl m_Spr_isShy [543, 45] = true := by decide +kernel
set_option maxRecDepth 100000 in
theorem k_Spr_isShy : (t_Spr_isShy.all fun c => c.2.all fun q => xok xWL xHL xcl xSL xNM xty0 xsf "PrePressRoom" xnG xG m_Spr_isShy q.1 q.2) = true := by decide +kernel
theorem h_Spr_isLighter : xmok xWL xcl m_Spr_isLighter [547, 45] = true := by decide +kernel
set_option maxRecDepth 100000 in
theorem k_Spr_isLighter : (t_Spr_isLighter.all fun c => c.2.all fun q => xok xWL xHL xcl xSL xNM xty0 xsf "PrePressRoom" xnG xG m_Spr_isLighter q.1 q.2) = true := by decide +kernel
end
section
theorem h_Job_colourAt : xmok xWL xcl m_Job_colourAt [551, 44] = true := by decide +kernel
set_option maxRecDepth 100000 in
theorem k_Job_colourAt : (t_Job_colourAt.all fun c => c.2.all fun q => xok xWL xHL xcl xSL xNM xty0 xsf "PrePressRoom" xnG xG m_Job_colourAt q.1 q.2) = true := by decide +kernel
theorem h_Spr_widenAcross : xmok xWL xcl m_Spr_widenAcross [555, 45] = true := by decide +kernel
set_option maxRecDepth 100000 in
theorem k_Spr_widenAcross : (t_Spr_widenAcross.all fun c => c.2.all fun q => xok xWL xHL xcl xSL xNM xty0 xsf "PrePressRoom" xnG xG m_Spr_widenAcross q.1 q.2) = true := by decide +kernel
theorem h_Spr_widenDown : xmok xWL xcl m_Spr_widenDown [559, 45] = true := by decide +kernel
set_option maxRecDepth 100000 in
theorem k_Spr_widenDown : (t_Spr_widenDown.all fun c => c.2.all fun q => xok xWL xHL xcl xSL xNM xty0 xsf "PrePressRoom" xnG xG m_Spr_widenDown q.1 q.2) = true := by decide +kernel
theorem h_Spr_markReached : xmok xWL xcl m_Spr_markReached [563, 45] = true := by decide +kernel
set_option maxRecDepth 100000 in
theorem k_Spr_markReached : (t_Spr_markReached.all fun c => c.2.all fun q => xok xWL xHL xcl xSL xNM xty0 xsf "PrePressRoom" xnG xG m_Spr_markReached q.1 q.2) = true := by decide +kernel
theorem h_Job_lighterAt : xmok xWL xcl m_Job_lighterAt [567, 44] = true := by decide +kernel
set_option maxRecDepth 100000 in
theorem k_Job_lighterAt : (t_Job_lighterAt.all fun c => c.2.all fun q => xok xWL xHL xcl xSL xNM xty0 xsf "PrePressRoom" xnG xG m_Job_lighterAt q.1 q.2) = true := by decide +kernel
theorem h_Long_numberOfTrailingZeros : xmok xWL xcl m_Long_numberOfTrailingZeros [570, 60] = true := by decide +kernel
set_option maxRecDepth 100000 in
theorem k_Long_numberOfTrailingZeros : (t_Long_numberOfTrailingZeros.all fun c => c.2.all fun q => xok xWL xHL xcl xSL xNM xty0 xsf "PrePressRoom" xnG xG m_Long_numberOfTrailingZeros q.1 q.2) = true := by decide +kernel
theorem h_Integer_numberOfTrailingZeros : xmok xWL xcl m_Integer_numberOfTrailingZeros [573, 61] = true := by decide +kernel
set_option maxRecDepth 100000 in
theorem k_Integer_numberOfTrailingZeros : (t_Integer_numberOfTrailingZeros.all fun c => c.2.all fun q => xok xWL xHL xcl xSL xNM xty0 xsf "PrePressRoom" xnG xG m_Integer_numberOfTrailingZeros q.1 q.2) = true := by decide +kernel
theorem h_Job_setLighter : xmok xWL xcl m_Job_setLighter [578, 44] = true := by decide +kernel
set_option maxRecDepth 100000 in
theorem k_Job_setLighter : (t_Job_setLighter.all fun c => c.2.all fun q => xok xWL xHL xcl xSL xNM xty0 xsf "PrePressRoom" xnG xG m_Job_setLighter q.1 q.2) = true := by decide +kernel
theorem h_Job_setSpread : xmok xWL xcl m_Job_setSpread [582, 44] = true := by decide +kernel
set_option maxRecDepth 100000 in
theorem k_Job_setSpread : (t_Job_setSpread.all fun c => c.2.all fun q => xok xWL xHL xcl xSL xNM xty0 xsf "PrePressRoom" xnG xG m_Job_setSpread q.1 q.2) = true := by decide +kernel
theorem h_Law_trapped : xmok xWL xcl m_Law_trapped [585, 42] = true := by decide +kernel
set_option maxRecDepth 100000 in
theorem k_Law_trapped : (t_Law_trapped.all fun c => c.2.all fun q => xok xWL xHL xcl xSL xNM xty0 xsf "PrePressRoom" xnG xG m_Law_trapped q.1 q.2) = true := by decide +kernel
theorem h_Room_trapped : xmok xWL xcl m_Room_trapped [589, 43] = true := by decide +kernel
set_option maxRecDepth 100000 in
theorem k_Room_trapped : (t_Room_trapped.all fun c => c.2.all fun q => xok xWL xHL xcl xSL xNM xty0 xsf "PrePressRoom" xnG xG m_Room_trapped q.1 q.2) = true := by decide +kernel
theorem h_Job_markAt : xmok xWL xcl m_Job_markAt [593, 44] = true := by decide +kernel
set_option maxRecDepth 100000 in
theorem k_Job_markAt : (t_Job_markAt.all fun c => c.2.all fun q => xok xWL xHL xcl xSL xNM xty0 xsf "PrePressRoom" xnG xG m_Job_markAt q.1 q.2) = true := by decide +kernel
theorem h_Law_screen : xmok xWL xcl m_Law_screen [596, 42] = true := by decide +kernel
set_option maxRecDepth 100000 in
theorem k_Law_screen : (t_Law_screen.all fun c => c.2.all fun q => xok xWL xHL xcl xSL xNM xty0 xsf "PrePressRoom" xnG xG m_Law_screen q.1 q.2) = true := by decide +kernel
theorem h_Room_screen : xmok xWL xcl m_Room_screen [600, 43] = true := by decide +kernel
set_option maxRecDepth 100000 in
theorem k_Room_screen : (t_Room_screen.all fun c => c.2.all fun q => xok xWL xHL xcl xSL xNM xty0 xsf "PrePressRoom" xnG xG m_Room_screen q.1 q.2) = true := by decide +kernel
theorem h_Scr_classCount : xmok xWL xcl m_Scr_classCount [605, 50] = true := by decide +kernel
set_option maxRecDepth 100000 in
theorem k_Scr_classCount : (t_Scr_classCount.all fun c => c.2.all fun q => xok xWL xHL xcl xSL xNM xty0 xsf "PrePressRoom" xnG xG m_Scr_classCount q.1 q.2) = true := by decide +kernel
theorem h_Law_rank : xmok xWL xcl m_Law_rank [608, 42] = true := by decide +kernel
set_option maxRecDepth 100000 in
theorem k_Law_rank : (t_Law_rank.all fun c => c.2.all fun q => xok xWL xHL xcl xSL xNM xty0 xsf "PrePressRoom" xnG xG m_Law_rank q.1 q.2) = true := by decide +kernel
theorem h_Room_rank : xmok xWL xcl m_Room_rank [612, 43] = true := by decide +kernel
set_option maxRecDepth 100000 in
theorem k_Room_rank : (t_Room_rank.all fun c => c.2.all fun q => xok xWL xHL xcl xSL xNM xty0 xsf "PrePressRoom" xnG xG m_Room_rank q.1 q.2) = true := by decide +kernel
theorem h_Scr_rankAt : xmok xWL xcl m_Scr_rankAt [616, 50] = true := by decide +kernel
set_option maxRecDepth 100000 in
theorem k_Scr_rankAt : (t_Scr_rankAt.all fun c => c.2.all fun q => xok xWL xHL xcl xSL xNM xty0 xsf "PrePressRoom" xnG xG m_Scr_rankAt q.1 q.2) = true := by decide +kernel
theorem h_Law_dot : xmok xWL xcl m_Law_dot [619, 42] = true := by decide +kernel
set_option maxRecDepth 100000 in
theorem k_Law_dot : (t_Law_dot.all fun c => c.2.all fun q => xok xWL xHL xcl xSL xNM xty0 xsf "PrePressRoom" xnG xG m_Law_dot q.1 q.2) = true := by decide +kernel
theorem h_Room_dot : xmok xWL xcl m_Room_dot [623, 43] = true := by decide +kernel
set_option maxRecDepth 100000 in
theorem k_Room_dot : (t_Room_dot.all fun c => c.2.all fun q => xok xWL xHL xcl xSL xNM xty0 xsf "PrePressRoom" xnG xG m_Room_dot q.1 q.2) = true := by decide +kernel
theorem h_Room_isPrinted : xmok xWL xcl m_Room_isPrinted [627, 43] = true := by decide +kernel
set_option maxRecDepth 100000 in
theorem k_Room_isPrinted : (t_Room_isPrinted.all fun c => c.2.all fun q => xok xWL xHL xcl xSL xNM xty0 xsf "PrePressRoom" xnG xG m_Room_isPrinted q.1 q.2) = true := by decide +kernel
theorem h_Scr_prints : xmok xWL xcl m_Scr_prints [631, 50] = true := by decide +kernel
set_option maxRecDepth 100000 in
theorem k_Scr_prints : (t_Scr_prints.all fun c => c.2.all fun q => xok xWL xHL xcl xSL xNM xty0 xsf "PrePressRoom" xnG xG m_Scr_prints q.1 q.2) = true := by decide +kernel
theorem h_Law_share : xmok xWL xcl m_Law_share [634, 42] = true := by decide +kernel
set_option maxRecDepth 100000 in
theorem k_Law_share : (t_Law_share.all fun c => c.2.all fun q => xok xWL xHL xcl xSL xNM xty0 xsf "PrePressRoom" xnG xG m_Law_share q.1 q.2) = true := by decide +kernel
theorem h_Room_share : xmok xWL xcl m_Room_share [638, 43] = true := by decide +kernel
set_option maxRecDepth 100000 in
theorem k_Room_share : (t_Room_share.all fun c => c.2.all fun q => xok xWL xHL xcl xSL xNM xty0 xsf "PrePressRoom" xnG xG m_Room_share q.1 q.2) = true := by decide +kernel
theorem h_Scr_heartX : xmok xWL xcl m_Scr_heartX [642, 50] = true := by decide +kernel
set_option maxRecDepth 100000 in
theorem k_Scr_heartX : (t_Scr_heartX.all fun c => c.2.all fun q => xok xWL xHL xcl xSL xNM xty0 xsf "PrePressRoom" xnG xG m_Scr_heartX q.1 q.2) = true := by decide +kernel
theorem h_Scr_heartY : xmok xWL xcl m_Scr_heartY [646, 50] = true := by decide +kernel
set_option maxRecDepth 100000 in
theorem k_Scr_heartY : (t_Scr_heartY.all fun c => c.2.all fun q => xok xWL xHL xcl xSL xNM xty0 xsf "PrePressRoom" xnG xG m_Scr_heartY q.1 q.2) = true := by decide +kernel
theorem h_Room_isOnPage : xmok xWL xcl m_Room_isOnPage [649, 43] = true := by decide +kernel
set_option maxRecDepth 100000 in
theorem k_Room_isOnPage : (t_Room_isOnPage.all fun c => c.2.all fun q => xok xWL xHL xcl xSL xNM xty0 xsf "PrePressRoom" xnG xG m_Room_isOnPage q.1 q.2) = true := by decide +kernel
theorem h_Law_proof : xmok xWL xcl m_Law_proof [652, 42] = true := by decide +kernel
set_option maxRecDepth 100000 in
theorem k_Law_proof : (t_Law_proof.all fun c => c.2.all fun q => xok xWL xHL xcl xSL xNM xty0 xsf "PrePressRoom" xnG xG m_Law_proof q.1 q.2) = true := by decide +kernel
theorem h_Room_proof : xmok xWL xcl m_Room_proof [656, 43] = true := by decide +kernel
set_option maxRecDepth 100000 in
theorem k_Room_proof : (t_Room_proof.all fun c => c.2.all fun q => xok xWL xHL xcl xSL xNM xty0 xsf "PrePressRoom" xnG xG m_Room_proof q.1 q.2) = true := by decide +kernel
theorem h_Law_impose : xmok xWL xcl m_Law_impose [659, 42] = true := by decide +kernel
set_option maxRecDepth 100000 in
theorem k_Law_impose : (t_Law_impose.all fun c => c.2.all fun q => xok xWL xHL xcl xSL xNM xty0 xsf "PrePressRoom" xnG xG m_Law_impose q.1 q.2) = true := by decide +kernel
theorem h_Room_impose : xmok xWL xcl m_Room_impose [663, 43] = true := by decide +kernel
set_option maxRecDepth 100000 in
theorem k_Room_impose : (t_Room_impose.all fun c => c.2.all fun q => xok xWL xHL xcl xSL xNM xty0 xsf "PrePressRoom" xnG xG m_Room_impose q.1 q.2) = true := by decide +kernel
theorem h_She_lay : xmok xWL xcl m_She_lay [668, 51] = true := by decide +kernel
set_option maxRecDepth 100000 in
theorem k_She_lay : (t_She_lay.all fun c => c.2.all fun q => xok xWL xHL xcl xSL xNM xty0 xsf "PrePressRoom" xnG xG m_She_lay q.1 q.2) = true := by decide +kernel
theorem h_Leaf_start : xmok xWL xcl m_Leaf_start [672, 52] = true := by decide +kernel
set_option maxRecDepth 100000 in
theorem k_Leaf_start : (t_Leaf_start.all fun c => c.2.all fun q => xok xWL xHL xcl xSL xNM xty0 xsf "PrePressRoom" xnG xG m_Leaf_start q.1 q.2) = true := by decide +kernel
theorem h_She_fold : xmok xWL xcl m_She_fold [676, 51] = true := by decide +kernel
set_option maxRecDepth 100000 in
theorem k_She_fold : (t_She_fold.all fun c => c.2.all fun q => xok xWL xHL xcl xSL xNM xty0 xsf "PrePressRoom" xnG xG m_She_fold q.1 q.2) = true := by decide +kernel
theorem h_Leaf_foldRightOnLeft : xmok xWL xcl m_Leaf_foldRightOnLeft [680, 52] = true := by decide +kernel
set_option maxRecDepth 100000 in
theorem k_Leaf_foldRightOnLeft : (t_Leaf_foldRightOnLeft.all fun c => c.2.all fun q => xok xWL xHL xcl xSL xNM xty0 xsf "PrePressRoom" xnG xG m_Leaf_foldRightOnLeft q.1 q.2) = true := by decide +kernel
theorem h_Leaf_turnOver : xmok xWL xcl m_Leaf_turnOver [684, 52] = true := by decide +kernel
set_option maxRecDepth 100000 in
theorem k_Leaf_turnOver : (t_Leaf_turnOver.all fun c => c.2.all fun q => xok xWL xHL xcl xSL xNM xty0 xsf "PrePressRoom" xnG xG m_Leaf_turnOver q.1 q.2) = true := by decide +kernel
theorem h_Leaf_foldLowerOnUpper : xmok xWL xcl m_Leaf_foldLowerOnUpper [688, 52] = true := by decide +kernel
set_option maxRecDepth 100000 in
theorem k_Leaf_foldLowerOnUpper : (t_Leaf_foldLowerOnUpper.all fun c => c.2.all fun q => xok xWL xHL xcl xSL xNM xty0 xsf "PrePressRoom" xnG xG m_Leaf_foldLowerOnUpper q.1 q.2) = true := by decide +kernel
theorem h_Leaf_leavesAbove : xmok xWL xcl m_Leaf_leavesAbove [692, 52] = true := by decide +kernel
set_option maxRecDepth 100000 in
theorem k_Leaf_leavesAbove : (t_Leaf_leavesAbove.all fun c => c.2.all fun q => xok xWL xHL xcl xSL xNM xty0 xsf "PrePressRoom" xnG xG m_Leaf_leavesAbove q.1 q.2) = true := by decide +kernel
theorem h_She_sheetCount : xmok xWL xcl m_She_sheetCount [696, 51] = true := by decide +kernel
set_option maxRecDepth 100000 in
theorem k_She_sheetCount : (t_She_sheetCount.all fun c => c.2.all fun q => xok xWL xHL xcl xSL xNM xty0 xsf "PrePressRoom" xnG xG m_She_sheetCount q.1 q.2) = true := by decide +kernel
theorem h_Law_slot : xmok xWL xcl m_Law_slot [699, 42] = true := by decide +kernel
set_option maxRecDepth 100000 in
theorem k_Law_slot : (t_Law_slot.all fun c => c.2.all fun q => xok xWL xHL xcl xSL xNM xty0 xsf "PrePressRoom" xnG xG m_Law_slot q.1 q.2) = true := by decide +kernel
theorem h_Room_slot : xmok xWL xcl m_Room_slot [703, 43] = true := by decide +kernel
set_option maxRecDepth 100000 in
theorem k_Room_slot : (t_Room_slot.all fun c => c.2.all fun q => xok xWL xHL xcl xSL xNM xty0 xsf "PrePressRoom" xnG xG m_Room_slot q.1 q.2) = true := by decide +kernel
theorem h_Room_needLaid : xmok xWL xcl m_Room_needLaid [707, 43] = true := by decide +kernel
set_option maxRecDepth 100000 in
theorem k_Room_needLaid : (t_Room_needLaid.all fun c => c.2.all fun q => xok xWL xHL xcl xSL xNM xty0 xsf "PrePressRoom" xnG xG m_Room_needLaid q.1 q.2) = true := by decide +kernel
theorem h_She_leafCount : xmok xWL xcl m_She_leafCount [712, 51] = true := by decide +kernel
set_option maxRecDepth 100000 in
theorem k_She_leafCount : (t_She_leafCount.all fun c => c.2.all fun q => xok xWL xHL xcl xSL xNM xty0 xsf "PrePressRoom" xnG xG m_She_leafCount q.1 q.2) = true := by decide +kernel
theorem h_She_pageOn : xmok xWL xcl m_She_pageOn [716, 51] = true := by decide +kernel
set_option maxRecDepth 100000 in
theorem k_She_pageOn : (t_She_pageOn.all fun c => c.2.all fun q => xok xWL xHL xcl xSL xNM xty0 xsf "PrePressRoom" xnG xG m_She_pageOn q.1 q.2) = true := by decide +kernel
theorem h_Leaf_sideUp : xmok xWL xcl m_Leaf_sideUp [720, 52] = true := by decide +kernel
set_option maxRecDepth 100000 in
theorem k_Leaf_sideUp : (t_Leaf_sideUp.all fun c => c.2.all fun q => xok xWL xHL xcl xSL xNM xty0 xsf "PrePressRoom" xnG xG m_Leaf_sideUp q.1 q.2) = true := by decide +kernel
theorem h_She_turnOf : xmok xWL xcl m_She_turnOf [724, 51] = true := by decide +kernel
set_option maxRecDepth 100000 in
theorem k_She_turnOf : (t_She_turnOf.all fun c => c.2.all fun q => xok xWL xHL xcl xSL xNM xty0 xsf "PrePressRoom" xnG xG m_She_turnOf q.1 q.2) = true := by decide +kernel
theorem h_Leaf_turnAtEnd : xmok xWL xcl m_Leaf_turnAtEnd [728, 52] = true := by decide +kernel
set_option maxRecDepth 100000 in
theorem k_Leaf_turnAtEnd : (t_Leaf_turnAtEnd.all fun c => c.2.all fun q => xok xWL xHL xcl xSL xNM xty0 xsf "PrePressRoom" xnG xG m_Leaf_turnAtEnd q.1 q.2) = true := by decide +kernel
theorem h_She_moveOf : xmok xWL xcl m_She_moveOf [732, 51] = true := by decide +kernel
set_option maxRecDepth 100000 in
theorem k_She_moveOf : (t_She_moveOf.all fun c => c.2.all fun q => xok xWL xHL xcl xSL xNM xty0 xsf "PrePressRoom" xnG xG m_She_moveOf q.1 q.2) = true := by decide +kernel
theorem h_Law_read : xmok xWL xcl m_Law_read [736, 42] = true := by decide +kernel
set_option maxRecDepth 100000 in
theorem k_Law_read : (t_Law_read.all fun c => c.2.all fun q => xok xWL xHL xcl xSL xNM xty0 xsf "PrePressRoom" xnG xG m_Law_read q.1 q.2) = true := by decide +kernel
theorem h_Room_read : xmok xWL xcl m_Room_read [740, 43] = true := by decide +kernel
set_option maxRecDepth 100000 in
theorem k_Room_read : (t_Room_read.all fun c => c.2.all fun q => xok xWL xHL xcl xSL xNM xty0 xsf "PrePressRoom" xnG xG m_Room_read q.1 q.2) = true := by decide +kernel
theorem h_She_slotRead : xmok xWL xcl m_She_slotRead [744, 51] = true := by decide +kernel
set_option maxRecDepth 100000 in
theorem k_She_slotRead : (t_She_slotRead.all fun c => c.2.all fun q => xok xWL xHL xcl xSL xNM xty0 xsf "PrePressRoom" xnG xG m_She_slotRead q.1 q.2) = true := by decide +kernel
theorem h_She_sideRead : xmok xWL xcl m_She_sideRead [748, 51] = true := by decide +kernel
set_option maxRecDepth 100000 in
theorem k_She_sideRead : (t_She_sideRead.all fun c => c.2.all fun q => xok xWL xHL xcl xSL xNM xty0 xsf "PrePressRoom" xnG xG m_She_sideRead q.1 q.2) = true := by decide +kernel
theorem h_Mod_init : xmok xWL xcl m_Mod_init [754, 53] = true := by decide +kernel
set_option maxRecDepth 100000 in
theorem k_Mod_init : (t_Mod_init.all fun c => c.2.all fun q => xok xWL xHL xcl xSL xNM xty0 xsf "PrePressRoom" xnG xG m_Mod_init q.1 q.2) = true := by decide +kernel
theorem h_Mod_thrown : xmok xWL xcl m_Mod_thrown [854, 53] = true := by decide +kernel
set_option maxRecDepth 100000 in
theorem k_Mod_thrown : (t_Mod_thrown.all fun c => c.2.all fun q => xok xWL xHL xcl xSL xNM xty0 xsf "PrePressRoom" xnG xG m_Mod_thrown q.1 q.2) = true := by decide +kernel
theorem h_Mod_colour : xmok xWL xcl m_Mod_colour [858, 53] = true := by decide +kernel
set_option maxRecDepth 100000 in
theorem k_Mod_colour : (t_Mod_colour.all fun c => c.2.all fun q => xok xWL xHL xcl xSL xNM xty0 xsf "PrePressRoom" xnG xG m_Mod_colour q.1 q.2) = true := by decide +kernel
theorem h_Mod_within : xmok xWL xcl m_Mod_within [861, 53] = true := by decide +kernel
set_option maxRecDepth 100000 in
theorem k_Mod_within : (t_Mod_within.all fun c => c.2.all fun q => xok xWL xHL xcl xSL xNM xty0 xsf "PrePressRoom" xnG xG m_Mod_within q.1 q.2) = true := by decide +kernel
theorem h_Mod_fail : xmok xWL xcl m_Mod_fail [865, 53] = true := by decide +kernel
set_option maxRecDepth 100000 in
theorem k_Mod_fail : (t_Mod_fail.all fun c => c.2.all fun q => xok xWL xHL xcl xSL xNM xty0 xsf "PrePressRoom" xnG xG m_Mod_fail q.1 q.2) = true := by decide +kernel
theorem h_Mod_box : xmok xWL xcl m_Mod_box [869, 53] = true := by decide +kernel
set_option maxRecDepth 100000 in
theorem k_Mod_box : (t_Mod_box.all fun c => c.2.all fun q => xok xWL xHL xcl xSL xNM xty0 xsf "PrePressRoom" xnG xG m_Mod_box q.1 q.2) = true := by decide +kernel
theorem h_Mod_isPage : xmok xWL xcl m_Mod_isPage [872, 53] = true := by decide +kernel
set_option maxRecDepth 100000 in
theorem k_Mod_isPage : (t_Mod_isPage.all fun c => c.2.all fun q => xok xWL xHL xcl xSL xNM xty0 xsf "PrePressRoom" xnG xG m_Mod_isPage q.1 q.2) = true := by decide +kernel
theorem h_Mod_at : xmok xWL xcl m_Mod_at [875, 53] = true := by decide +kernel
set_option maxRecDepth 100000 in
theorem k_Mod_at : (t_Mod_at.all fun c => c.2.all fun q => xok xWL xHL xcl xSL xNM xty0 xsf "PrePressRoom" xnG xG m_Mod_at q.1 q.2) = true := by decide +kernel
theorem h_Mod_cell : xmok xWL xcl m_Mod_cell [879, 53] = true := by decide +kernel
set_option maxRecDepth 100000 in
theorem k_Mod_cell : (t_Mod_cell.all fun c => c.2.all fun q => xok xWL xHL xcl xSL xNM xty0 xsf "PrePressRoom" xnG xG m_Mod_cell q.1 q.2) = true := by decide +kernel
theorem h_Mod_isCell : xmok xWL xcl m_Mod_isCell [882, 53] = true := by decide +kernel
set_option maxRecDepth 100000 in
theorem k_Mod_isCell : (t_Mod_isCell.all fun c => c.2.all fun q => xok xWL xHL xcl xSL xNM xty0 xsf "PrePressRoom" xnG xG m_Mod_isCell q.1 q.2) = true := by decide +kernel
theorem h_Mod_grey : xmok xWL xcl m_Mod_grey [886, 53] = true := by decide +kernel
set_option maxRecDepth 100000 in
theorem k_Mod_grey : (t_Mod_grey.all fun c => c.2.all fun q => xok xWL xHL xcl xSL xNM xty0 xsf "PrePressRoom" xnG xG m_Mod_grey q.1 q.2) = true := by decide +kernel
end
section
theorem h_Mod_separate : xmok xWL xcl m_Mod_separate [890, 53] = true := by decide +kernel
set_option maxRecDepth 100000 in
theorem k_Mod_separate : (t_Mod_separate.all fun c => c.2.all fun q => xok xWL xHL xcl xSL xNM xty0 xsf "PrePressRoom" xnG xG m_Mod_separate q.1 q.2) = true := by decide +kernel
theorem h_Mod_separateColour : xmok xWL xcl m_Mod_separateColour [894, 53] = true := by decide +kernel
set_option maxRecDepth 100000 in
theorem k_Mod_separateColour : (t_Mod_separateColour.all fun c => c.2.all fun q => xok xWL xHL xcl xSL xNM xty0 xsf "PrePressRoom" xnG xG m_Mod_separateColour q.1 q.2) = true := by decide +kernel
theorem h_Mod_plate : xmok xWL xcl m_Mod_plate [898, 53] = true := by decide +kernel
set_option maxRecDepth 100000 in
theorem k_Mod_plate : (t_Mod_plate.all fun c => c.2.all fun q => xok xWL xHL xcl xSL xNM xty0 xsf "PrePressRoom" xnG xG m_Mod_plate q.1 q.2) = true := by decide +kernel
theorem h_Mod_has : xmok xWL xcl m_Mod_has [902, 53] = true := by decide +kernel
set_option maxRecDepth 100000 in
theorem k_Mod_has : (t_Mod_has.all fun c => c.2.all fun q => xok xWL xHL xcl xSL xNM xty0 xsf "PrePressRoom" xnG xG m_Mod_has q.1 q.2) = true := by decide +kernel
theorem h_Mod_amountAt : xmok xWL xcl m_Mod_amountAt [906, 53] = true := by decide +kernel
set_option maxRecDepth 100000 in
theorem k_Mod_amountAt : (t_Mod_amountAt.all fun c => c.2.all fun q => xok xWL xHL xcl xSL xNM xty0 xsf "PrePressRoom" xnG xG m_Mod_amountAt q.1 q.2) = true := by decide +kernel
theorem h_Mod_amount : xmok xWL xcl m_Mod_amount [910, 53] = true := by decide +kernel
set_option maxRecDepth 100000 in
theorem k_Mod_amount : (t_Mod_amount.all fun c => c.2.all fun q => xok xWL xHL xcl xSL xNM xty0 xsf "PrePressRoom" xnG xG m_Mod_amount q.1 q.2) = true := by decide +kernel
theorem h_Mod_trap : xmok xWL xcl m_Mod_trap [914, 53] = true := by decide +kernel
set_option maxRecDepth 100000 in
theorem k_Mod_trap : (t_Mod_trap.all fun c => c.2.all fun q => xok xWL xHL xcl xSL xNM xty0 xsf "PrePressRoom" xnG xG m_Mod_trap q.1 q.2) = true := by decide +kernel
theorem h_Mod_spreading : xmok xWL xcl m_Mod_spreading [918, 53] = true := by decide +kernel
set_option maxRecDepth 100000 in
theorem k_Mod_spreading : (t_Mod_spreading.all fun c => c.2.all fun q => xok xWL xHL xcl xSL xNM xty0 xsf "PrePressRoom" xnG xG m_Mod_spreading q.1 q.2) = true := by decide +kernel
theorem h_Mod_isLighter : xmok xWL xcl m_Mod_isLighter [922, 53] = true := by decide +kernel
set_option maxRecDepth 100000 in
theorem k_Mod_isLighter : (t_Mod_isLighter.all fun c => c.2.all fun q => xok xWL xHL xcl xSL xNM xty0 xsf "PrePressRoom" xnG xG m_Mod_isLighter q.1 q.2) = true := by decide +kernel
theorem h_Mod_weight : xmok xWL xcl m_Mod_weight [926, 53] = true := by decide +kernel
set_option maxRecDepth 100000 in
theorem k_Mod_weight : (t_Mod_weight.all fun c => c.2.all fun q => xok xWL xHL xcl xSL xNM xty0 xsf "PrePressRoom" xnG xG m_Mod_weight q.1 q.2) = true := by decide +kernel
theorem h_Mod_isShy : xmok xWL xcl m_Mod_isShy [930, 53] = true := by decide +kernel
set_option maxRecDepth 100000 in
theorem k_Mod_isShy : (t_Mod_isShy.all fun c => c.2.all fun q => xok xWL xHL xcl xSL xNM xty0 xsf "PrePressRoom" xnG xG m_Mod_isShy q.1 q.2) = true := by decide +kernel
theorem h_Mod_trapped : xmok xWL xcl m_Mod_trapped [934, 53] = true := by decide +kernel
set_option maxRecDepth 100000 in
theorem k_Mod_trapped : (t_Mod_trapped.all fun c => c.2.all fun q => xok xWL xHL xcl xSL xNM xty0 xsf "PrePressRoom" xnG xG m_Mod_trapped q.1 q.2) = true := by decide +kernel
theorem h_Mod_screen : xmok xWL xcl m_Mod_screen [938, 53] = true := by decide +kernel
set_option maxRecDepth 100000 in
theorem k_Mod_screen : (t_Mod_screen.all fun c => c.2.all fun q => xok xWL xHL xcl xSL xNM xty0 xsf "PrePressRoom" xnG xG m_Mod_screen q.1 q.2) = true := by decide +kernel
theorem h_Mod_rank : xmok xWL xcl m_Mod_rank [942, 53] = true := by decide +kernel
set_option maxRecDepth 100000 in
theorem k_Mod_rank : (t_Mod_rank.all fun c => c.2.all fun q => xok xWL xHL xcl xSL xNM xty0 xsf "PrePressRoom" xnG xG m_Mod_rank q.1 q.2) = true := by decide +kernel
theorem h_Mod_rankOf : xmok xWL xcl m_Mod_rankOf [946, 53] = true := by decide +kernel
set_option maxRecDepth 100000 in
theorem k_Mod_rankOf : (t_Mod_rankOf.all fun c => c.2.all fun q => xok xWL xHL xcl xSL xNM xty0 xsf "PrePressRoom" xnG xG m_Mod_rankOf q.1 q.2) = true := by decide +kernel
theorem h_Mod_know : xmok xWL xcl m_Mod_know [950, 53] = true := by decide +kernel
set_option maxRecDepth 100000 in
theorem k_Mod_know : (t_Mod_know.all fun c => c.2.all fun q => xok xWL xHL xcl xSL xNM xty0 xsf "PrePressRoom" xnG xG m_Mod_know q.1 q.2) = true := by decide +kernel
theorem h_Mod_findHeart : xmok xWL xcl m_Mod_findHeart [954, 53] = true := by decide +kernel
set_option maxRecDepth 100000 in
theorem k_Mod_findHeart : (t_Mod_findHeart.all fun c => c.2.all fun q => xok xWL xHL xcl xSL xNM xty0 xsf "PrePressRoom" xnG xG m_Mod_findHeart q.1 q.2) = true := by decide +kernel
theorem h_Mod_sizeOf : xmok xWL xcl m_Mod_sizeOf [958, 53] = true := by decide +kernel
set_option maxRecDepth 100000 in
theorem k_Mod_sizeOf : (t_Mod_sizeOf.all fun c => c.2.all fun q => xok xWL xHL xcl xSL xNM xty0 xsf "PrePressRoom" xnG xG m_Mod_sizeOf q.1 q.2) = true := by decide +kernel
theorem h_Mod_rest : xmok xWL xcl m_Mod_rest [961, 53] = true := by decide +kernel
set_option maxRecDepth 100000 in
theorem k_Mod_rest : (t_Mod_rest.all fun c => c.2.all fun q => xok xWL xHL xcl xSL xNM xty0 xsf "PrePressRoom" xnG xG m_Mod_rest q.1 q.2) = true := by decide +kernel
theorem h_Mod_isBefore : xmok xWL xcl m_Mod_isBefore [965, 53] = true := by decide +kernel
set_option maxRecDepth 100000 in
theorem k_Mod_isBefore : (t_Mod_isBefore.all fun c => c.2.all fun q => xok xWL xHL xcl xSL xNM xty0 xsf "PrePressRoom" xnG xG m_Mod_isBefore q.1 q.2) = true := by decide +kernel
theorem h_Mod_formOf : xmok xWL xcl m_Mod_formOf [969, 53] = true := by decide +kernel
set_option maxRecDepth 100000 in
theorem k_Mod_formOf : (t_Mod_formOf.all fun c => c.2.all fun q => xok xWL xHL xcl xSL xNM xty0 xsf "PrePressRoom" xnG xG m_Mod_formOf q.1 q.2) = true := by decide +kernel
theorem h_Mod_heartNumber : xmok xWL xcl m_Mod_heartNumber [973, 53] = true := by decide +kernel
set_option maxRecDepth 100000 in
theorem k_Mod_heartNumber : (t_Mod_heartNumber.all fun c => c.2.all fun q => xok xWL xHL xcl xSL xNM xty0 xsf "PrePressRoom" xnG xG m_Mod_heartNumber q.1 q.2) = true := by decide +kernel
theorem h_Mod_addHeart : xmok xWL xcl m_Mod_addHeart [977, 53] = true := by decide +kernel
set_option maxRecDepth 100000 in
theorem k_Mod_addHeart : (t_Mod_addHeart.all fun c => c.2.all fun q => xok xWL xHL xcl xSL xNM xty0 xsf "PrePressRoom" xnG xG m_Mod_addHeart q.1 q.2) = true := by decide +kernel
theorem h_Mod_dot : xmok xWL xcl m_Mod_dot [981, 53] = true := by decide +kernel
set_option maxRecDepth 100000 in
theorem k_Mod_dot : (t_Mod_dot.all fun c => c.2.all fun q => xok xWL xHL xcl xSL xNM xty0 xsf "PrePressRoom" xnG xG m_Mod_dot q.1 q.2) = true := by decide +kernel
theorem h_Mod_isDot : xmok xWL xcl m_Mod_isDot [985, 53] = true := by decide +kernel
set_option maxRecDepth 100000 in
theorem k_Mod_isDot : (t_Mod_isDot.all fun c => c.2.all fun q => xok xWL xHL xcl xSL xNM xty0 xsf "PrePressRoom" xnG xG m_Mod_isDot q.1 q.2) = true := by decide +kernel
theorem h_Mod_share : xmok xWL xcl m_Mod_share [989, 53] = true := by decide +kernel
set_option maxRecDepth 100000 in
theorem k_Mod_share : (t_Mod_share.all fun c => c.2.all fun q => xok xWL xHL xcl xSL xNM xty0 xsf "PrePressRoom" xnG xG m_Mod_share q.1 q.2) = true := by decide +kernel
theorem h_Mod_proof : xmok xWL xcl m_Mod_proof [993, 53] = true := by decide +kernel
set_option maxRecDepth 100000 in
theorem k_Mod_proof : (t_Mod_proof.all fun c => c.2.all fun q => xok xWL xHL xcl xSL xNM xty0 xsf "PrePressRoom" xnG xG m_Mod_proof q.1 q.2) = true := by decide +kernel
theorem h_Mod_impose : xmok xWL xcl m_Mod_impose [997, 53] = true := by decide +kernel
set_option maxRecDepth 100000 in
theorem k_Mod_impose : (t_Mod_impose.all fun c => c.2.all fun q => xok xWL xHL xcl xSL xNM xty0 xsf "PrePressRoom" xnG xG m_Mod_impose q.1 q.2) = true := by decide +kernel
end
section
theorem h_Mod_fold : xmok xWL xcl m_Mod_fold [1001, 53] = true := by decide +kernel
set_option maxRecDepth 100000 in
theorem k_Mod_fold : (t_Mod_fold.all fun c => c.2.all fun q => xok xWL xHL xcl xSL xNM xty0 xsf "PrePressRoom" xnG xG m_Mod_fold q.1 q.2) = true := by decide +kernel
theorem h_Mod_slot : xmok xWL xcl m_Mod_slot [1005, 53] = true := by decide +kernel
set_option maxRecDepth 100000 in
theorem k_Mod_slot : (t_Mod_slot.all fun c => c.2.all fun q => xok xWL xHL xcl xSL xNM xty0 xsf "PrePressRoom" xnG xG m_Mod_slot q.1 q.2) = true := by decide +kernel
theorem h_Mod_read : xmok xWL xcl m_Mod_read [1009, 53] = true := by decide +kernel
set_option maxRecDepth 100000 in
theorem k_Mod_read : (t_Mod_read.all fun c => c.2.all fun q => xok xWL xHL xcl xSL xNM xty0 xsf "PrePressRoom" xnG xG m_Mod_read q.1 q.2) = true := by decide +kernel
end
section
theorem h_Law_law : xmok xWL xcl m_Law_law [0, 42] = true := by
  unfold xmok
  have e : xin xWL 0 (.code (xnm m_Law_law) (xby m_Law_law) (xml m_Law_law) (xrt m_Law_law)) = true := decide_eq_true rfl
  have e1 : xin xWL 42 (.initialized (xnm m_Law_law).cls) = true := by decide +kernel
  have e2 : (plainFor (xnm m_Law_law) && decide ((xnm m_Law_law).cls ≠ "java/lang/invoke/MethodHandle") && decide ((xnm m_Law_law).cls ≠ "java/lang/invoke/VarHandle")) = true := by decide +kernel
  show ((plainFor (xnm m_Law_law) && decide ((xnm m_Law_law).cls ≠ "java/lang/invoke/MethodHandle") && decide ((xnm m_Law_law).cls ≠ "java/lang/invoke/VarHandle")) && xin xWL 0 (.code (xnm m_Law_law) (xby m_Law_law) (xml m_Law_law) (xrt m_Law_law)) && xin xWL 42 (.initialized (xnm m_Law_law).cls) && true) = true
  rw [e, e1, e2]
  rfl
set_option maxRecDepth 100000 in
theorem k_Law_law0 : ((t_Law_law.getD 0 (0, [])).2.all fun q => xok xWL xHL xcl xSL xNM xty0 xsf "PrePressRoom" xnG xG m_Law_law q.1 q.2) = true := by decide +kernel
set_option maxRecDepth 100000 in
theorem k_Law_law1 : ((t_Law_law.getD 1 (0, [])).2.all fun q => xok xWL xHL xcl xSL xNM xty0 xsf "PrePressRoom" xnG xG m_Law_law q.1 q.2) = true := by decide +kernel
set_option maxRecDepth 100000 in
theorem k_Law_law2 : ((t_Law_law.getD 2 (0, [])).2.all fun q => xok xWL xHL xcl xSL xNM xty0 xsf "PrePressRoom" xnG xG m_Law_law q.1 q.2) = true := by decide +kernel
set_option maxRecDepth 100000 in
theorem k_Law_law3 : ((t_Law_law.getD 3 (0, [])).2.all fun q => xok xWL xHL xcl xSL xNM xty0 xsf "PrePressRoom" xnG xG m_Law_law q.1 q.2) = true := by decide +kernel
set_option maxRecDepth 100000 in
theorem k_Law_law4 : ((t_Law_law.getD 4 (0, [])).2.all fun q => xok xWL xHL xcl xSL xNM xty0 xsf "PrePressRoom" xnG xG m_Law_law q.1 q.2) = true := by decide +kernel
set_option maxRecDepth 100000 in
theorem k_Law_law5 : ((t_Law_law.getD 5 (0, [])).2.all fun q => xok xWL xHL xcl xSL xNM xty0 xsf "PrePressRoom" xnG xG m_Law_law q.1 q.2) = true := by decide +kernel
set_option maxRecDepth 100000 in
theorem k_Law_law6 : ((t_Law_law.getD 6 (0, [])).2.all fun q => xok xWL xHL xcl xSL xNM xty0 xsf "PrePressRoom" xnG xG m_Law_law q.1 q.2) = true := by decide +kernel
set_option maxRecDepth 100000 in
theorem k_Law_law7 : ((t_Law_law.getD 7 (0, [])).2.all fun q => xok xWL xHL xcl xSL xNM xty0 xsf "PrePressRoom" xnG xG m_Law_law q.1 q.2) = true := by decide +kernel
set_option maxRecDepth 100000 in
theorem k_Law_law8 : ((t_Law_law.getD 8 (0, [])).2.all fun q => xok xWL xHL xcl xSL xNM xty0 xsf "PrePressRoom" xnG xG m_Law_law q.1 q.2) = true := by decide +kernel
set_option maxRecDepth 100000 in
theorem k_Law_law9 : ((t_Law_law.getD 9 (0, [])).2.all fun q => xok xWL xHL xcl xSL xNM xty0 xsf "PrePressRoom" xnG xG m_Law_law q.1 q.2) = true := by decide +kernel
set_option maxRecDepth 100000 in
theorem k_Law_law10 : ((t_Law_law.getD 10 (0, [])).2.all fun q => xok xWL xHL xcl xSL xNM xty0 xsf "PrePressRoom" xnG xG m_Law_law q.1 q.2) = true := by decide +kernel
set_option maxRecDepth 100000 in
theorem k_Law_law11 : ((t_Law_law.getD 11 (0, [])).2.all fun q => xok xWL xHL xcl xSL xNM xty0 xsf "PrePressRoom" xnG xG m_Law_law q.1 q.2) = true := by decide +kernel
set_option maxRecDepth 100000 in
theorem k_Law_law12 : ((t_Law_law.getD 12 (0, [])).2.all fun q => xok xWL xHL xcl xSL xNM xty0 xsf "PrePressRoom" xnG xG m_Law_law q.1 q.2) = true := by decide +kernel
set_option maxRecDepth 100000 in
theorem k_Law_law13 : ((t_Law_law.getD 13 (0, [])).2.all fun q => xok xWL xHL xcl xSL xNM xty0 xsf "PrePressRoom" xnG xG m_Law_law q.1 q.2) = true := by decide +kernel
set_option maxRecDepth 100000 in
theorem k_Law_law14 : ((t_Law_law.getD 14 (0, [])).2.all fun q => xok xWL xHL xcl xSL xNM xty0 xsf "PrePressRoom" xnG xG m_Law_law q.1 q.2) = true := by decide +kernel
set_option maxRecDepth 100000 in
theorem k_Law_law15 : ((t_Law_law.getD 15 (0, [])).2.all fun q => xok xWL xHL xcl xSL xNM xty0 xsf "PrePressRoom" xnG xG m_Law_law q.1 q.2) = true := by decide +kernel
set_option maxRecDepth 100000 in
theorem k_Law_law16 : ((t_Law_law.getD 16 (0, [])).2.all fun q => xok xWL xHL xcl xSL xNM xty0 xsf "PrePressRoom" xnG xG m_Law_law q.1 q.2) = true := by decide +kernel
set_option maxRecDepth 100000 in
theorem k_Law_law17 : ((t_Law_law.getD 17 (0, [])).2.all fun q => xok xWL xHL xcl xSL xNM xty0 xsf "PrePressRoom" xnG xG m_Law_law q.1 q.2) = true := by decide +kernel
set_option maxRecDepth 100000 in
theorem k_Law_law18 : ((t_Law_law.getD 18 (0, [])).2.all fun q => xok xWL xHL xcl xSL xNM xty0 xsf "PrePressRoom" xnG xG m_Law_law q.1 q.2) = true := by decide +kernel
set_option maxRecDepth 100000 in
theorem k_Law_law19 : ((t_Law_law.getD 19 (0, [])).2.all fun q => xok xWL xHL xcl xSL xNM xty0 xsf "PrePressRoom" xnG xG m_Law_law q.1 q.2) = true := by decide +kernel
end
section
set_option maxRecDepth 100000 in
theorem k_Law_law20 : ((t_Law_law.getD 20 (0, [])).2.all fun q => xok xWL xHL xcl xSL xNM xty0 xsf "PrePressRoom" xnG xG m_Law_law q.1 q.2) = true := by decide +kernel
set_option maxRecDepth 100000 in
theorem k_Law_law21 : ((t_Law_law.getD 21 (0, [])).2.all fun q => xok xWL xHL xcl xSL xNM xty0 xsf "PrePressRoom" xnG xG m_Law_law q.1 q.2) = true := by decide +kernel
set_option maxRecDepth 100000 in
theorem k_Law_law22 : ((t_Law_law.getD 22 (0, [])).2.all fun q => xok xWL xHL xcl xSL xNM xty0 xsf "PrePressRoom" xnG xG m_Law_law q.1 q.2) = true := by decide +kernel
set_option maxRecDepth 100000 in
theorem k_Law_law23 : ((t_Law_law.getD 23 (0, [])).2.all fun q => xok xWL xHL xcl xSL xNM xty0 xsf "PrePressRoom" xnG xG m_Law_law q.1 q.2) = true := by decide +kernel
set_option maxRecDepth 100000 in
theorem k_Law_law24 : ((t_Law_law.getD 24 (0, [])).2.all fun q => xok xWL xHL xcl xSL xNM xty0 xsf "PrePressRoom" xnG xG m_Law_law q.1 q.2) = true := by decide +kernel
set_option maxRecDepth 100000 in
theorem k_Law_law25 : ((t_Law_law.getD 25 (0, [])).2.all fun q => xok xWL xHL xcl xSL xNM xty0 xsf "PrePressRoom" xnG xG m_Law_law q.1 q.2) = true := by decide +kernel
set_option maxRecDepth 100000 in
theorem k_Law_law26 : ((t_Law_law.getD 26 (0, [])).2.all fun q => xok xWL xHL xcl xSL xNM xty0 xsf "PrePressRoom" xnG xG m_Law_law q.1 q.2) = true := by decide +kernel
set_option maxRecDepth 100000 in
theorem k_Law_law27 : ((t_Law_law.getD 27 (0, [])).2.all fun q => xok xWL xHL xcl xSL xNM xty0 xsf "PrePressRoom" xnG xG m_Law_law q.1 q.2) = true := by decide +kernel
set_option maxRecDepth 100000 in
theorem k_Law_law28 : ((t_Law_law.getD 28 (0, [])).2.all fun q => xok xWL xHL xcl xSL xNM xty0 xsf "PrePressRoom" xnG xG m_Law_law q.1 q.2) = true := by decide +kernel
set_option maxRecDepth 100000 in
theorem k_Law_law29 : ((t_Law_law.getD 29 (0, [])).2.all fun q => xok xWL xHL xcl xSL xNM xty0 xsf "PrePressRoom" xnG xG m_Law_law q.1 q.2) = true := by decide +kernel
set_option maxRecDepth 100000 in
theorem k_Law_law30 : ((t_Law_law.getD 30 (0, [])).2.all fun q => xok xWL xHL xcl xSL xNM xty0 xsf "PrePressRoom" xnG xG m_Law_law q.1 q.2) = true := by decide +kernel
set_option maxRecDepth 100000 in
theorem k_Law_law31 : ((t_Law_law.getD 31 (0, [])).2.all fun q => xok xWL xHL xcl xSL xNM xty0 xsf "PrePressRoom" xnG xG m_Law_law q.1 q.2) = true := by decide +kernel
set_option maxRecDepth 100000 in
theorem k_Law_law32 : ((t_Law_law.getD 32 (0, [])).2.all fun q => xok xWL xHL xcl xSL xNM xty0 xsf "PrePressRoom" xnG xG m_Law_law q.1 q.2) = true := by decide +kernel
set_option maxRecDepth 100000 in
theorem k_Law_law33 : ((t_Law_law.getD 33 (0, [])).2.all fun q => xok xWL xHL xcl xSL xNM xty0 xsf "PrePressRoom" xnG xG m_Law_law q.1 q.2) = true := by decide +kernel
set_option maxRecDepth 100000 in
theorem k_Law_law34 : ((t_Law_law.getD 34 (0, [])).2.all fun q => xok xWL xHL xcl xSL xNM xty0 xsf "PrePressRoom" xnG xG m_Law_law q.1 q.2) = true := by decide +kernel
set_option maxRecDepth 100000 in
theorem k_Law_law35 : ((t_Law_law.getD 35 (0, [])).2.all fun q => xok xWL xHL xcl xSL xNM xty0 xsf "PrePressRoom" xnG xG m_Law_law q.1 q.2) = true := by decide +kernel
set_option maxRecDepth 100000 in
theorem k_Law_law36 : ((t_Law_law.getD 36 (0, [])).2.all fun q => xok xWL xHL xcl xSL xNM xty0 xsf "PrePressRoom" xnG xG m_Law_law q.1 q.2) = true := by decide +kernel
set_option maxRecDepth 100000 in
theorem k_Law_law37 : ((t_Law_law.getD 37 (0, [])).2.all fun q => xok xWL xHL xcl xSL xNM xty0 xsf "PrePressRoom" xnG xG m_Law_law q.1 q.2) = true := by decide +kernel
set_option maxRecDepth 100000 in
theorem k_Law_law38 : ((t_Law_law.getD 38 (0, [])).2.all fun q => xok xWL xHL xcl xSL xNM xty0 xsf "PrePressRoom" xnG xG m_Law_law q.1 q.2) = true := by decide +kernel
set_option maxRecDepth 100000 in
theorem k_Law_law39 : ((t_Law_law.getD 39 (0, [])).2.all fun q => xok xWL xHL xcl xSL xNM xty0 xsf "PrePressRoom" xnG xG m_Law_law q.1 q.2) = true := by decide +kernel
end
section
set_option maxRecDepth 100000 in
theorem k_Law_law40 : ((t_Law_law.getD 40 (0, [])).2.all fun q => xok xWL xHL xcl xSL xNM xty0 xsf "PrePressRoom" xnG xG m_Law_law q.1 q.2) = true := by decide +kernel
set_option maxRecDepth 100000 in
theorem k_Law_law41 : ((t_Law_law.getD 41 (0, [])).2.all fun q => xok xWL xHL xcl xSL xNM xty0 xsf "PrePressRoom" xnG xG m_Law_law q.1 q.2) = true := by decide +kernel
set_option maxRecDepth 100000 in
theorem k_Law_law42 : ((t_Law_law.getD 42 (0, [])).2.all fun q => xok xWL xHL xcl xSL xNM xty0 xsf "PrePressRoom" xnG xG m_Law_law q.1 q.2) = true := by decide +kernel
set_option maxRecDepth 100000 in
theorem k_Law_law43 : ((t_Law_law.getD 43 (0, [])).2.all fun q => xok xWL xHL xcl xSL xNM xty0 xsf "PrePressRoom" xnG xG m_Law_law q.1 q.2) = true := by decide +kernel
set_option maxRecDepth 100000 in
theorem k_Law_law44 : ((t_Law_law.getD 44 (0, [])).2.all fun q => xok xWL xHL xcl xSL xNM xty0 xsf "PrePressRoom" xnG xG m_Law_law q.1 q.2) = true := by decide +kernel
set_option maxRecDepth 100000 in
theorem k_Law_law45 : ((t_Law_law.getD 45 (0, [])).2.all fun q => xok xWL xHL xcl xSL xNM xty0 xsf "PrePressRoom" xnG xG m_Law_law q.1 q.2) = true := by decide +kernel
set_option maxRecDepth 100000 in
theorem k_Law_law46 : ((t_Law_law.getD 46 (0, [])).2.all fun q => xok xWL xHL xcl xSL xNM xty0 xsf "PrePressRoom" xnG xG m_Law_law q.1 q.2) = true := by decide +kernel
set_option maxRecDepth 100000 in
theorem k_Law_law47 : ((t_Law_law.getD 47 (0, [])).2.all fun q => xok xWL xHL xcl xSL xNM xty0 xsf "PrePressRoom" xnG xG m_Law_law q.1 q.2) = true := by decide +kernel
set_option maxRecDepth 100000 in
theorem k_Law_law48 : ((t_Law_law.getD 48 (0, [])).2.all fun q => xok xWL xHL xcl xSL xNM xty0 xsf "PrePressRoom" xnG xG m_Law_law q.1 q.2) = true := by decide +kernel
set_option maxRecDepth 100000 in
theorem k_Law_law49 : ((t_Law_law.getD 49 (0, [])).2.all fun q => xok xWL xHL xcl xSL xNM xty0 xsf "PrePressRoom" xnG xG m_Law_law q.1 q.2) = true := by decide +kernel
set_option maxRecDepth 100000 in
theorem k_Law_law50 : ((t_Law_law.getD 50 (0, [])).2.all fun q => xok xWL xHL xcl xSL xNM xty0 xsf "PrePressRoom" xnG xG m_Law_law q.1 q.2) = true := by decide +kernel
set_option maxRecDepth 100000 in
theorem k_Law_law51 : ((t_Law_law.getD 51 (0, [])).2.all fun q => xok xWL xHL xcl xSL xNM xty0 xsf "PrePressRoom" xnG xG m_Law_law q.1 q.2) = true := by decide +kernel
set_option maxRecDepth 100000 in
theorem k_Law_law52 : ((t_Law_law.getD 52 (0, [])).2.all fun q => xok xWL xHL xcl xSL xNM xty0 xsf "PrePressRoom" xnG xG m_Law_law q.1 q.2) = true := by decide +kernel
set_option maxRecDepth 100000 in
theorem k_Law_law53 : ((t_Law_law.getD 53 (0, [])).2.all fun q => xok xWL xHL xcl xSL xNM xty0 xsf "PrePressRoom" xnG xG m_Law_law q.1 q.2) = true := by decide +kernel
set_option maxRecDepth 100000 in
theorem k_Law_law54 : ((t_Law_law.getD 54 (0, [])).2.all fun q => xok xWL xHL xcl xSL xNM xty0 xsf "PrePressRoom" xnG xG m_Law_law q.1 q.2) = true := by decide +kernel
set_option maxRecDepth 100000 in
theorem k_Law_law55 : ((t_Law_law.getD 55 (0, [])).2.all fun q => xok xWL xHL xcl xSL xNM xty0 xsf "PrePressRoom" xnG xG m_Law_law q.1 q.2) = true := by decide +kernel
set_option maxRecDepth 100000 in
theorem k_Law_law56 : ((t_Law_law.getD 56 (0, [])).2.all fun q => xok xWL xHL xcl xSL xNM xty0 xsf "PrePressRoom" xnG xG m_Law_law q.1 q.2) = true := by decide +kernel
set_option maxRecDepth 100000 in
theorem k_Law_law57 : ((t_Law_law.getD 57 (0, [])).2.all fun q => xok xWL xHL xcl xSL xNM xty0 xsf "PrePressRoom" xnG xG m_Law_law q.1 q.2) = true := by decide +kernel
set_option maxRecDepth 100000 in
theorem k_Law_law58 : ((t_Law_law.getD 58 (0, [])).2.all fun q => xok xWL xHL xcl xSL xNM xty0 xsf "PrePressRoom" xnG xG m_Law_law q.1 q.2) = true := by decide +kernel
theorem xall_cons {α : Type} {f : α → Bool} {c : α} {t : List α} (h : f c = true) (h1 : t.all f = true) : (c :: t).all f = true := by rw [List.all_cons, h, h1]; rfl
theorem k_Law_law : (t_Law_law.all fun c => c.2.all fun q => xok xWL xHL xcl xSL xNM xty0 xsf "PrePressRoom" xnG xG m_Law_law q.1 q.2) = true :=
  xall_cons k_Law_law0 ( xall_cons k_Law_law1 ( xall_cons k_Law_law2 ( xall_cons k_Law_law3 ( xall_cons k_Law_law4 ( xall_cons k_Law_law5 ( xall_cons k_Law_law6 ( xall_cons k_Law_law7 ( xall_cons k_Law_law8 ( xall_cons k_Law_law9 ( xall_cons k_Law_law10 ( xall_cons k_Law_law11 ( xall_cons k_Law_law12 ( xall_cons k_Law_law13 ( xall_cons k_Law_law14 ( xall_cons k_Law_law15 ( xall_cons k_Law_law16 ( xall_cons k_Law_law17 ( xall_cons k_Law_law18 ( xall_cons k_Law_law19 ( xall_cons k_Law_law20 ( xall_cons k_Law_law21 ( xall_cons k_Law_law22 ( xall_cons k_Law_law23 ( xall_cons k_Law_law24 ( xall_cons k_Law_law25 ( xall_cons k_Law_law26 ( xall_cons k_Law_law27 ( xall_cons k_Law_law28 ( xall_cons k_Law_law29 ( xall_cons k_Law_law30 ( xall_cons k_Law_law31 ( xall_cons k_Law_law32 ( xall_cons k_Law_law33 ( xall_cons k_Law_law34 ( xall_cons k_Law_law35 ( xall_cons k_Law_law36 ( xall_cons k_Law_law37 ( xall_cons k_Law_law38 ( xall_cons k_Law_law39 ( xall_cons k_Law_law40 ( xall_cons k_Law_law41 ( xall_cons k_Law_law42 ( xall_cons k_Law_law43 ( xall_cons k_Law_law44 ( xall_cons k_Law_law45 ( xall_cons k_Law_law46 ( xall_cons k_Law_law47 ( xall_cons k_Law_law48 ( xall_cons k_Law_law49 ( xall_cons k_Law_law50 ( xall_cons k_Law_law51 ( xall_cons k_Law_law52 ( xall_cons k_Law_law53 ( xall_cons k_Law_law54 ( xall_cons k_Law_law55 ( xall_cons k_Law_law56 ( xall_cons k_Law_law57 ( xall_cons k_Law_law58 (rfl)))))))))))))))))))))))))))))))))))))))))))))))))))))))))))
end
section
/-! the small machine's pictures against the heap, its slots against the frame -/
def xty (cl : List vw_C) : Nat → FieldType
  | 0 => .int
  | 1 => .long
  | 2 => .boolean
  | 3 => .int
  | 4 => .array .int
  | c + 5 => .object ((cl[c]?.map (fun r => r.1)).getD "")
def xvl (ct : (Nat → Int32) ⊕ (Nat → Int64) ⊕ (Nat → UInt32) ⊕ (Nat → UInt64) ⊕ (Nat → Option Nat)) (j : Nat) : Value := match ct with
  | .inl f => .int (f j)
  | .inr (.inl f) => .long (f j)
  | .inr (.inr (.inl f)) => .float (f j)
  | .inr (.inr (.inr (.inl f))) => .double (f j)
  | .inr (.inr (.inr (.inr f))) => va_rf (f j)
def xat (D : va_G) (cl : List vw_C) (U : State) (q : Nat) (e : xE) (H : Heap) : Prop := match e with
  | .inl a => (a.1 = 3 ∧ ∃ cell : Cell, H[q]? = some cell ∧ U.isArrayOf cell .int ∧ cell.vm ≠ .unknown ∧ (a.2.1 ≤ cell.slots.size ∧ cell.slots.size.toInt32 = Int32.ofNat a.2.1) ∧ ∀ j : Nat, j < a.2.1 → cell.slots[j]? = some (xvl a.2.2 j)) ∨
      (a.1 ≠ 3 ∧ ∃ cA : ClassId, H[q]? = some (arrV cA a.2.1 (xvl a.2.2)) ∧ ArrOfT U cA (xty cl a.1) ∧ va_RA U cA (xty cl a.1))
  | .inr o => ∃ r : vw_C, cl[o.1]? = some r ∧ t_OB q (D.1 o.1) r.2.2 (D.2 o.1) H (vp_V o.2)
def xro (e : xE) : Prop := match e with
  | .inl a => a.1 = 3
  | .inr _ => False
def xHR (D : va_G) (cl : List vw_C) (H0 : Heap) (U : State) (h : xH) (H : Heap) : Prop :=
  H.size = h.2.1 ∧ H0.size ≤ H.size ∧ (∀ q : Nat, q < H0.size → H[q]? = H0[q]?) ∧ ∀ (q : Nat) (e : xE), h.1 q = some e → xat D cl U q e H ∧ (xro e ∨ H0.size ≤ q)
theorem xnth_eq : ∀ (fs : List Value) (b : Nat), xnth fs b = fs[b]?
  | [], _ => by simp [xnth]
  | x :: _, 0 => by simp [xnth]
  | x :: t, b + 1 => by simp [xnth, xnth_eq t b]
theorem xupd_eq : ∀ (fs : List Value) (b : Nat) (v : Value), xupd fs b v = fs.set b v
  | [], _, _ => by simp [xupd]
  | x :: _, 0, _ => by simp [xupd]
  | x :: t, b + 1, v => by simp [xupd, xupd_eq t b v]
theorem xwt_eq : ∀ st : List Value, xwt st = (st.map fun v => v.category).sum
  | [] => rfl
  | v :: t => by simp [xwt, xwt_eq t]
section XA
variable {D : va_G} {cl : List vw_C} {H0 H H1 : Heap} {U U1 : State} {h : xH} {q : Nat} {e : xE}
theorem xat.kept (k : xat D cl U q e H) (hq : H1[q]? = H[q]?) : xat D cl U q e H1 := by
  cases e with
  | inl x =>
    rcases k with ⟨h0, cell, h1, h2⟩ | ⟨h0, cA, h1, h2⟩
    · exact Or.inl ⟨h0, cell, hq.trans h1, h2⟩
    · exact Or.inr ⟨h0, cA, hq.trans h1, h2⟩
  | inr o =>
    obtain ⟨r, h1, h2⟩ := k
    exact ⟨r, h1, h2.kept hq⟩
theorem xat.moved (hvm : U.vm.Alike U1.vm) (k : xat D cl U q e H) : xat D cl U1 q e H := by
  cases e with
  | inl x =>
    rcases k with ⟨h0, cell, h1, h2, h3⟩ | ⟨h0, cA, h1, h2, h3⟩
    · exact Or.inl ⟨h0, cell, h1, State.isArrayOf_alike hvm h2, h3⟩
    · exact Or.inr ⟨h0, cA, h1, arrOfT_moved hvm h2, h3.moved hvm⟩
  | inr o => exact k
theorem xat.arr {t n : Nat} {ct : (Nat → Int32) ⊕ (Nat → Int64) ⊕ (Nat → UInt32) ⊕ (Nat → UInt64) ⊕ (Nat → Option Nat)} (k : xat D cl U q (.inl (t, n, ct)) H) :
    ∃ cell : Cell, H[q]? = some cell ∧ U.isArrayOf cell (xty cl t) ∧ cell.vm ≠ .unknown ∧ (n ≤ cell.slots.size ∧ cell.slots.size.toInt32 = Int32.ofNat n) ∧ ∀ j : Nat, j < n → cell.slots[j]? = some (xvl ct j) := by
  rcases k with ⟨h0, cell, h1, h2, h3, h4, h5⟩ | ⟨h0, cA, h1, h2, h3⟩
  · have h0 : t = 3 := h0
    subst h0
    exact ⟨cell, h1, h2, h3, h4, h5⟩
  · exact ⟨_, h1, h2 n (xvl ct), (fun z => by cases z), ⟨Nat.le_of_eq (arrV_size _ _ _).symm, by rw [arrV_size] <;> rfl⟩, fun j hj => arrV_read _ _ hj⟩
theorem xat.lt (k : xat D cl U q e H) : q < H.size := by
  cases e with
  | inl x =>
    obtain ⟨cell, h1, -⟩ := xat.arr (t := x.1) (n := x.2.1) (ct := x.2.2) k
    exact (Array.getElem?_eq_some_iff.mp h1).1
  | inr o =>
    obtain ⟨r, -, cell, h2, -⟩ := k
    exact (Array.getElem?_eq_some_iff.mp h2).1
theorem xHR.moved (hvm : U.vm.Alike U1.vm) (k : xHR D cl H0 U h H) : xHR D cl H0 U1 h H :=
  ⟨k.1, k.2.1, k.2.2.1, fun q e he => ⟨(k.2.2.2 q e he).1.moved hvm, (k.2.2.2 q e he).2⟩⟩
theorem xHR.lt (k : xHR D cl H0 U h H) (he : h.1 q = some e) : q < H.size := (k.2.2.2 q e he).1.lt
theorem xHR.old (k : xHR D cl H0 U h H) (he : h.1 q = some e) (hr : ¬ xro e) : H0.size ≤ q := (k.2.2.2 q e he).2.resolve_left hr
theorem xHR.set {e1 : xE} (k : xHR D cl H0 U h H) (he : h.1 q = some e) (hr : ¬ xro e) (ha : xat D cl U q e1 H1) (z : H1.size = H.size) (oq : ∀ x : Nat, x ≠ q → H1[x]? = H[x]?) : xHR D cl H0 U (xset h q e1) H1 := by
  have hold := k.old he hr
  refine ⟨z.trans k.1, by rw [z]; exact k.2.1, fun x hx => ?_, fun x ex hx => ?_⟩
  · rw [oq x (by omega)]
    exact k.2.2.1 x hx
  · by_cases hxq : x = q
    · subst hxq
      have : some e1 = some ex := by simpa [xset] using hx
      cases this
      exact ⟨ha, Or.inr hold⟩
    · have hx' : h.1 x = some ex := by simpa [xset, hxq] using hx
      obtain ⟨k1, k2⟩ := k.2.2.2 x ex hx'
      exact ⟨k1.kept (oq x hxq), k2⟩
theorem xHR.new {e1 : xE} {n : Nat} (k : xHR D cl H0 U h H) (ha : xat D cl U H.size e1 H1) (z : H1.size = H.size + 1) (oq : ∀ x : Nat, x < H.size → H1[x]? = H[x]?) : xHR D cl H0 U (xnew h e1 n) H1 := by
  have hs := k.1
  have h0 := k.2.1
  refine ⟨by rw [z, hs]; rfl, by omega, fun x hx => ?_, fun x ex hx => ?_⟩
  · rw [oq x (by omega)]
    exact k.2.2.1 x hx
  · by_cases hxq : x = h.2.1
    · have : some e1 = some ex := by simpa [xnew, hxq] using hx
      cases this
      rw [hxq, ← hs]
      exact ⟨ha, Or.inr h0⟩
    · have hx' : h.1 x = some ex := by simpa [xnew, hxq] using hx
      obtain ⟨k1, k2⟩ := k.2.2.2 x ex hx'
      exact ⟨k1.kept (oq x k1.lt), k2⟩
end XA
/-! the slots -/
def xl (ls : Array Slot) (nL : Nat) (l : List (Option Value)) : Prop := ls.size = nL ∧ l.length = nL ∧ lv_wf ls ∧ ∀ (i : Nat) (v : Value), xget l i = some v → ls[i]? = some (.val v)
def xal (l : List (Option Value)) : List (Nat × Value) := (List.range l.length).filterMap (fun i => (xget l i).map (fun v => (i, v)))
theorem xget_lt : ∀ (l : List (Option Value)) (i : Nat) (v : Value), xget l i = some v → i < l.length
  | [], _, _, h => by simp [xget] at h
  | _ :: _, 0, _, _ => by simp
  | _ :: t, i + 1, v, h => by
    have := xget_lt t i v (by simpa [xget] using h)
    simp only [List.length_cons]
    omega
theorem xal_mem {l : List (Option Value)} {q : Nat × Value} : q ∈ xal l ↔ xget l q.1 = some q.2 := by
  obtain ⟨i, v⟩ := q
  simp only [xal, List.mem_filterMap, List.mem_range, Option.map_eq_some_iff, Prod.mk.injEq]
  constructor
  · rintro ⟨j, -, w, hw, rfl, rfl⟩
    exact hw
  · intro h
    exact ⟨i, xget_lt l i v h, v, h, rfl, rfl⟩
theorem xl.has {ls : Array Slot} {nL : Nat} {l : List (Option Value)} (h : xl ls nL l) : lv_has ls nL (xal l) :=
  ⟨h.1, h.2.2.1, fun q hq => h.2.2.2 q.1 q.2 (xal_mem.mp hq)⟩
theorem xl.at {ls : Array Slot} {nL : Nat} {l : List (Option Value)} (h : xl ls nL l) {i : Nat} {v : Value} (hv : xget l i = some v) : ls[i]? = some (.val v) := h.2.2.2 i v hv
theorem xkeep_spec {x : Option Value} {w : Value} (h : xkeep x = some w) : x = some w ∧ ¬ w.category = 2 := by
  unfold xkeep at h
  split at h
  · cases h; exact ⟨rfl, by simp [Value.category]⟩
  · cases h; exact ⟨rfl, by simp [Value.category]⟩
  · cases h; exact ⟨rfl, by simp [Value.category]⟩
  · cases h
theorem xst1_spec (v : Value) : ∀ (i : Nat) (l l' : List (Option Value)), xst1 v i l = some l' →
    i < l.length ∧ l'.length = l.length ∧ ∀ (j : Nat) (w : Value), xget l' j = some w → (j = i ∧ w = v) ∨ (j ≠ i ∧ xget l j = some w ∧ ¬ (j + 1 = i ∧ w.category = 2))
  | 0, [], _, h => by simp [xst1] at h
  | 0, _ :: t, l', h => by
    simp only [xst1, Option.some.injEq] at h
    subst h
    refine ⟨by simp, by simp, fun j w hj => ?_⟩
    cases j with
    | zero => left; simp [xget] at hj; exact ⟨rfl, hj.symm⟩
    | succ j => right; exact ⟨by omega, by simpa [xget] using hj, by omega⟩
  | 1, [], _, h => by simp [xst1] at h
  | 1, [_], _, h => by simp [xst1] at h
  | 1, x :: y :: t, l', h => by
    simp only [xst1, Option.some.injEq] at h
    subst h
    refine ⟨by simp, by simp, fun j w hj => ?_⟩
    cases j with
    | zero =>
      right
      obtain ⟨k1, k2⟩ := xkeep_spec (by simpa [xget] using hj)
      exact ⟨by omega, by simpa [xget] using k1, fun z => k2 z.2⟩
    | succ j =>
      cases j with
      | zero => left; simp [xget] at hj; exact ⟨rfl, hj.symm⟩
      | succ j => right; exact ⟨by omega, by simpa [xget] using hj, by omega⟩
  | i + 2, [], _, h => by simp [xst1] at h
  | i + 2, x :: t, l', h => by
    simp only [xst1] at h
    split at h
    · next t' ht =>
      simp only [Option.some.injEq] at h
      subst h
      obtain ⟨a1, a2, a3⟩ := xst1_spec v (i + 1) t t' ht
      refine ⟨by simp only [List.length_cons]; omega, by simp only [List.length_cons]; omega, fun j w hj => ?_⟩
      cases j with
      | zero => right; exact ⟨by omega, by simpa [xget] using hj, by omega⟩
      | succ j =>
        rcases a3 j w (by simpa [xget] using hj) with ⟨b1, b2⟩ | ⟨b1, b2, b3⟩
        · left; exact ⟨by omega, b2⟩
        · right; exact ⟨by omega, by simpa [xget] using b2, fun z => b3 ⟨by omega, z.2⟩⟩
    · cases h
theorem xst2_spec (v : Value) : ∀ (i : Nat) (l l' : List (Option Value)), xst2 v i l = some l' →
    i + 1 < l.length ∧ l'.length = l.length ∧ ∀ (j : Nat) (w : Value), xget l' j = some w → (j = i ∧ w = v) ∨ (j ≠ i ∧ j ≠ i + 1 ∧ xget l j = some w ∧ ¬ (j + 1 = i ∧ w.category = 2))
  | 0, [], _, h => by simp [xst2] at h
  | 0, [_], _, h => by simp [xst2] at h
  | 0, _ :: _ :: t, l', h => by
    simp only [xst2, Option.some.injEq] at h
    subst h
    refine ⟨by simp, by simp, fun j w hj => ?_⟩
    cases j with
    | zero => left; simp [xget] at hj; exact ⟨rfl, hj.symm⟩
    | succ j =>
      cases j with
      | zero => simp [xget] at hj
      | succ j => right; exact ⟨by omega, by omega, by simpa [xget] using hj, by omega⟩
  | 1, [], _, h => by simp [xst2] at h
  | 1, [_], _, h => by simp [xst2] at h
  | 1, [_, _], _, h => by simp [xst2] at h
  | 1, x :: y :: z :: t, l', h => by
    simp only [xst2, Option.some.injEq] at h
    subst h
    refine ⟨by simp, by simp, fun j w hj => ?_⟩
    cases j with
    | zero =>
      right
      obtain ⟨k1, k2⟩ := xkeep_spec (by simpa [xget] using hj)
      exact ⟨by omega, by omega, by simpa [xget] using k1, fun z => k2 z.2⟩
    | succ j =>
      cases j with
      | zero => left; simp [xget] at hj; exact ⟨rfl, hj.symm⟩
      | succ j =>
        cases j with
        | zero => simp [xget] at hj
        | succ j => right; exact ⟨by omega, by omega, by simpa [xget] using hj, by omega⟩
  | i + 2, [], _, h => by simp [xst2] at h
  | i + 2, x :: t, l', h => by
    simp only [xst2] at h
    split at h
    · next t' ht =>
      simp only [Option.some.injEq] at h
      subst h
      obtain ⟨a1, a2, a3⟩ := xst2_spec v (i + 1) t t' ht
      refine ⟨by simp only [List.length_cons]; omega, by simp only [List.length_cons]; omega, fun j w hj => ?_⟩
      cases j with
      | zero => right; exact ⟨by omega, by omega, by simpa [xget] using hj, by omega⟩
      | succ j =>
        rcases a3 j w (by simpa [xget] using hj) with ⟨b1, b2⟩ | ⟨b1, b2, b3, b4⟩
        · left; exact ⟨by omega, b2⟩
        · right; exact ⟨by omega, by omega, by simpa [xget] using b3, fun z => b4 ⟨by omega, z.2⟩⟩
    · cases h
theorem xl.st1 {ls ls' : Array Slot} {nL i : Nat} {l l' : List (Option Value)} {v : Value} (h : xl ls nL l) (hs : xst1 v i l = some l') (hh : lv_has ls' nL ((i, v) :: (xal l).filter (fun q => !(q.1 == i) && !(q.1 + 1 == i && q.2.category == 2)))) : xl ls' nL l' := by
  obtain ⟨a1, a2, a3⟩ := xst1_spec v i l l' hs
  refine ⟨hh.1, a2.trans h.2.1, hh.2.1, fun j w hj => ?_⟩
  rcases a3 j w hj with ⟨rfl, rfl⟩ | ⟨b1, b2, b3⟩
  · exact hh.2.2 _ List.mem_cons_self
  · refine hh.2.2 (j, w) (List.mem_cons_of_mem _ (List.mem_filter.mpr ⟨xal_mem.mpr b2, ?_⟩))
    simp only [Bool.and_eq_true, Bool.not_eq_true', beq_eq_false_iff_ne, ne_eq, Bool.and_eq_false_iff]
    refine ⟨b1, ?_⟩
    by_cases z : j + 1 = i
    · exact Or.inr (fun y => b3 ⟨z, y⟩)
    · exact Or.inl z
theorem xl.st2 {ls ls' : Array Slot} {nL i : Nat} {l l' : List (Option Value)} {v : Value} (h : xl ls nL l) (hs : xst2 v i l = some l') (hh : lv_has ls' nL ((i, v) :: (xal l).filter (fun q => !(q.1 == i) && (!(q.1 == i + 1) && !(q.1 + 1 == i && q.2.category == 2))))) : xl ls' nL l' := by
  obtain ⟨a1, a2, a3⟩ := xst2_spec v i l l' hs
  refine ⟨hh.1, a2.trans h.2.1, hh.2.1, fun j w hj => ?_⟩
  rcases a3 j w hj with ⟨rfl, rfl⟩ | ⟨b1, b0, b2, b3⟩
  · exact hh.2.2 _ List.mem_cons_self
  · refine hh.2.2 (j, w) (List.mem_cons_of_mem _ (List.mem_filter.mpr ⟨xal_mem.mpr b2, ?_⟩))
    simp only [Bool.and_eq_true, Bool.not_eq_true', beq_eq_false_iff_ne, ne_eq, Bool.and_eq_false_iff]
    refine ⟨b1, b0, ?_⟩
    by_cases z : j + 1 = i
    · exact Or.inr (fun y => b3 ⟨z, y⟩)
    · exact Or.inl z
theorem xpad_len : ∀ (n : Nat) (b : Bool) (vs : List Value), (xpad n b vs).length = n
  | 0, _, _ => rfl
  | n + 1, true, vs => by simp [xpad, xpad_len n]
  | n + 1, false, [] => by simp [xpad, xpad_len n]
  | n + 1, false, v :: vs => by simp [xpad, xpad_len n]
theorem xpad_spec : ∀ (n : Nat) (b : Bool) (vs : List Value) (k i : Nat) (v : Value), xget (xpad n b vs) i = some v → (k + i, v) ∈ lv_args (if b = true then k + 1 else k) vs
  | 0, _, _, _, _, _, h => by simp [xpad, xget] at h
  | n + 1, true, vs, k, i, v, h => by
    cases i with
    | zero => simp [xpad, xget] at h
    | succ i =>
      have := xpad_spec n false vs (k + 1) i v (by simpa [xpad, xget] using h)
      simp only [Bool.false_eq_true, if_false] at this
      simp only [if_true]
      rw [show k + (i + 1) = k + 1 + i by omega]
      exact this
  | n + 1, false, [], k, i, v, h => by
    cases i with
    | zero => simp [xpad, xget] at h
    | succ i =>
      have := xpad_spec n false [] (k + 1) i v (by simpa [xpad, xget] using h)
      simp [lv_args] at this
  | n + 1, false, w :: vs, k, i, v, h => by
    simp only [Bool.false_eq_true, if_false, lv_args]
    cases i with
    | zero =>
      simp only [xpad, xget, Option.some.injEq] at h
      subst h
      exact List.mem_cons_self
    | succ i =>
      have := xpad_spec n (w.category == 2) vs (k + 1) i v (by simpa [xpad, xget] using h)
      refine List.mem_cons_of_mem _ ?_
      rw [show k + (i + 1) = k + 1 + i by omega]
      simpa using this
theorem lg_sl_len : ∀ vs : List Value, (lg_sl vs).length = xwt vs
  | [] => rfl
  | v :: vs => by
    have ih := lg_sl_len vs
    rcases lv_cat v with hc | hc
    · simp only [lg_sl, List.flatMap_cons, hc] at ih ⊢
      simp [xwt, hc, ih]; omega
    · simp only [lg_sl, List.flatMap_cons, hc] at ih ⊢
      simp [xwt, hc, ih]; omega
theorem xl_entry (vs : List Value) {n : Nat} (hw : xwt vs ≤ n) : xl ((lg_sl vs ++ List.replicate (n - (lg_sl vs).length) Slot.unset).toArray) n (xpad n false vs) := by
  have hl := lv_entry vs (n := n) (by rw [lg_sl_len]; exact hw)
  refine ⟨hl.1, xpad_len n false vs, hl.2.1, fun i v hv => ?_⟩
  have := xpad_spec n false vs 0 i v hv
  simp only [Bool.false_eq_true, if_false, Nat.zero_add] at this
  exact hl.2.2 (i, v) this
theorem xpop_spec : ∀ (n : Nat) (acc st as rest : List Value), xpop n acc st = some (as, rest) → ∃ ys : List Value, ys.length = n ∧ as = ys ++ acc ∧ st = ys.reverse ++ rest
  | 0, acc, st, as, rest, h => by
    simp only [xpop, Option.some.injEq, Prod.mk.injEq] at h
    exact ⟨[], rfl, by simp [h.1], by simp [h.2]⟩
  | n + 1, acc, [], as, rest, h => by simp [xpop] at h
  | n + 1, acc, v :: st, as, rest, h => by
    simp only [xpop] at h
    obtain ⟨ys, h1, h2, h3⟩ := xpop_spec n (v :: acc) st as rest h
    exact ⟨ys ++ [v], by simp [h1], by simp [h2], by simp [h3]⟩
theorem xpop_nil {n : Nat} {st as rest : List Value} (h : xpop n [] st = some (as, rest)) : as.length = n ∧ st = as.reverse ++ rest := by
  obtain ⟨ys, h1, h2, h3⟩ := xpop_spec n [] st as rest h
  simp only [List.append_nil] at h2
  subst h2
  exact ⟨h1, h3⟩
end
section
/-! the machine's steps at the heap, in the small machine's pictures -/
theorem xro3 {t : Nat} {a : vp_A} (h : t ≠ 3) : ¬ xro (.inl (t, a)) := h
section XW
variable {p : Program} {l : Launch} {e : Env} {R : Room} {s : State} {m : MethodId} {args : Array Value} {below : List Frame} {meth : Method} {c : Code} {H : Heap} {locs : List Loc} {cells slots : Nat} {Q : State → Prop}
variable {cc : ByteArray} {pc : Nat} {ls : Array Slot} {rest : List Value} {D : va_G} {cl : List vw_C} {H0 : Heap} {h : xH}
theorem xsz {U : State} (hR : xHR D cl H0 U h H) {o t n : Nat} {ct : (Nat → Int32) ⊕ (Nat → Int64) ⊕ (Nat → UInt32) ⊕ (Nat → UInt64) ⊕ (Nat → Option Nat)} (ho : h.1 o = some (.inl (t, n, ct))) :
    ∃ cell : Cell, H[o]? = some cell ∧ U.isArrayOf cell (xty cl t) ∧ cell.vm ≠ .unknown ∧ (n ≤ cell.slots.size ∧ cell.slots.size.toInt32 = Int32.ofNat n) ∧ ∀ j : Nat, j < n → cell.slots[j]? = some (xvl ct j) := (hR.2.2.2 o _ ho).1.arr
theorem xlocs {x : Nat} {i : Nat} (hl : ∀ q ∈ locs, H0.size ≤ q.base) (hx : H0.size ≤ x) : ∀ q ∈ locs ++ [(⟨x, i⟩ : Loc)], H0.size ≤ q.base := by
  intro q hq
  rcases List.mem_append.mp hq with h1 | h1
  · exact hl q h1
  · rw [List.mem_singleton.mp h1]; exact hx
theorem xw_iald (hx : p.tables.exec = Jvm.exec) (hb : c.code = cc) (hR : xHR D cl H0 s h H) {o t n : Nat} {g : Nat → Int32} {j : Int32} (ho : h.1 o = some (.inl (t, n, .inl g))) (ht : t = 0 ∨ t = 3) (hj : ¬ (j < 0 ∨ n ≤ j.toNatClampNeg)) (hd : decode cc pc = .ok (.iaload, 1))
    (kk : W p l e R s m args below meth c H locs cells slots Q (F0 m (pc + 1) ls (.int (g j.toNatClampNeg) :: rest))) : W p l e R s m args below meth c H locs cells slots Q (F0 m pc ls (.int j :: .ref o :: rest)) := by
  obtain ⟨cell, h1, h2, h3, h4, h5⟩ := xsz hR ho
  have hty : xty cl t = .int := by rcases ht with rfl | rfl <;> rfl
  rw [hty] at h2
  exact W.iald (v := .int (g j.toNatClampNeg)) hx hb h1 h2 h3 (fun z => hj (z.imp id (fun y => Nat.le_trans h4.1 y))) (h5 _ (by omega)) rfl rfl hd kk
theorem xw_zald (hx : p.tables.exec = Jvm.exec) (hb : c.code = cc) (hR : xHR D cl H0 s h H) {o n : Nat} {g : Nat → Int32} {j : Int32} (ho : h.1 o = some (.inl (2, n, .inl g))) (hj : ¬ (j < 0 ∨ n ≤ j.toNatClampNeg)) (hd : decode cc pc = .ok (.baload, 1))
    (kk : W p l e R s m args below meth c H locs cells slots Q (F0 m (pc + 1) ls (.int (g j.toNatClampNeg) :: rest))) : W p l e R s m args below meth c H locs cells slots Q (F0 m pc ls (.int j :: .ref o :: rest)) := by
  obtain ⟨cell, h1, h2, h3, h4, h5⟩ := xsz hR ho
  exact W.zald (v := .int (g j.toNatClampNeg)) hx hb h1 h2 h3 (fun z => hj (z.imp id (fun y => Nat.le_trans h4.1 y))) (h5 _ (by omega)) rfl rfl hd kk
theorem xw_lald (hx : p.tables.exec = Jvm.exec) (hb : c.code = cc) (hR : xHR D cl H0 s h H) {o n : Nat} {g : Nat → Int64} {j : Int32} (ho : h.1 o = some (.inl (1, n, .inr (.inl g)))) (hj : ¬ (j < 0 ∨ n ≤ j.toNatClampNeg)) (hd : decode cc pc = .ok (.laload, 1))
    (kk : W p l e R s m args below meth c H locs cells slots Q (F0 m (pc + 1) ls (.long (g j.toNatClampNeg) :: rest))) : W p l e R s m args below meth c H locs cells slots Q (F0 m pc ls (.int j :: .ref o :: rest)) := by
  obtain ⟨cell, h1, h2, h3, h4, h5⟩ := xsz hR ho
  exact W.lald (v := .long (g j.toNatClampNeg)) hx hb h1 h2 h3 (fun z => hj (z.imp id (fun y => Nat.le_trans h4.1 y))) (h5 _ (by omega)) rfl rfl hd kk
theorem xty_ref {t : Nat} (ht : 4 ≤ t) : (xty cl t).isReference = true := by
  obtain ⟨k, rfl⟩ : ∃ k, t = 4 + k := ⟨t - 4, by omega⟩
  cases k with
  | zero => rfl
  | succ k => rw [show 4 + (k + 1) = k + 5 by omega]; rfl
theorem xw_aald (hx : p.tables.exec = Jvm.exec) (hb : c.code = cc) (hR : xHR D cl H0 s h H) {o t n w : Nat} {g : Nat → Option Nat} {j : Int32} (ho : h.1 o = some (.inl (t, n, .inr (.inr (.inr (.inr g)))))) (ht : 4 ≤ t) (hj : ¬ (j < 0 ∨ n ≤ j.toNatClampNeg)) (hw : g j.toNatClampNeg = some w) (hd : decode cc pc = .ok (.aaload, 1))
    (kk : W p l e R s m args below meth c H locs cells slots Q (F0 m (pc + 1) ls (.ref w :: rest))) : W p l e R s m args below meth c H locs cells slots Q (F0 m pc ls (.int j :: .ref o :: rest)) := by
  obtain ⟨cell, h1, h2, h3, h4, h5⟩ := xsz hR ho
  refine W.aald (v := .ref w) hx hb h1 h2 (xty_ref ht) h3 (fun z => hj (z.imp id (fun y => Nat.le_trans h4.1 y))) ?_ rfl rfl hd kk
  rw [h5 _ (by omega)]
  show some (va_rf (g j.toNatClampNeg)) = _
  rw [hw]
  rfl
theorem xw_alen (hx : p.tables.exec = Jvm.exec) (hb : c.code = cc) (hR : xHR D cl H0 s h H) {o t n : Nat} {ct : (Nat → Int32) ⊕ (Nat → Int64) ⊕ (Nat → UInt32) ⊕ (Nat → UInt64) ⊕ (Nat → Option Nat)} (ho : h.1 o = some (.inl (t, n, ct))) (hd : decode cc pc = .ok (.arraylength, 1))
    (kk : W p l e R s m args below meth c H locs cells slots Q (F0 m (pc + 1) ls (.int (Int32.ofNat n) :: rest))) : W p l e R s m args below meth c H locs cells slots Q (F0 m pc ls (.ref o :: rest)) := by
  obtain ⟨cell, h1, h2, h3, h4, h5⟩ := xsz hR ho
  exact W.alen (n := Int32.ofNat n) hx hb h1 h2 h4.2 rfl rfl hd kk
theorem xst_arr {U : State} {H1 : Heap} {t n o : Nat} {ct ct1 : (Nat → Int32) ⊕ (Nat → Int64) ⊕ (Nat → UInt32) ⊕ (Nat → UInt64) ⊕ (Nat → Option Nat)} {k : Nat} {x : Value} (hR : xHR D cl H0 U h H) (ho : h.1 o = some (.inl (t, n, ct))) (ht : t ≠ 3)
    (hc : ∀ cA : ClassId, H[o]? = some (arrV cA n (xvl ct)) → H1[o]? = some ((arrV cA n (xvl ct)).setSlot k x)) (hv : updV (xvl ct) k x = xvl ct1) (z : H1.size = H.size) (oq : ∀ q : Nat, q ≠ o → H1[q]? = H[q]?) : xHR D cl H0 U (xset h o (xA t n ct1)) H1 := by
  refine hR.set ho (fun z => ht z) ?_ z oq
  rcases (hR.2.2.2 o _ ho).1 with ⟨h0, -⟩ | ⟨-, cA, h1, h2, h3⟩
  · exact absurd h0 ht
  · refine Or.inr ⟨ht, cA, ?_, h2, h3⟩
    have := hc cA h1
    rw [arrV_store, hv] at this
    exact this
theorem xw_iast (hx : p.tables.exec = Jvm.exec) (hb : c.code = cc) (hR : xHR D cl H0 s h H) (hl : ∀ q ∈ locs, H0.size ≤ q.base) {o n : Nat} {g : Nat → Int32} {j x : Int32} (ho : h.1 o = some (.inl (0, n, .inl g))) (hj : ¬ (j < 0 ∨ n ≤ j.toNatClampNeg)) (hd : decode cc pc = .ok (.iastore, 1))
    (kk : ∀ (H1 : Heap) (locs1 : List Loc), xHR D cl H0 s (xset h o (xA 0 n (xint (upd g j.toNatClampNeg x)))) H1 → (∀ q ∈ locs1, H0.size ≤ q.base) → W p l e R s m args below meth c H1 locs1 cells slots Q (F0 m (pc + 1) ls rest)) : W p l e R s m args below meth c H locs cells slots Q (F0 m pc ls (.int x :: .int j :: .ref o :: rest)) := by
  obtain ⟨cell, h1, h2, h3, h4, h5⟩ := xsz hR ho
  refine W.iast hx hb h1 h2 h3 (fun z => hj (z.imp id (fun y => Nat.le_trans h4.1 y))) rfl rfl hd fun H1 e1 z oq => ?_
  refine kk H1 _ (xst_arr (k := j.toNatClampNeg) (x := .int x) hR ho (by decide) (fun cA q => ?_) ?_ z oq) (xlocs hl (hR.old ho (xro3 (by decide))))
  · rw [e1]; rw [h1] at q; cases q; rfl
  · funext q
    by_cases hq : q = j.toNatClampNeg
    · subst hq; simp [updV, xvl, upd]
    · simp [updV, xvl, upd, hq]
theorem xw_zast (hx : p.tables.exec = Jvm.exec) (hb : c.code = cc) (hR : xHR D cl H0 s h H) (hl : ∀ q ∈ locs, H0.size ≤ q.base) {o n : Nat} {g : Nat → Int32} {j x : Int32} (ho : h.1 o = some (.inl (2, n, .inl g))) (hb2 : x = 0 ∨ x = 1) (hj : ¬ (j < 0 ∨ n ≤ j.toNatClampNeg)) (hd : decode cc pc = .ok (.bastore, 1))
    (kk : ∀ (H1 : Heap) (locs1 : List Loc), xHR D cl H0 s (xset h o (xA 2 n (xint (upd g j.toNatClampNeg x)))) H1 → (∀ q ∈ locs1, H0.size ≤ q.base) → W p l e R s m args below meth c H1 locs1 cells slots Q (F0 m (pc + 1) ls rest)) : W p l e R s m args below meth c H locs cells slots Q (F0 m pc ls (.int x :: .int j :: .ref o :: rest)) := by
  obtain ⟨cell, h1, h2, h3, h4, h5⟩ := xsz hR ho
  have hn : narrow .boolean (.int x) = .int x := by rcases hb2 with rfl | rfl <;> rfl
  refine W.zast hx hb h1 h2 h3 (fun z => hj (z.imp id (fun y => Nat.le_trans h4.1 y))) rfl rfl hd fun H1 e1 z oq => ?_
  refine kk H1 _ (xst_arr (k := j.toNatClampNeg) (x := .int x) hR ho (by decide) (fun cA q => ?_) ?_ z oq) (xlocs hl (hR.old ho (xro3 (by decide))))
  · rw [e1, hn]; rw [h1] at q; cases q; rfl
  · funext q
    by_cases hq : q = j.toNatClampNeg
    · subst hq; simp [updV, xvl, upd]
    · simp [updV, xvl, upd, hq]
theorem xw_last (hx : p.tables.exec = Jvm.exec) (hb : c.code = cc) (hR : xHR D cl H0 s h H) (hl : ∀ q ∈ locs, H0.size ≤ q.base) {o n : Nat} {g : Nat → Int64} {j : Int32} {x : Int64} (ho : h.1 o = some (.inl (1, n, .inr (.inl g)))) (hj : ¬ (j < 0 ∨ n ≤ j.toNatClampNeg)) (hd : decode cc pc = .ok (.lastore, 1))
    (kk : ∀ (H1 : Heap) (locs1 : List Loc), xHR D cl H0 s (xset h o (xA 1 n (xlng (vp_updL g j.toNatClampNeg x)))) H1 → (∀ q ∈ locs1, H0.size ≤ q.base) → W p l e R s m args below meth c H1 locs1 cells slots Q (F0 m (pc + 1) ls rest)) : W p l e R s m args below meth c H locs cells slots Q (F0 m pc ls (.long x :: .int j :: .ref o :: rest)) := by
  obtain ⟨cell, h1, h2, h3, h4, h5⟩ := xsz hR ho
  refine W.last hx hb h1 h2 h3 (fun z => hj (z.imp id (fun y => Nat.le_trans h4.1 y))) rfl rfl hd fun H1 e1 z oq => ?_
  refine kk H1 _ (xst_arr (k := j.toNatClampNeg) (x := .long x) hR ho (by decide) (fun cA q => ?_) ?_ z oq) (xlocs hl (hR.old ho (xro3 (by decide))))
  · rw [e1]; rw [h1] at q; cases q; rfl
  · funext q
    by_cases hq : q = j.toNatClampNeg
    · subst hq; simp [updV, xvl, vp_updL]
    · simp [updV, xvl, vp_updL, hq]
theorem xw_aast (hx : p.tables.exec = Jvm.exec) (hb : c.code = cc) (hK : va_K D cl [] s) (hR : xHR D cl H0 s h H) (hl : ∀ q ∈ locs, H0.size ≤ q.base) {o n w k : Nat} {fs : List Value} {g : Nat → Option Nat} {j : Int32} (ho : h.1 o = some (.inl (5 + k, n, .inr (.inr (.inr (.inr g)))))) (hw : h.1 w = some (.inr (k, fs))) (hj : ¬ (j < 0 ∨ n ≤ j.toNatClampNeg)) (hd : decode cc pc = .ok (.aastore, 1))
    (kk : ∀ (H1 : Heap) (locs1 : List Loc), xHR D cl H0 s (xset h o (xA (5 + k) n (xref (va_up g j.toNatClampNeg (some w))))) H1 → (∀ q ∈ locs1, H0.size ≤ q.base) → W p l e R s m args below meth c H1 locs1 cells slots Q (F0 m (pc + 1) ls rest)) : W p l e R s m args below meth c H locs cells slots Q (F0 m pc ls (.ref w :: .int j :: .ref o :: rest)) := by
  obtain ⟨r, hr, cellW, w1, w2, w3, -⟩ := (hR.2.2.2 w _ hw).1
  have hty : xty cl (5 + k) = .object r.1 := by
    rw [show 5 + k = k + 5 by omega]
    show FieldType.object ((cl[k]?.map (fun r => r.1)).getD "") = _
    rw [hr]; rfl
  obtain ⟨hcls, kC, hkC, hkind⟩ := (hK.1 k r hr).2
  rcases (hR.2.2.2 o _ ho).1 with ⟨h0, -⟩ | ⟨-, cA, h1, h2, h3⟩
  · have h0 : 5 + k = 3 := h0
    omega
  · have h1 : H[o]? = some (arrV cA n (xvl (xref g))) := h1
    have h3 : va_RA s cA (xty cl (5 + k)) := h3
    rw [hty] at h3
    obtain ⟨kA, comp, k1, k2, k3, -⟩ := h3
    have hcomp : comp = D.1 k := Option.some.inj (k3.symm.trans hcls)
    subst hcomp
    refine W.aast hx hb h1 (fun q z => by cases z) (fun z => by cases z) k1 k2 rfl hkC ⟨fun z => hj (Or.inl z), by rw [arrV_size]; omega⟩ w1 (fun q z => by rw [w3] at z; cases z) (by rw [w2]; exact hkC) (by rw [w2]; exact va_assign ⟨hcls, kC, hkC, hkind⟩) rfl rfl hd fun H1 e1 z oq => ?_
    refine kk H1 _ (xst_arr (k := j.toNatClampNeg) (x := .ref w) hR ho (by omega) (fun cA' q => ?_) ?_ z oq) (xlocs hl (hR.old ho (by show ¬ (5 + k = 3); omega)))
    · rw [e1]
      have q : H[o]? = some (arrV cA' n (xvl (xref g))) := q
      rw [h1] at q
      exact congrArg (fun z : Cell => some (z.setSlot j.toNatClampNeg (.ref w))) (Option.some.inj q)
    · funext q
      by_cases hq : q = j.toNatClampNeg
      · subst hq; simp [updV, xvl, va_up, va_rf]
      · simp [updV, xvl, va_up, hq]
theorem xw_get {WL : List Cond} (hx : p.tables.exec = Jvm.exec) (hb : c.code = cc) (hts : ∀ w ∈ WL, w.before args s = true) (hK : va_K D cl [] s) (hR : xHR D cl H0 s h H) {own C : String} {T : u_T} {N ci idx o : Nat} {fs : List Value} (hin : ∀ w ∈ u_ws C T N, w ∈ WL) (hown : s.vm.findClass own = some m.cls)
    (ho : h.1 o = some (.inr (ci, fs))) (hc : cl[ci]? = some (C, T, N)) {k : Nat} (hk : k < N) (hlink : (Cond.fieldLink own idx (T k).1 (T k).2.1 (T k).2.2.1).before args s = true) {v : Value} (hv : fs[k]? = some v) (hd : decode cc pc = .ok (.getfield idx, 3))
    (kk : W p l e R s m args below meth c H locs cells slots Q (F0 m (pc + 3) ls (v :: rest))) : W p l e R s m args below meth c H locs cells slots Q (F0 m pc ls (.ref o :: rest)) := by
  have hP : va_P D cl [(o, .inr (ci, fs))] H := by
    intro k q hq
    have hz : k < 1 := (List.getElem?_eq_some_iff.mp hq).1
    rw [show k = 0 by omega] at hq
    cases hq
    exact (hR.2.2.2 o _ ho).1
  exact va_get hx hb hts hin hown hK hP 0 rfl hc k hk hlink (fun _ z => z) hv hd kk
theorem xw_put {WL : List Cond} (hx : p.tables.exec = Jvm.exec) (hb : c.code = cc) (hts : ∀ w ∈ WL, w.before args s = true) (hK : va_K D cl [] s) (hR : xHR D cl H0 s h H) (hl : ∀ q ∈ locs, H0.size ≤ q.base) {own C : String} {T : u_T} {N ci idx o : Nat} {fs : List Value} (hin : ∀ w ∈ u_ws C T N, w ∈ WL)
    (ty0 : Nat → FieldType) (hty : ∀ k, k < N → parseFieldDescriptor (T k).2.2.1 = some (ty0 k)) (hnm : ∀ a, a < N → ∀ b, b < N → a ≠ b → (T a).2.1 ≠ (T b).2.1) (hown : s.vm.findClass own = some m.cls)
    (ho : h.1 o = some (.inr (ci, fs))) (hc : cl[ci]? = some (C, T, N)) {k : Nat} (hk : k < N) (hlink : (Cond.fieldLink own idx (T k).1 (T k).2.1 (T k).2.2.1).before args s = true)
    (hfin : (T k).2.2.2 = false ∨ ((T k).2.2.2 = true ∧ meth.name = "<init>" ∧ (T k).1 = own)) {v : Value} (hn : narrow (ty0 k) v = v) (hfit : fits (ty0 k) v = true) (hlen : k < fs.length) (hd : decode cc pc = .ok (.putfield idx, 3))
    (kk : ∀ (H1 : Heap) (locs1 : List Loc), xHR D cl H0 s (xset h o (xO' ci (xupd fs k v))) H1 → (∀ q ∈ locs1, H0.size ≤ q.base) → W p l e R s m args below meth c H1 locs1 cells slots Q (F0 m (pc + 3) ls rest)) : W p l e R s m args below meth c H locs cells slots Q (F0 m pc ls (v :: .ref o :: rest)) := by
  have hap := va_apart (own := own) hts hin ty0 hty hnm hK hc
  obtain ⟨r, h1, cell, q1, q2, q3, q4⟩ := (hR.2.2.2 o _ ho).1
  have hr : r = (C, T, N) := Option.some.inj (h1.symm.trans hc)
  subst hr
  obtain ⟨hS, hfc, kC, hkC, hkind⟩ := hK.1 ci _ hc
  obtain ⟨cf, kf, fi, f, hi, hsl⟩ := hS k hk
  have hst := (u_facts hfc hkC (u_lays hts hin hk) hi).1
  have hlay := hts _ (hin _ (u_in_lay hk))
  have done : ∀ H' : Heap, H'[o]? = some (cell.setSlot f.slot v) → H'.size = H.size → (∀ q : Nat, q ≠ o → H'[q]? = H[q]?) → W p l e R s m args below meth c H' (locs ++ [⟨o, f.slot⟩]) cells slots Q (F0 m (pc + 3) ls rest) := by
    intro H' e1 e2 e3
    refine kk H' _ (hR.set ho (fun z => z) ?_ e2 e3) (xlocs hl (hR.old ho (fun z => z)))
    rw [hsl] at e1
    refine ⟨_, hc, t_OB.to (V := updV (vp_V fs) k v) ⟨_, e1, q2, q3, t_set q4 hap hk v⟩ (fun j _ => ?_)⟩
    show _ = vp_V (xupd fs k v) j
    rw [xupd_eq]
    exact vp_updV_set hlen v j
  unfold u_lay at hlay
  rcases hfin with hfin | ⟨hfin, hini, hdecl⟩
  · rw [if_neg (by rw [hfin]; decide)] at hlay
    have h6 := u_store hfc hkC hkind hlay hi (hty k hk) hn hfit
    exact W.putK hx hb (f := f) ⟨hown, hlink, ⟨_, _, _, hi⟩, hst⟩ (by rw [q2]; exact h6) q1 q3 (by rw [hsl]; exact k2_hasslot (q4 k hk)) rfl rfl hd done
  · rw [if_pos hfin] at hlay
    have hcf : m.cls = cf := by
      obtain ⟨_, _, c', _, _, _, -, -, hf', -, -, -, hown2, -⟩ := Cond.laysFinal_spec hlay
      have e1 : c' = cf := by have := hi.symm.trans hf'; simp at this; exact this.1.symm
      rw [hdecl] at hown2
      rw [← e1]; exact Option.some.inj (hown.symm.trans hown2)
    have h6 := u_fits hfc hkC hkind (Or.inr hlay) hi (hty k hk) hn hfit
    exact W.putFinK hx hb hown hlink hi hst hcf hini (by rw [q2]; exact h6) q1 q3 (by rw [hsl]; exact k2_hasslot (q4 k hk)) rfl rfl hd done
theorem xw_new {WL : List Cond} (hx : p.tables.exec = Jvm.exec) (hb : c.code = cc) (hts : ∀ w ∈ WL, w.before args s = true) (hK : va_K D cl [] s) (hR : xHR D cl H0 s h H) {own C : String} {T : u_T} {N n ci idx : Nat} {fs : List Value} (hin : ∀ w ∈ u_ws C T N, w ∈ WL)
    (ty0 : Nat → FieldType) (hty : ∀ k, k < N → parseFieldDescriptor (T k).2.2.1 = some (ty0 k)) (hown : s.vm.findClass own = some m.cls) (hc : cl[ci]? = some (C, T, N)) (hcl : (Cond.classLink own idx C).before args s = true) (hins : (Cond.instantiable C n).before args s = true) (hini : (Cond.initialized C).before args s = true)
    (hfs : ∀ j, j < N → defaultValue (ty0 j) = vp_V fs j) (hcells : cells + 1 ≤ R.cells) (hslots : slots + n ≤ R.slots) (hd : decode cc pc = .ok (.new idx, 3))
    (kk : ∀ H1 : Heap, xHR D cl H0 s (xnew h (xO' ci fs) n) H1 → W p l e R s m args below meth c H1 locs (cells + 1) (slots + n) Q (F0 m (pc + 3) ls (.ref h.2.1 :: rest))) : W p l e R s m args below meth c H locs cells slots Q (F0 m pc ls rest) := by
  have hKn := hK.1 ci _ hc
  refine W.newcK hx hb hown hcl hins hini rfl hd hcells hslots hKn.2.1 hR.1 fun H1 kC hkC e1 z1 o1 => ?_
  refine kk H1 (hR.new ?_ (by rw [z1, hR.1]) (fun q hq => o1 q (by rw [← hR.1]; exact hq)))
  rw [hR.1]
  exact ⟨_, hc, (u_born ty0 hts hin hKn hkC e1 hty).to hfs⟩
theorem xzero_val {t : Nat} {ty : FieldType} (h : (t = 0 ∧ ty = .int) ∨ (t = 1 ∧ ty = .long) ∨ (t = 2 ∧ ty = .boolean)) : (fun _ : Nat => defaultValue ty) = xvl (xzero t) := by
  rcases h with ⟨rfl, rfl⟩ | ⟨rfl, rfl⟩ | ⟨rfl, rfl⟩ <;> rfl
theorem xw_newa (hx : p.tables.exec = Jvm.exec) (hb : c.code = cc) (hR : xHR D cl H0 s h H) {atype : ArrayType} {t : Nat} (ht : (t = 0 ∧ newarray.typeOf atype = .int) ∨ (t = 1 ∧ newarray.typeOf atype = .long) ∨ (t = 2 ∧ newarray.typeOf atype = .boolean)) (harr : (Cond.arrayClass (newarray.typeOf atype)).before args s = true)
    {n : Int32} (hn : ¬ n < 0) (hbig : n.toNatClampNeg ≤ 1000000) (hcells : cells + 1 ≤ R.cells) (hslots : slots + n.toNatClampNeg ≤ R.slots) (hd : decode cc pc = .ok (.newarray atype, 2))
    (kk : ∀ H1 : Heap, xHR D cl H0 s (xnew h (xA t n.toNatClampNeg (xzero t)) n.toNatClampNeg) H1 → W p l e R s m args below meth c H1 locs (cells + 1) (slots + n.toNatClampNeg) Q (F0 m (pc + 2) ls (.ref h.2.1 :: rest))) : W p l e R s m args below meth c H locs cells slots Q (F0 m pc ls (.int n :: rest)) := by
  have hty : newarray.typeOf atype = xty cl t := by rcases ht with ⟨rfl, h2⟩ | ⟨rfl, h2⟩ | ⟨rfl, h2⟩ <;> exact h2
  have hbytes : n.toNatClampNeg * componentBytes (newarray.typeOf atype) ≤ 536870912 := by
    have : componentBytes (newarray.typeOf atype) ≤ 8 := by rcases ht with ⟨rfl, h2⟩ | ⟨rfl, h2⟩ | ⟨rfl, h2⟩ <;> (rw [h2]; decide)
    exact Nat.le_trans (Nat.mul_le_mul hbig this) (by decide)
  refine va_newaK hx hb harr rfl hd rfl hn rfl hbytes hcells hslots hR.1 fun H1 cA e1 z1 o1 hAr hNm => ?_
  refine kk H1 (hR.new ?_ (by rw [z1, hR.1]) (fun q hq => o1 q (by rw [← hR.1]; exact hq)))
  rw [hR.1]
  have ht3 : t ≠ 3 := by rcases ht with ⟨rfl, -⟩ | ⟨rfl, -⟩ | ⟨rfl, -⟩ <;> decide
  refine Or.inr ⟨ht3, cA, ?_, ?_, ?_⟩
  · rw [e1, xzero_val ht]
  · show ArrOfT s cA (xty cl t)
    rw [← hty]; exact hAr
  · show va_RA s cA (xty cl t)
    rw [← hty]
    rcases ht with ⟨rfl, h2⟩ | ⟨rfl, h2⟩ | ⟨rfl, h2⟩ <;> (rw [h2] at hNm ⊢; exact hNm)
theorem xw_newq (hx : p.tables.exec = Jvm.exec) (hb : c.code = cc) (hR : xHR D cl H0 s h H) {own : String} {r : vw_C} {k idx : Nat} (hc : cl[k]? = some r) (hown : s.vm.findClass own = some m.cls) (hcl : (Cond.classLink own idx r.1).before args s = true) (hover : (Cond.arrayOver (.object r.1)).before args s = true)
    {n : Int32} (hn : ¬ n < 0) (hbig : n.toNatClampNeg ≤ 1000000) (hcells : cells + 1 ≤ R.cells) (hslots : slots + n.toNatClampNeg ≤ R.slots) (hd : decode cc pc = .ok (.anewarray idx, 3))
    (kk : ∀ H1 : Heap, xHR D cl H0 s (xnew h (xA (5 + k) n.toNatClampNeg (xzero (5 + k))) n.toNatClampNeg) H1 → W p l e R s m args below meth c H1 locs (cells + 1) (slots + n.toNatClampNeg) Q (F0 m (pc + 3) ls (.ref h.2.1 :: rest))) : W p l e R s m args below meth c H locs cells slots Q (F0 m pc ls (.int n :: rest)) := by
  have hty : xty cl (5 + k) = .object r.1 := by
    rw [show 5 + k = k + 5 by omega]
    show FieldType.object ((cl[k]?.map (fun r => r.1)).getD "") = _
    rw [hc]; rfl
  have hz : xzero (5 + k) = xref (fun _ => none) := by rw [show 5 + k = k + 5 by omega]; rfl
  refine W.anew hx hb hown hcl hover rfl hd rfl hn (Nat.le_trans (Nat.mul_le_mul_right 4 hbig) (by decide)) hcells hslots fun cA kA comp f1 f2 f3 f4 => ?_
  rw [hR.1]
  refine kk _ (hR.new ?_ (by simp) (fun q hq => by rw [Array.getElem?_push, if_neg (Nat.ne_of_lt hq)]))
  refine Or.inr ⟨by show 5 + k ≠ 3; omega, cA, ?_, ?_, ?_⟩
  · show _ = some (arrV cA n.toNatClampNeg (xvl (xzero (5 + k))))
    rw [hz, Array.getElem?_push_size]
    exact congrArg some (arrV_new cA n.toNatClampNeg Value.null)
  · show ArrOfT s cA (xty cl (5 + k))
    rw [hty]
    exact fun N z => ⟨(fun k h => by cases h), kA, f2, comp, f3⟩
  · show va_RA s cA (xty cl (5 + k))
    rw [hty]
    exact ⟨kA, comp, f2, f3, f4, f1⟩
end XW
end
section
/-! calls from inside the walk, and what is thrown -/
section XC
variable {p : Program} {l : Launch} {e : Env} {R : Room} {s : State} {m : MethodId} {args : Array Value} {below : List Frame} {meth : Method} {c : Code} {T : State} {locs : List Loc} {cells slots : Nat}
theorem x_go_cold {E : CtlPost} {d : Bool} {acts : List Action} {u : State} {f : JFrame} {a : Addr} {Q : Handler → Pre} {x : ExceptionTableEntry} {t : List ExceptionTableEntry} {k : ClassId} {cell : Cell} {vm' : Vm} (hx : covers x f.pc = true) (h0 : x.catchType ≠ 0)
    (hg : (Jvm.resolveClass f.method.cls x.catchType).Gives e.toSetting u.vm (.ok k) vm') (hsz : vm'.classes.size ≤ u.vm.classes.size) (hcell : u.heap[a]? = some cell) (hobj : ∀ q, cell.vm ≠ .statics q)
    (hk : ∃ q, vm'.classes[cell.cls]? = some q) (hc : ∃ q, vm'.classes[k]? = some q) :
    wp (findHandler.go f a (x :: t)) Q E e d acts u ↔
      if vm'.assignable cell.cls k = true then Q (.found x.handlerPc) d acts (u.setVm vm') else wp (findHandler.go f a t) Q E e d acts (u.setVm vm') := by
  simp only [covers] at hx
  obtain ⟨ha, ht⟩ := hg.op (op := VmOp.resolveClass f.method.cls x.catchType) rfl
  cases hfit : vm'.assignable cell.cls k <;>
    simp [findHandler.go, hx, h0, ha, ht, hsz, hcell, hobj, hk, hc, hfit, VmOp.dirties, VmOp.acts]
def xFinds (e : Env) (u : State) (f : JFrame) (a : Addr) (pc : Nat) (vm' : Vm) : Prop :=
  ∀ (Q : Handler → Pre) (E : CtlPost) (d : Bool) (acts : List Action), wp (findHandler f a) Q E e d acts u ↔ Q (.found pc) d acts (u.setVm vm')
theorem x_catch_step {u : State} {a : Addr} {f : JFrame} {r : List Frame} {pc : Nat} {vm' : Vm} (hfind : xFinds e u f a pc vm') :
    (stepThrowing e u a (.java f :: r)).1 = (u.setVm vm').setFrames (.java { f with pc := pc, stack := [.ref a] } :: r) := by
  simp only [stepThrowing, searchFrame, vmDo]
  generalize hr : Sem.go _ e false [] u = res
  obtain ⟨as, rfl, ha⟩ := Sem.eq_ok_of hr (a := Handler.found pc) (s' := u.setVm vm') (acts' := []) (by simp [hfind _ _ _ _])
  rfl
theorem x_caught (X : Stand p l e R s m args below meth c T locs cells slots) {a : Addr} {g : JFrame} (hg : g.method = m) {pc : Nat} {vm' : Vm} (hfind : xFinds e ((T.setTop g).pushFrame (.throwing a)) g a pc vm') {target : State}
    (hrest : Steps p.tables e below ((T.setVm vm').setTop { g with pc := pc, stack := [.ref a] }) target) : Steps p.tables e below ((T.setTop g).pushFrame (.throwing a)) target := by
  have h : At T g.method c below := by rw [hg]; exact X.here
  obtain ⟨hgo, hw⟩ := h.throwing a
  refine Steps.head hgo hw ?_
  rw [stepThread_throwing (frames_entered h.top _), x_catch_step hfind]
  obtain ⟨g₀, hg0⟩ := Option.isSome_iff_exists.mp h.top
  obtain ⟨r, hr⟩ := State.topJava?_eq_some.mp hg0
  have e1 : ((T.setTop g).pushFrame (.throwing a)).setVm vm' = ((T.setVm vm').setTop g).pushFrame (.throwing a) := rfl
  have hr' : (T.setVm vm').frames = .java g₀ :: r := hr
  rw [e1, State.pushFrame, State.setFrames_setFrames, State.setTop_of_frames _ hr', State.setFrames_setFrames]
  rw [State.setTop_of_frames _ hr'] at hrest
  rw [hr]
  exact hrest
/-- the search through the table, entry by entry; each names a kind that links -/
theorem x_find {k0 : ClassId} {own : String} (hown : s.vm.findClass own = some m.cls) {f : JFrame} (hf : f.method = m) {a : Addr} {cell : Cell} (hadm : l.admits e) (hobj : ∀ q, cell.vm ≠ .statics q) (hk0 : cell.cls = k0) (hkc : ∃ q, s.vm.classes[k0]? = some q)
    {K : Nat → Option ClassId} {kx : Nat} (hkx : K kx = some k0) (hasg : ∀ (k : Nat) (q : ClassId), K k = some q → (s.vm.assignable k0 q = true ↔ k = kx)) :
    ∀ (t : List ExceptionTableEntry) (hs : List (Nat × Nat × Nat × Nat × Nat)), t.map (fun x => (x.startPc, x.endPc, x.handlerPc, x.catchType)) = hs.map (fun y => (y.1, y.2.1, y.2.2.1, y.2.2.2.1)) →
      (∀ y ∈ hs, y.2.2.2.1 ≠ 0 ∧ ∃ (nm : String) (q : ClassId), (∀ (a' : Array Value) (U : State), s.WarmedH U.vm → (Cond.classLink own y.2.2.2.1 nm).before a' U = true) ∧ s.vm.findClass nm = some q ∧ K y.2.2.2.2 = some q) →
      ∀ (u : State), s.WarmedH u.vm → u.heap[a]? = some cell → ∀ hp : Nat, xhd hs f.pc kx = some hp → ∃ vm' : Vm, s.WarmedH vm' ∧
        ∀ (Q : Handler → Pre) (E : CtlPost) (d : Bool) (acts : List Action), wp (findHandler.go f a t) Q E e d acts u ↔ Q (.found hp) d acts (u.setVm vm')
  | [], [], _, _, u, _, _, hp, h => by simp [xhd] at h
  | [], y :: ys, h, _, _, _, _, _, _ => by simp at h
  | x :: xs, [], h, _, _, _, _, _, _ => by simp at h
  | x :: xs, y :: ys, hmap, hall, u, hW, hcell, hp, hh => by
    obtain ⟨y1, y2, y3, y4, y5⟩ := y
    simp only [List.map_cons, List.cons.injEq, Prod.mk.injEq] at hmap
    obtain ⟨⟨m1, m2, m3, m4⟩, hmap⟩ := hmap
    have hall' : ∀ y ∈ ys, y.2.2.2.1 ≠ 0 ∧ ∃ (nm : String) (q : ClassId), (∀ (a' : Array Value) (U : State), s.WarmedH U.vm → (Cond.classLink own y.2.2.2.1 nm).before a' U = true) ∧ s.vm.findClass nm = some q ∧ K y.2.2.2.2 = some q := fun y hy => hall y (List.mem_cons_of_mem _ hy)
    obtain ⟨z0, nm, q, hlk, hfq, hKq⟩ := hall _ List.mem_cons_self
    dsimp only at z0 hlk hKq
    by_cases hcov : covers x f.pc = true
    · have hpl : e.platform.magicAccessors = ({} : Platform).magicAccessors := by rw [hadm.platform]
      have hl0 : (Cond.classLink own y4 nm).before #[] s = true := hlk #[] s (State.WarmedH.refl s)
      obtain ⟨q', hq', hcl⟩ := Cond.classLink_spec hown hl0 e.platform hpl
      cases hfq.symm.trans hq'
      obtain ⟨hg₁, hwarm₁, hready₁⟩ := State.classEntry (e := e) hW hcl
      generalize u.vm.noted m.cls y4 (.cls q) = vm₁ at hg₁ hwarm₁ hready₁
      obtain ⟨kk, hkk⟩ := hkc
      obtain ⟨kk', hkk', -⟩ := hwarm₁.alike.2.2 _ _ hkk
      obtain ⟨kq, hkq⟩ := Vm.classAt_of_findClass hfq
      obtain ⟨kq', hkq', -⟩ := hwarm₁.alike.2.2 _ _ hkq
      have hasg1 : vm₁.assignable k0 q = s.vm.assignable k0 q := hwarm₁.alike.assignable k0 q
      have hsz : vm₁.classes.size ≤ u.vm.classes.size := by rw [hwarm₁.2.1, hW.2.1]; exact Nat.le_refl _
      have step : ∀ (Q : Handler → Pre) (E : CtlPost) (d : Bool) (acts : List Action), wp (findHandler.go f a (x :: xs)) Q E e d acts u ↔ if vm₁.assignable cell.cls q = true then Q (.found x.handlerPc) d acts (u.setVm vm₁) else wp (findHandler.go f a xs) Q E e d acts (u.setVm vm₁) := by
        intro Q E d acts
        exact x_go_cold hcov (by rw [m4]; exact z0) (by rw [hf, m4]; exact hg₁) hsz hcell hobj ⟨kk', by rw [hk0]; exact hkk'⟩ ⟨kq', hkq'⟩
      rw [hk0, hasg1] at step
      have hcv : (Nat.ble y1 f.pc && Nat.blt f.pc y2) = true := by
        simp only [covers, Bool.and_eq_true, decide_eq_true_eq] at hcov
        rw [m1, m2] at hcov
        simp only [Bool.and_eq_true, Nat.ble_eq, Nat.blt_eq]
        exact hcov
      by_cases hkk5 : y5 = kx
      · have h1 := (hasg y5 q hKq).mpr hkk5
        simp only [xhd, hcv, Bool.true_and, hkk5, Nat.beq_refl, cond_true, Option.some.injEq] at hh
        refine ⟨vm₁, hwarm₁, fun Q E d acts => ?_⟩
        rw [step, if_pos h1, m3, hh]
      · have h1 : ¬ s.vm.assignable k0 q = true := fun z => hkk5 ((hasg y5 q hKq).mp z)
        have hb5 : Nat.beq y5 kx = false := by
          cases hz : Nat.beq y5 kx with
          | false => rfl
          | true => exact absurd (Nat.eq_of_beq_eq_true hz) hkk5
        simp only [xhd, hcv, hb5, Bool.true_and, cond_false] at hh
        obtain ⟨vm', w1, w2⟩ := x_find hown hf hadm hobj hk0 ⟨kk, hkk⟩ hkx hasg xs ys hmap hall' (u.setVm vm₁) hwarm₁ hcell hp hh
        refine ⟨vm', w1, fun Q E d acts => ?_⟩
        rw [step, if_neg h1, w2]
        rfl
    · have hcov' : covers x f.pc = false := by simpa using hcov
      have hcv : (Nat.ble y1 f.pc && Nat.blt f.pc y2) = false := by
        cases hz : (Nat.ble y1 f.pc && Nat.blt f.pc y2) with
        | false => rfl
        | true =>
          exfalso
          apply hcov
          simp only [Bool.and_eq_true, Nat.ble_eq, Nat.blt_eq] at hz
          simp only [covers, Bool.and_eq_true, decide_eq_true_eq, m1, m2]
          exact hz
      simp only [xhd, hcv, Bool.false_and, cond_false] at hh
      obtain ⟨vm', w1, w2⟩ := x_find hown hf hadm hobj hk0 hkc hkx hasg xs ys hmap hall' u hW hcell hp hh
      exact ⟨vm', w1, fun Q E d acts => (W.findHandler_go_skip hcov').trans (w2 Q E d acts)⟩
end XC
end
section
/-! every run of the small machine is a run of the machine -/
def xWd (WL : List Cond) (s : State) : Prop := ∀ w ∈ WL, ∀ (a : Array Value) (U : State), s.WarmedH U.vm → w.before a U = true
def xHw (HL : List Cond) (H0 : Heap) (s : State) : Prop := ∀ w ∈ HL, ∀ (a : Array Value) (U : State), s.WarmedH U.vm → (∀ q : Nat, q < H0.size → U.heap[q]? = H0[q]?) → w.before a U = true
def xSw (SL : List (String × Nat × String)) (s : State) : Prop := ∀ q ∈ SL, ∃ a : Nat, ∀ U : State, s.WarmedH U.vm → vk_R q.1 q.2.1 q.2.2 a U
def xEx (D : va_G) (cl : List vw_C) (EX : List Nat) (s : State) : Prop := ∀ k ∈ EX, (∃ r : vw_C, cl[k]? = some r) ∧ ∀ k' ∈ EX, (s.vm.assignable (D.1 k) (D.1 k') = true ↔ k' = k)
def xSF (D : va_G) (cl : List vw_C) (H0 : Heap) (WL HL : List Cond) (SL : List (String × Nat × String)) (EX : List Nat) (V : Nat → Value) (sf : String × String × String) (s : State) : Prop :=
  xWd WL s ∧ xHw HL H0 s ∧ xSw SL s ∧ xEx D cl EX s ∧ va_K D cl [] s ∧ va_Z sf.1 sf.2.1 sf.2.2 (V 0) (fun q => H0.size ≤ q) s H0
theorem xSF.moved {D : va_G} {cl : List vw_C} {H0 : Heap} {WL HL : List Cond} {SL : List (String × Nat × String)} {EX : List Nat} {V : Nat → Value} {sf : String × String × String} {s u : State} (h : xSF D cl H0 WL HL SL EX V sf s) (hW : s.WarmedH u.vm) : xSF D cl H0 WL HL SL EX V sf u := by
  obtain ⟨h1, h2, h3, h4, h5, h6⟩ := h
  refine ⟨fun w hw a U hU => h1 w hw a U (State.WarmedH.trans hW hU), fun w hw a U hU hq => h2 w hw a U (State.WarmedH.trans hW hU) hq, fun q hq => ?_, fun k hk => ⟨(h4 k hk).1, fun k' hk' => ?_⟩, va_K.moved hW.alike h5, va_Z.moved hW.alike h6⟩
  · obtain ⟨a, ha⟩ := h3 q hq
    exact ⟨a, fun U hU => ha U (State.WarmedH.trans hW hU)⟩
  · rw [hW.alike.assignable]
    exact (h4 k hk).2 k' hk'
def xout (o : xO) (hf : xH) (oc : Outcome) : Prop := match o with
  | .inl v => oc = .returned v
  | .inr q => oc = .threw q.2 ∧ hf.1 q.2 = some (xO' q.1 [])
def xQ (D : va_G) (cl : List vw_C) (H0 : Heap) (s : State) (below : List Frame) (o : xO) (hf : xH) (N0 S0 : Nat) : State → Prop := fun t =>
  ∃ oc, t.status = .running ∧ Ended t below oc ∧ xout o hf oc ∧ xHR D cl H0 s hf t.heap ∧ s.WarmedH t.vm ∧ ∃ L, s.sameButNew ({ t with vm := s.vm } : State) L (hf.2.1 - N0) (hf.2.2 - S0) ∧ ∀ q ∈ L, H0.size ≤ q.base
def xgood (WL HL : List Cond) (cl : List vw_C) (SL : List (String × Nat × String)) (NM : List String) (EX : List Nat) (ty0 : Nat → Nat → FieldType) (sf : String × String × String) (host : String) (nG : Nat) (G : Nat → xM) (M : xM) : Prop :=
  (∃ hs, xmok WL cl M hs = true) ∧ (∀ y ∈ xhs M, y.2.2.2.2 ∈ EX) ∧ ∀ (pc : Nat) (e : xI), xcd M pc = some e → xok WL HL cl SL NM ty0 sf host nG G M pc e = true
def xCx (D : va_G) (cl : List vw_C) (H0 : Heap) (WL HL : List Cond) (SL : List (String × Nat × String)) (NM : List String) (EX : List Nat) (V : Nat → Value) (ty0 : Nat → Nat → FieldType) (sf : String × String × String) (host : String) (nG : Nat) (G : Nat → xM) (M : xM)
    (p : Program) (R : Room) (s : State) (m : MethodId) (meth : Method) (c : Code) : Prop :=
  p.tables.exec = Jvm.exec ∧ c.code = xby M ∧ c.maxLocals = xml M ∧ meth.sig.returnType = xrt M ∧ meth.locks = false ∧ s.methodNamed? (xnm M) = some m ∧ s.vm.method? m = some meth ∧
  c.exceptionTable.toList.map (fun x => (x.startPc, x.endPc, x.handlerPc, x.catchType)) = (xhs M).map (fun y => (y.1, y.2.1, y.2.2.1, y.2.2.2.1)) ∧ xSF D cl H0 WL HL SL EX V sf s ∧ xdp M ≤ R.frames ∧ xlc M ≤ R.locals ∧ xgood WL HL cl SL NM EX ty0 sf host nG G M
/-- the heap only grows -/
theorem xback_mono {ih : xM → xF → xH → Option xR} (hm : ∀ M f h r, ih M f h = some r → h.2.1 ≤ r.2.2.1 ∧ h.2.2 ≤ r.2.2.2) {M : xM} {pc nx : Nat} {l : List (Option Value)} {rest : List Value} {r0 r : xR} (h : xback ih M pc nx l rest r0 = some r) : r0.2.2.1 ≤ r.2.2.1 ∧ r0.2.2.2 ≤ r.2.2.2 := by
  unfold xback at h
  split at h
  · exact hm _ _ _ _ h
  · exact hm _ _ _ _ h
  · split at h
    · cases h; exact ⟨Nat.le_refl _, Nat.le_refl _⟩
    · obtain ⟨p, -, h⟩ := xS_s h
      exact hm _ _ _ _ h
theorem xcall_mono {G : Nat → xM} {ih : xM → xF → xH → Option xR} (hm : ∀ M f h r, ih M f h = some r → h.2.1 ≤ r.2.2.1 ∧ h.2.2 ≤ r.2.2.2) {M : xM} {pc nx z : Nat} {l : List (Option Value)} {as rest : List Value} {h : xH} {r : xR} (hc : xcall G ih M pc nx l z as rest h = some r) : h.2.1 ≤ r.2.2.1 ∧ h.2.2 ≤ r.2.2.2 := by
  obtain ⟨-, hc⟩ := xB_s hc
  obtain ⟨r0, h0, hc⟩ := xS_s hc
  have h1 := hm _ _ _ _ h0
  have h2 := xback_mono hm hc
  exact ⟨Nat.le_trans h1.1 h2.1, Nat.le_trans h1.2 h2.2⟩
theorem xbody_mono {V : Nat → Value} {F : Nat → List Value} {G : Nat → xM} {ih : xM → xF → xH → Option xR} (hm : ∀ M f h r, ih M f h = some r → h.2.1 ≤ r.2.2.1 ∧ h.2.2 ≤ r.2.2.2) {M : xM} {f : xF} {h : xH} {r : xR} (hb : xbody V F G ih M f h = some r) : h.2.1 ≤ r.2.2.1 ∧ h.2.2 ≤ r.2.2.2 := by
  obtain ⟨⟨i, nx, a, b, v, hs⟩, -, hb⟩ := xS_s hb
  unfold xop at hb
  dsimp only at hb
  · split at hb
    · exact hm _ _ _ _ hb
    · exact hm _ _ _ _ hb
    · exact hm _ _ _ _ hb
    · exact hm _ _ _ _ hb
    · exact hm _ _ _ _ hb
    · exact hm _ _ _ _ hb
    · exact hm _ _ _ _ hb
    · exact hm _ _ _ _ hb
    · obtain ⟨_, -, hb⟩ := xvI_s hb
      exact hm _ _ _ _ hb
    · obtain ⟨_, -, hb⟩ := xvI_s hb
      exact hm _ _ _ _ hb
    · obtain ⟨_, -, hb⟩ := xvL_s hb
      exact hm _ _ _ _ hb
    · obtain ⟨_, -, hb⟩ := xvL_s hb
      exact hm _ _ _ _ hb
    · obtain ⟨_, -, hb⟩ := xvA_s hb
      exact hm _ _ _ _ hb
    · obtain ⟨_, -, hb⟩ := xvA_s hb
      exact hm _ _ _ _ hb
    · obtain ⟨_, _, -, hb⟩ := xI1_s hb
      obtain ⟨_, -, hb⟩ := xS_s hb
      exact hm _ _ _ _ hb
    · obtain ⟨_, _, -, hb⟩ := xI1_s hb
      obtain ⟨_, -, hb⟩ := xS_s hb
      exact hm _ _ _ _ hb
    · obtain ⟨_, _, -, hb⟩ := xA1_s hb
      obtain ⟨_, -, hb⟩ := xS_s hb
      exact hm _ _ _ _ hb
    · obtain ⟨_, _, -, hb⟩ := xA1_s hb
      obtain ⟨_, -, hb⟩ := xS_s hb
      exact hm _ _ _ _ hb
    · obtain ⟨_, _, -, hb⟩ := xL1_s hb
      obtain ⟨_, -, hb⟩ := xS_s hb
      exact hm _ _ _ _ hb
    · obtain ⟨_, _, -, hb⟩ := xL1_s hb
      obtain ⟨_, -, hb⟩ := xS_s hb
      exact hm _ _ _ _ hb
    · obtain ⟨_, -, hb⟩ := xvI_s hb
      obtain ⟨_, -, hb⟩ := xvN_s hb
      obtain ⟨_, -, hb⟩ := xS_s hb
      exact hm _ _ _ _ hb
    · obtain ⟨_, _, _, -, hb⟩ := xI2_s hb
      exact hm _ _ _ _ hb
    · obtain ⟨_, _, _, -, hb⟩ := xI2_s hb
      exact hm _ _ _ _ hb
    · obtain ⟨_, _, _, -, hb⟩ := xI2_s hb
      exact hm _ _ _ _ hb
    · obtain ⟨_, _, _, -, hb⟩ := xI2_s hb
      exact hm _ _ _ _ hb
    · obtain ⟨_, _, _, -, hb⟩ := xI2_s hb
      exact hm _ _ _ _ hb
    · obtain ⟨_, _, _, -, hb⟩ := xI2_s hb
      exact hm _ _ _ _ hb
    · obtain ⟨_, _, _, -, hb⟩ := xI2_s hb
      exact hm _ _ _ _ hb
    · obtain ⟨_, _, _, -, hb⟩ := xI2_s hb
      exact hm _ _ _ _ hb
    · obtain ⟨_, _, _, -, hb⟩ := xI2_s hb
      exact hm _ _ _ _ hb
    · obtain ⟨_, _, _, -, hb⟩ := xI2_s hb
      obtain ⟨-, hb⟩ := xN_s hb
      exact hm _ _ _ _ hb
    · obtain ⟨_, _, _, -, hb⟩ := xI2_s hb
      obtain ⟨-, hb⟩ := xN_s hb
      exact hm _ _ _ _ hb
    · obtain ⟨_, _, -, hb⟩ := xI1_s hb
      exact hm _ _ _ _ hb
    · obtain ⟨_, _, _, -, hb⟩ := xL2_s hb
      exact hm _ _ _ _ hb
    · obtain ⟨_, _, _, -, hb⟩ := xL2_s hb
      exact hm _ _ _ _ hb
    · obtain ⟨_, _, _, -, hb⟩ := xL2_s hb
      exact hm _ _ _ _ hb
    · obtain ⟨_, _, _, -, hb⟩ := xL2_s hb
      exact hm _ _ _ _ hb
    · obtain ⟨_, _, _, -, hb⟩ := xLI_s hb
      exact hm _ _ _ _ hb
    · obtain ⟨_, _, _, -, hb⟩ := xLI_s hb
      exact hm _ _ _ _ hb
    · obtain ⟨_, _, _, -, hb⟩ := xL2_s hb
      exact hm _ _ _ _ hb
    · obtain ⟨_, _, -, hb⟩ := xI1_s hb
      exact hm _ _ _ _ hb
    · obtain ⟨_, _, -, hb⟩ := xL1_s hb
      exact hm _ _ _ _ hb
    · split at hb
      · exact hm _ _ _ _ (xB_s hb).2
      · cases hb
    · split at hb
      · exact hm _ _ _ _ (xB_s hb).2
      · cases hb
    · split at hb
      · exact hm _ _ _ _ (xB_s hb).2
      · cases hb
    · split at hb
      · exact hm _ _ _ _ (xB_s hb).2
      · cases hb
    · split at hb
      · exact hm _ _ _ _ (xB_s hb).2
      · cases hb
    · obtain ⟨_, _, -, hb⟩ := xI1_s hb
      unfold xif at hb
      repeat' split at hb
      all_goals exact hm _ _ _ _ hb
    · obtain ⟨_, _, _, -, hb⟩ := xI2_s hb
      unfold xif at hb
      repeat' split at hb
      all_goals exact hm _ _ _ _ hb
    · exact hm _ _ _ _ hb
    · obtain ⟨_, _, -, hb⟩ := xI1_s hb
      split at hb
      · exact hm _ _ _ _ hb
      · obtain ⟨_, -, hb⟩ := xS_s hb
        exact hm _ _ _ _ (xN_s hb).2
    · split at hb
      · cases hb; exact ⟨Nat.le_refl _, Nat.le_refl _⟩
      · obtain ⟨-, hb⟩ := xB_s hb
        cases hb; exact ⟨Nat.le_refl _, Nat.le_refl _⟩
      · cases hb
    · split at hb
      · cases hb; exact ⟨Nat.le_refl _, Nat.le_refl _⟩
      · cases hb
    · split at hb
      · cases hb; exact ⟨Nat.le_refl _, Nat.le_refl _⟩
      · cases hb; exact ⟨Nat.le_refl _, Nat.le_refl _⟩
      · cases hb
    · split at hb
      · cases hb; exact ⟨Nat.le_refl _, Nat.le_refl _⟩
      · cases hb
    · obtain ⟨_, _, -, hb⟩ := xA1_s hb
      obtain ⟨_, _, -, hb⟩ := xcO_s hb
      obtain ⟨-, hb⟩ := xB_s hb
      obtain ⟨_, -, hb⟩ := xS_s hb
      exact hm _ _ _ _ hb
    · obtain ⟨_, _, _, -, hb⟩ := xAV_s hb
      obtain ⟨_, -, hb⟩ := xvK_s hb
      obtain ⟨_, _, -, hb⟩ := xcO_s hb
      obtain ⟨-, hb⟩ := xB_s hb
      have h1 := hm _ _ _ _ hb
      exact h1
    · obtain ⟨_, _, _, -, hb⟩ := xAI_s hb
      obtain ⟨_, _, _, -, hb⟩ := xcI_s hb
      obtain ⟨-, hb⟩ := xB_s hb
      exact hm _ _ _ _ (xN_s hb).2
    · obtain ⟨_, _, _, -, hb⟩ := xAI_s hb
      obtain ⟨_, _, _, -, hb⟩ := xcI_s hb
      obtain ⟨-, hb⟩ := xB_s hb
      exact hm _ _ _ _ (xN_s hb).2
    · obtain ⟨_, _, _, -, hb⟩ := xAI_s hb
      obtain ⟨_, _, _, -, hb⟩ := xcL_s hb
      obtain ⟨-, hb⟩ := xB_s hb
      exact hm _ _ _ _ (xN_s hb).2
    · obtain ⟨_, _, _, -, hb⟩ := xAI_s hb
      obtain ⟨_, _, _, -, hb⟩ := xcR_s hb
      obtain ⟨-, hb⟩ := xB_s hb
      obtain ⟨-, hb⟩ := xN_s hb
      obtain ⟨_, -, hb⟩ := xS_s hb
      exact hm _ _ _ _ hb
    · obtain ⟨_, _, _, _, -, hb⟩ := xAII_s hb
      obtain ⟨_, _, _, -, hb⟩ := xcI_s hb
      obtain ⟨-, hb⟩ := xB_s hb
      have h1 := hm _ _ _ _ (xN_s hb).2
      exact h1
    · obtain ⟨_, _, _, _, -, hb⟩ := xAII_s hb
      obtain ⟨_, _, _, -, hb⟩ := xcI_s hb
      obtain ⟨-, hb⟩ := xB_s hb
      have h1 := hm _ _ _ _ (xN_s hb).2
      exact h1
    · obtain ⟨_, _, _, _, -, hb⟩ := xAIL_s hb
      obtain ⟨_, _, _, -, hb⟩ := xcL_s hb
      obtain ⟨-, hb⟩ := xB_s hb
      have h1 := hm _ _ _ _ (xN_s hb).2
      exact h1
    · obtain ⟨_, _, _, _, -, hb⟩ := xAIA_s hb
      obtain ⟨_, _, _, -, hb⟩ := xcR_s hb
      obtain ⟨_, _, -, hb⟩ := xcO_s hb
      obtain ⟨-, hb⟩ := xB_s hb
      have h1 := hm _ _ _ _ (xN_s hb).2
      exact h1
    · obtain ⟨_, _, -, hb⟩ := xA1_s hb
      obtain ⟨_, _, _, -, hb⟩ := xcA_s hb
      exact hm _ _ _ _ hb
    · obtain ⟨_, _, -, hb⟩ := xI1_s hb
      have h1 := hm _ _ _ _ (xN_s hb).2
      exact ⟨Nat.le_trans (Nat.le_succ _) h1.1, Nat.le_trans (Nat.le_add_right _ _) h1.2⟩
    · obtain ⟨_, _, -, hb⟩ := xI1_s hb
      have h1 := hm _ _ _ _ (xN_s hb).2
      exact ⟨Nat.le_trans (Nat.le_succ _) h1.1, Nat.le_trans (Nat.le_add_right _ _) h1.2⟩
    · obtain ⟨_, _, _, -, hb⟩ := xI2_s hb
      have h1 := hm _ _ _ _ (xN_s hb).2
      simp only [xgrid] at h1
      omega
    · split at hb
      · split at hb
        · cases hb; exact ⟨Nat.le_succ _, Nat.le_add_right _ _⟩
        · cases hb
      · have h1 := hm _ _ _ _ hb
        exact ⟨Nat.le_trans (Nat.le_succ _) h1.1, Nat.le_trans (Nat.le_add_right _ _) h1.2⟩
    · split at hb
      · obtain ⟨_, _, _, _, _, _, -, hb⟩ := xcopy_s hb
        obtain ⟨_, _, _, -, hb⟩ := xcI_s hb
        obtain ⟨_, _, _, -, hb⟩ := xcI_s hb
        obtain ⟨-, hb⟩ := xB_s hb
        obtain ⟨-, hb⟩ := xN_s hb
        have h1 := hm _ _ _ _ (xB_s hb).2
        exact h1
      · obtain ⟨_, -, hb⟩ := xS_s hb
        exact xcall_mono hm hb
    · obtain ⟨_, -, hb⟩ := xS_s hb
      split at hb
      · obtain ⟨_, -, hb⟩ := xvK_s hb
        obtain ⟨_, _, -, hb⟩ := xcO_s hb
        exact xcall_mono hm (xB_s hb).2
      · cases hb
    · split at hb
      · obtain ⟨_, _, -, hb⟩ := xA1_s hb
        exact hm _ _ _ _ (xB_s hb).2
      · obtain ⟨_, -, hb⟩ := xS_s hb
        split at hb
        · exact xcall_mono hm hb
        · cases hb
    · cases hb
theorem xrun_mono {V : Nat → Value} {F : Nat → List Value} {G : Nat → xM} : ∀ (n : Nat) (M : xM) (f : xF) (h : xH) (r : xR), xrun V F G n M f h = some r → h.2.1 ≤ r.2.2.1 ∧ h.2.2 ≤ r.2.2.2
  | 0, _, _, _, _, h => by cases h
  | n + 1, M, f, h, r, hr => xbody_mono (ih := xrun V F G n) (xrun_mono n) hr
end
section
/-! soundness, instruction by instruction -/
section XSND
variable {l : Launch} {D : va_G} {cl : List vw_C} {H0 : Heap} {V : Nat → Value} {F : Nat → List Value} {G : Nat → xM} {WL HL : List Cond} {SL : List (String × Nat × String)} {NM : List String} {EX : List Nat} {ty0 : Nat → Nat → FieldType} {sf : String × String × String} {host : String} {nG : Nat}
variable {p : Program} {e : Env} {R : Room} {s : State} {m : MethodId} {args : Array Value} {below : List Frame} {meth : Method} {c : Code}
/-- into a method and back: what the callee's run says of the caller's -/
theorem x_callee {T : State} {locs : List Loc} {cells slots : Nat} (X : Stand p l e R s m args below meth c T locs cells slots) {Z : xM} {g : JFrame} (hg : g.method = m) (hsize : g.locals.size = c.maxLocals) {ig : Instr} {len : Nat} (hdg : decode c.code g.pc = .ok (ig, len))
    {h hz : xH} {o : xO} {as : List Value} {mk : MethodId} {methZ : Method} {cZ : Code} (hmk : T.vm.method? mk = some methZ) (hck : methZ.code = some cZ) (hlk : methZ.locks = false) (hpk : T.plainMethod mk) (hmlz : cZ.maxLocals = xml Z) (hwt : xwt as ≤ xml Z)
    (hfr : xdp Z + 1 ≤ R.frames) (hlo : 2 * g.monitorRoom + (g.stack.map fun v => v.category).sum + (xml Z + 11) + xlc Z ≤ R.locals) (hce : cells + (hz.2.1 - h.2.1) ≤ R.cells) (hsl : slots + (hz.2.2 - h.2.2) ≤ R.slots)
    (hW : ∀ (ls : Array Slot), xl ls (xml Z) (xpad (xml Z) false as) → W p l e { frames := xdp Z, cells := hz.2.1 - h.2.1, slots := hz.2.2 - h.2.2, locals := xlc Z } (T.calling g mk as.toArray) mk as.toArray (.java g :: below) methZ cZ T.heap [] 0 0 (xQ D cl H0 (T.calling g mk as.toArray) (.java g :: below) o hz h.2.1 h.2.2) (F0 mk 0 ls [])) :
    (∃ (v : Option Value) (T' : State) (L : List Loc), o = .inl v ∧ Stand p l e R s m args below meth c T' (locs ++ L) (cells + (hz.2.1 - h.2.1)) (slots + (hz.2.2 - h.2.2)) ∧ (∀ q ∈ L, H0.size ≤ q.base) ∧ T.WarmedH T'.vm ∧ xHR D cl H0 T hz T'.heap ∧
        ∀ acts, Steps p.tables e below (doInvoke e (T.setTop g) acts mk as.toArray).1 (T'.setTop { g with pc := g.pc + len, stack := v.toList ++ g.stack })) ∨
    (∃ (k a : Nat) (T' : State) (L : List Loc), o = .inr (k, a) ∧ hz.1 a = some (xO' k []) ∧ Stand p l e R s m args below meth c T' (locs ++ L) (cells + (hz.2.1 - h.2.1)) (slots + (hz.2.2 - h.2.2)) ∧ (∀ q ∈ L, H0.size ≤ q.base) ∧ T.WarmedH T'.vm ∧ xHR D cl H0 T hz T'.heap ∧
        ∀ acts, Steps p.tables e below (doInvoke e (T.setTop g) acts mk as.toArray).1 ((T'.setTop g).pushFrame (.throwing a))) := by
  obtain ⟨Y, hin⟩ := X.into hg hsize hdg as.toArray (R' := { frames := xdp Z, cells := hz.2.1 - h.2.1, slots := hz.2.2 - h.2.2, locals := xlc Z }) hmk hck hlk hpk hfr (by rw [hmlz]; exact hlo) hce hsl
  rw [hmlz] at Y hin
  have hl := xl_entry as hwt
  obtain ⟨t, hst, oc, hrun, hend, hout, hR, hWm, L, hsame, hL⟩ := hW _ hl _ (by simp [State.pushFrame, State.setFrames, State.setTop, State.modifyTopJava]) Y
  rw [← lg_entry_eq] at hst
  have hst' : Steps p.tables e below (((T.setTop g).pushFrame (.java (entryFrame mk as.toArray (xml Z)))).setTop (entryFrame mk as.toArray (xml Z))) t := Steps.weaken (mid := [.java g]) (below := below) hst
  have hR' : xHR D cl H0 T hz t.heap := xHR.moved (U := T.calling g mk as.toArray) (U1 := T) (Vm.Alike.refl T.vm) hR
  cases o with
  | inl v =>
    have hout : oc = .returned v := hout
    subst hout
    obtain ⟨T', X', w1, w2, ht⟩ := X.outOf hg hdg hend hWm hsame
    refine Or.inl ⟨v, T', L, rfl, X', hL, w1, ?_, fun acts => ?_⟩
    · rw [ht] at hR'; simpa using hR'
    · rw [hin acts, ← ht]; exact hst'
  | inr q =>
    obtain ⟨k, a⟩ := q
    obtain ⟨hout, hcell⟩ : oc = .threw a ∧ hz.1 a = some (xO' k []) := hout
    subst hout
    obtain ⟨T', X', w1, w2, ht⟩ := X.outOfThrown hg hend hWm hsame
    refine Or.inr ⟨k, a, T', L, rfl, hcell, X', hL, w1, ?_, fun acts => ?_⟩
    · rw [ht, Stand.throwing_heap] at hR'; exact hR'
    · rw [hin acts, ← ht]; exact hst'
/-- the end of a walk by a note that is thrown -/
theorem x_leave {T : State} {locs : List Loc} {N0 S0 k a : Nat} {hf : xH} {target : State} {g : JFrame} (X : Stand p l e R s m args below meth c T locs (hf.2.1 - N0) (hf.2.2 - S0)) (hg : g.method = m) (hlk : g.locked = none) (hen : g.entered = []) (hout : ∀ x ∈ c.exceptionTable.toList, covers x g.pc = false) (hlocks : meth.locks = false)
    (hR : xHR D cl H0 s hf T.heap) (hc : hf.1 a = some (xO' k [])) (hl : ∀ q ∈ locs, H0.size ≤ q.base) (hs : Steps p.tables e below target ((T.setTop g).pushFrame (.throwing a))) :
    ∃ t, Steps p.tables e below target t ∧ xQ D cl H0 s below (.inr (k, a)) hf N0 S0 t := by
  obtain ⟨w1, w2, w3, w4, w5⟩ := X.leaveThrown a hg hlk hen hout hlocks
  exact ⟨_, hs.trans w1, .threw a, w2, w3, ⟨rfl, hc⟩, hR, w4, locs, w5, hl⟩
theorem xW_mono {H : Heap} {locs : List Loc} {cells slots : Nat} {Q Q' : State → Prop} {g : JFrame} (hq : ∀ t, Q t → Q' t) (w : W p l e R s m args below meth c H locs cells slots Q g) : W p l e R s m args below meth c H locs cells slots Q' g := by
  intro T hT X
  obtain ⟨t, a, b⟩ := w T hT X
  exact ⟨t, a, hq t b⟩
theorem xMQ {H : Heap} {hf : xH} {N0 S0 : Nat} {v : Option Value} (hR : xHR D cl H0 s hf H) : ∀ t, MQ below (fun _ st o t => o = .returned v ∧ t.heap = H) args s (hf.2.1 - N0) (hf.2.2 - S0) (fun q => H0.size ≤ q) t → xQ D cl H0 s below (.inl v) hf N0 S0 t := by
  rintro t ⟨o, h1, h2, ⟨rfl, h3⟩, L, ⟨-, h4, h5⟩, h6⟩
  exact ⟨_, h1, h2, rfl, by rw [h3]; exact hR, h4, L, h5, h6⟩
theorem x_mfacts {Z : xM} {hs : List Nat} (hok : xmok WL cl Z hs = true) (hw : xWd WL s) : ∃ (mk : MethodId) (methZ : Method) (cZ : Code), s.methodNamed? (xnm Z) = some mk ∧ s.vm.method? mk = some methZ ∧ methZ.code = some cZ ∧ cZ.code = xby Z ∧ cZ.maxLocals = xml Z ∧ methZ.sig.returnType = xrt Z ∧ methZ.locks = false ∧
    cZ.exceptionTable.toList.map (fun x => (x.startPc, x.endPc, x.handlerPc, x.catchType)) = (xhs Z).map (fun y => (y.1, y.2.1, y.2.2.1, y.2.2.2.1)) ∧ parseMethodDescriptor (xnm Z).desc = some methZ.sig ∧ (∃ k, s.vm.classes[mk.cls]? = some k ∧ k.init = .initialized) ∧ plainFor (xnm Z) = true ∧ ((xnm Z).cls ≠ "java/lang/invoke/MethodHandle" ∧ (xnm Z).cls ≠ "java/lang/invoke/VarHandle") := by
  simp only [xmok, Bool.and_eq_true, decide_eq_true_eq] at hok
  obtain ⟨⟨⟨⟨⟨h1, h2⟩, h3⟩, h4⟩, h5⟩, -⟩ := hok
  have hini := hw _ (xin_mem h5) #[] s (State.WarmedH.refl s)
  have fin : ∀ mk : MethodId, s.methodNamed? (xnm Z) = some mk → ∃ k, s.vm.classes[mk.cls]? = some k ∧ k.init = .initialized := by
    intro mk hn
    obtain ⟨k, hk, -⟩ := className_of_methodNamed hn
    exact ⟨k, hk, Cond.initialized_spec (findClass_of_methodNamed hn) hk hini⟩
  cases hh : xhs Z with
  | nil =>
    rw [hh] at h4
    have hc := hw _ (xin_mem h4) #[] s (State.WarmedH.refl s)
    obtain ⟨mk, hn⟩ := Cond.code_named hc
    obtain ⟨meth, c, q1, q2, q3, q4, q5, q6, q7, q8⟩ := Cond.code_spec hn hc
    refine ⟨mk, meth, c, hn, q1, q2, q3, q4, q5, q6, ?_, q8, fin mk hn, h1, h2, h3⟩
    have : c.exceptionTable = #[] := by simpa using q7
    rw [this]; rfl
  | cons y ys =>
    rw [hh] at h4
    have hc := hw _ (xin_mem h4) #[] s (State.WarmedH.refl s)
    obtain ⟨mk, meth, c, hn, q1, q2, q3, q4, q5, q6, q7, q8⟩ := Cond.codeWith_spec hc
    exact ⟨mk, meth, c, hn, q1, q2, q3, q4, q6, q7, q5, q8, fin mk hn, h1, h2, h3⟩
/-- the claim at a number of steps -/
def xSnd (l : Launch) (D : va_G) (cl : List vw_C) (H0 : Heap) (V : Nat → Value) (F : Nat → List Value) (G : Nat → xM) (WL HL : List Cond) (SL : List (String × Nat × String)) (NM : List String) (EX : List Nat) (ty0 : Nat → Nat → FieldType) (sf : String × String × String) (host : String) (nG : Nat) (n : Nat) : Prop :=
  ∀ (M : xM) (f : xF) (h hf : xH) (o : xO), xrun V F G n M f h = some (o, hf) → ∀ (p : Program) (e : Env) (R : Room) (s : State) (m : MethodId) (args : Array Value) (below : List Frame) (meth : Method) (c : Code),
    xCx D cl H0 WL HL SL NM EX V ty0 sf host nG G M p R s m meth c → ∀ (N0 S0 : Nat), N0 ≤ h.2.1 → S0 ≤ h.2.2 → hf.2.1 - N0 ≤ R.cells → hf.2.2 - S0 ≤ R.slots →
    ∀ (H : Heap) (locs : List Loc) (ls : Array Slot), xHR D cl H0 s h H → xl ls (xml M) f.2.1 → (∀ q ∈ locs, H0.size ≤ q.base) →
      W p l e R s m args below meth c H locs (h.2.1 - N0) (h.2.2 - S0) (xQ D cl H0 s below o hf N0 S0) (F0 m f.1 ls f.2.2)
theorem x_call {n : Nat} (ih : xSnd l D cl H0 V F G WL HL SL NM EX ty0 sf host nG n) (hG : ∀ z, z < nG → xgood WL HL cl SL NM EX ty0 sf host nG G (G z)) {M : xM} (C : xCx D cl H0 WL HL SL NM EX V ty0 sf host nG G M p R s m meth c)
    {z pc : Nat} (hz : z < nG) {as rest st : List Value} {lo : List (Option Value)} {h hf : xH} {o : xO} {ig : Instr} (hcall : xcall G (xrun V F G n) M pc (pc + 3) lo z as rest h = some (o, hf)) (hdg : decode (xby M) pc = .ok (ig, 3)) (hroom : xroom M (G z) = true)
    {N0 S0 : Nat} (hN : N0 ≤ h.2.1) (hS : S0 ≤ h.2.2) (hRc : hf.2.1 - N0 ≤ R.cells) (hRs : hf.2.2 - S0 ≤ R.slots) {H : Heap} {locs : List Loc} {ls : Array Slot} (hR : xHR D cl H0 s h H) (hL : xl ls (xml M) lo) (hl : ∀ q ∈ locs, H0.size ≤ q.base)
    (hent : ∀ (T : State), T.heap = H → Stand p l e R s m args below meth c T locs (h.2.1 - N0) (h.2.2 - S0) → ∀ mk : MethodId, s.methodNamed? (xnm (G z)) = some mk → ∃ vm₁, s.WarmedH vm₁ ∧ Stand p l e R s m args below meth c (T.setVm vm₁) locs (h.2.1 - N0) (h.2.2 - S0) ∧
      ∀ target, (∀ acts, Steps p.tables e below (doInvoke e ((T.setVm vm₁).setTop (F0 m pc ls rest)) acts mk as.toArray).1 target) → Steps p.tables e below (T.setTop (F0 m pc ls st)) target) :
    W p l e R s m args below meth c H locs (h.2.1 - N0) (h.2.2 - S0) (xQ D cl H0 s below o hf N0 S0) (F0 m pc ls st) := by
  obtain ⟨hx, hb, hml, hrt, hlk, hnm, hmeth, htab, hsf, hfr, hlo, hgood⟩ := C
  have C' : xCx D cl H0 WL HL SL NM EX V ty0 sf host nG G M p R s m meth c := ⟨hx, hb, hml, hrt, hlk, hnm, hmeth, htab, hsf, hfr, hlo, hgood⟩
  obtain ⟨hwt, hcall⟩ := xB_s hcall
  obtain ⟨⟨oz, hzz⟩, hrz, hback⟩ := xS_s hcall
  simp only [Bool.and_eq_true, Nat.ble_eq] at hwt
  simp only [xroom, Bool.and_eq_true, Nat.ble_eq] at hroom
  have mo1 := xrun_mono n _ _ _ _ hrz
  have mo2 := xback_mono (xrun_mono n) hback
  dsimp only at mo1 mo2
  intro T hT X
  obtain ⟨⟨hsZ, hokZ⟩, hexZ, hokZ2⟩ := hG z hz
  obtain ⟨mk, methZ, cZ, q1, q2, q3, q4, q5, q6, q7, q8, q9, ⟨kZ, qk, qi⟩, q10, q11⟩ := x_mfacts (s := s) hokZ hsf.1
  obtain ⟨vm₁, hW₁, X₁, hst⟩ := hent T hT X mk q1
  have hmk' : (T.setVm vm₁).vm.method? mk = some methZ := hW₁.methodAt q2
  have hnk' : (T.setVm vm₁).methodNamed? (xnm (G z)) = some mk := X₁.named q1
  have hcat : 2 * (F0 m pc ls rest).monitorRoom + ((F0 m pc ls rest).stack.map fun v => v.category).sum ≤ 8 := by
    show 2 * 0 + (rest.map fun v => v.category).sum ≤ 8
    rw [← xwt_eq]; omega
  have hsz : (F0 m pc ls rest).locals.size = c.maxLocals := by rw [hml]; exact hL.1
  have hRT : xHR D cl H0 s h (T.setVm vm₁).heap := by show xHR D cl H0 s h T.heap; rw [hT]; exact hR
  have key := x_callee (D := D) (cl := cl) (H0 := H0) X₁ (Z := G z) (g := F0 m pc ls rest) rfl hsz (by rw [hb]; exact hdg) (h := h) (hz := hzz) (o := oz) (as := as) (mk := mk) hmk' q3 q7 (State.plainMethod.of_named q10 hnk' hmk') q5 hwt.2
    (Nat.le_trans hroom.1 hfr) (by have := hroom.2; have := hlo; omega) (by omega) (by omega) (fun lsz hlz => by
      have w := ih (G z) (0, xpad (xml (G z)) false as, []) h hzz oz hrz p e { frames := xdp (G z), cells := hzz.2.1 - h.2.1, slots := hzz.2.2 - h.2.2, locals := xlc (G z) } ((T.setVm vm₁).calling (F0 m pc ls rest) mk as.toArray) mk as.toArray (.java (F0 m pc ls rest) :: below) methZ cZ
        ⟨hx, q4, q5, q6, q7, hnk', hmk', q8, hsf.moved (u := (T.setVm vm₁).calling (F0 m pc ls rest) mk as.toArray) hW₁, Nat.le_refl _, Nat.le_refl _, ⟨⟨hsZ, hokZ⟩, hexZ, hokZ2⟩⟩ h.2.1 h.2.2 (Nat.le_refl _) (Nat.le_refl _) (Nat.le_refl _) (Nat.le_refl _) (T.setVm vm₁).heap [] lsz
        (xHR.moved (U := s) (U1 := (T.setVm vm₁).calling (F0 m pc ls rest) mk as.toArray) hW₁.alike hRT) hlz (fun q hq => by cases hq)
      rw [Nat.sub_self, Nat.sub_self] at w
      exact w)
  rcases key with ⟨v, T', L, rfl, X', hL', w1, hR', hs'⟩ | ⟨k, a, T', L, rfl, hcell, X', hL', w1, hR', hs'⟩
  · have hWs : s.WarmedH T'.vm := State.WarmedH.trans hW₁ w1
    have hRs' : xHR D cl H0 s hzz T'.heap := xHR.moved (U := T.setVm vm₁) (U1 := s) hW₁.alike.symm hR'
    have hc1 : h.2.1 - N0 + (hzz.2.1 - h.2.1) = hzz.2.1 - N0 := by omega
    have hc2 : h.2.2 - S0 + (hzz.2.2 - h.2.2) = hzz.2.2 - S0 := by omega
    rw [hc1, hc2] at X'
    have hlocs : ∀ q ∈ locs ++ L, H0.size ≤ q.base := fun q hq => (List.mem_append.mp hq).elim (hl q) (hL' q)
    cases v with
    | none =>
      have hb2 : xrun V F G n M (pc + 3, lo, rest) hzz = some (o, hf) := hback
      obtain ⟨t, t1, t2⟩ := ih M _ hzz hf o hb2 p e R s m args below meth c C' N0 S0 (by omega) (by omega) hRc hRs T'.heap (locs ++ L) ls hRs' hL hlocs T' rfl X'
      exact ⟨t, hst _ (fun acts => (hs' acts).trans t1), t2⟩
    | some v =>
      have hb2 : xrun V F G n M (pc + 3, lo, v :: rest) hzz = some (o, hf) := hback
      obtain ⟨t, t1, t2⟩ := ih M _ hzz hf o hb2 p e R s m args below meth c C' N0 S0 (by omega) (by omega) hRc hRs T'.heap (locs ++ L) ls hRs' hL hlocs T' rfl X'
      exact ⟨t, hst _ (fun acts => (hs' acts).trans t1), t2⟩
  · have hWs : s.WarmedH T'.vm := State.WarmedH.trans hW₁ w1
    have hRs' : xHR D cl H0 s hzz T'.heap := xHR.moved (U := T.setVm vm₁) (U1 := s) hW₁.alike.symm hR'
    have hc1 : h.2.1 - N0 + (hzz.2.1 - h.2.1) = hzz.2.1 - N0 := by omega
    have hc2 : h.2.2 - S0 + (hzz.2.2 - h.2.2) = hzz.2.2 - S0 := by omega
    rw [hc1, hc2] at X'
    have hlocs : ∀ q ∈ locs ++ L, H0.size ≤ q.base := fun q hq => (List.mem_append.mp hq).elim (hl q) (hL' q)
    cases hhs : xhs M with
    | nil =>
      simp only [xback, hhs, Option.some.injEq, Prod.mk.injEq] at hback
      obtain ⟨rfl, rfl⟩ := hback
      have hempty : ∀ x ∈ c.exceptionTable.toList, covers x pc = false := by
        rw [hhs] at htab
        have : c.exceptionTable.toList = [] := by simpa using htab
        rw [this]
        intro x hx'
        cases hx'
      obtain ⟨t, t1, t2⟩ := x_leave (N0 := N0) (S0 := S0) (k := k) (a := a) (hf := hzz) X' (g := F0 m pc ls rest) rfl rfl rfl hempty hlk hRs' hcell hlocs (Steps.refl _)
      exact ⟨t, hst _ (fun acts => (hs' acts).trans t1), t2⟩
    | cons y ys =>
      simp only [xback, hhs] at hback
      obtain ⟨hp, hhp, hback⟩ := xS_s hback
      rw [← hhs] at hhp
      obtain ⟨⟨hsM, hokM⟩, hexM, -⟩ := hgood
      obtain ⟨r, hr, cellX, x1, x2, x3, -⟩ := (hRs'.2.2.2 a _ hcell).1
      have hkEX : k ∈ EX := by
        by_cases hk : k ∈ EX
        · exact hk
        · exfalso
          have : ∀ (t : List (Nat × Nat × Nat × Nat × Nat)), (∀ y ∈ t, y.2.2.2.2 ∈ EX) → xhd t pc k = none := by
            intro t
            induction t with
            | nil => intro _; rfl
            | cons y t iht =>
              intro hy
              obtain ⟨a1, a2, a3, a4, a5⟩ := y
              have h5 : a5 ≠ k := fun z => hk (z ▸ hy _ List.mem_cons_self)
              have hb5 : Nat.beq a5 k = false := by
                cases hz : Nat.beq a5 k with
                | false => rfl
                | true => exact absurd (Nat.eq_of_beq_eq_true hz) h5
              simp only [xhd, hb5, Bool.and_false, cond_false]
              exact iht (fun y hy' => hy y (List.mem_cons_of_mem _ hy'))
          rw [this _ hexM] at hhp
          cases hhp
      have hKn := hsf.2.2.2.2.1.1 k r hr
      obtain ⟨kC, hkC, -⟩ := hKn.2.2
      simp only [xmok, Bool.and_eq_true] at hokM
      have hall := List.all_eq_true.mp hokM.2
      obtain ⟨vm', wf, hfind⟩ := x_find (s := s) (l := l) (e := e) (m := m) (k0 := D.1 k) (findClass_of_methodNamed hnm) (f := F0 m pc ls rest) rfl (a := a) (cell := cellX) X.admits (fun q hq => by rw [x3] at hq; cases hq) x2 ⟨kC, hkC⟩
        (K := fun j => if j ∈ EX then some (D.1 j) else none) (kx := k) (by simp [hkEX]) (fun j q hj => by
          by_cases hjE : j ∈ EX
          · simp only [hjE, if_true, Option.some.injEq] at hj
            rw [← hj]
            exact (hsf.2.2.2.1 k hkEX).2 j hjE
          · simp [hjE] at hj) c.exceptionTable.toList (xhs M) htab (fun y hy => by
          have h1 := hall y hy
          simp only [Bool.and_eq_true] at h1
          obtain ⟨h1, h2⟩ := h1
          refine ⟨fun z => ?_, ?_⟩
          · rw [z] at h1; exact absurd h1 (by decide)
          · split at h2
            · next C0 T0 N0' hcl =>
              obtain ⟨w, hw, hww⟩ := List.any_eq_true.mp h2
              have hww := of_decide_eq_true hww
              subst hww
              have hKy := hsf.2.2.2.2.1.1 _ _ hcl
              exact ⟨C0, D.1 y.2.2.2.2, fun a' U hU => hsf.1 _ hw a' U hU, hKy.2.1, by simp [hexM y hy]⟩
            · cases h2) ((T'.setTop (F0 m pc ls rest)).pushFrame (.throwing a)) (by rw [Stand.throwing_vm]; exact hWs) (by rw [Stand.throwing_heap]; exact x1) hp hhp
      have hmT : ((T'.setTop (F0 m pc ls rest)).pushFrame (.throwing a)).vm.method? (F0 m pc ls rest).method = some meth := by rw [Stand.throwing_vm]; exact X'.method'
      have hfd : xFinds e ((T'.setTop (F0 m pc ls rest)).pushFrame (.throwing a)) (F0 m pc ls rest) a hp vm' := fun Q E d acts => (W.findHandler_eq hmT X'.code).trans (hfind Q E d acts)
      have X'' := X'.noted wf
      have hb2 : xrun V F G n M (hp, lo, [.ref a]) hzz = some (o, hf) := hback
      obtain ⟨t, t1, t2⟩ := ih M _ hzz hf o hb2 p e R s m args below meth c C' N0 S0 (by omega) (by omega) hRc hRs T'.heap (locs ++ L) ls hRs' hL hlocs (T'.setVm vm') rfl X''
      exact ⟨t, hst _ (fun acts => (hs' acts).trans (x_caught X' rfl hfd t1)), t2⟩
end XSND
end
section
/-! entering a method; copying; throwing -/
theorem xkind_fit {k : Nat} {ty : FieldType} {w : Value} (h1 : xkind k ty = true) (h2 : xfit k w = true) : narrow ty w = w ∧ fits ty w = true := by
  unfold xkind at h1
  split at h1
  · cases w <;> first | exact ⟨rfl, rfl⟩ | exact absurd h2 (by simp [xfit])
  · cases w with
    | int x => rcases of_decide_eq_true h2 with rfl | rfl <;> exact ⟨rfl, rfl⟩
    | _ => exact absurd h2 (by simp [xfit])
  · cases w <;> first | exact ⟨rfl, rfl⟩ | exact absurd h2 (by simp [xfit])
  · cases w <;> first | exact ⟨rfl, rfl⟩ | exact absurd h2 (by simp [xfit])
  · cases h1
section XEN
variable {l : Launch} {cl : List vw_C} {WL : List Cond} {host : String}
variable {p : Program} {e : Env} {R : Room} {s : State} {m : MethodId} {args : Array Value} {below : List Frame} {meth : Method} {c : Code} {T : State} {locs : List Loc} {cells slots : Nat}
theorem xpar_len {Z : xM} {b : Nat} {sig : ClassFile.MethodDescriptor} (h : xpar Z b = true) (hs : parseMethodDescriptor (xnm Z).desc = some sig) : b = sig.parameters.length := by
  have h1 := of_decide_eq_true h
  rw [hs] at h1
  exact (Option.some.inj h1).symm
theorem x_entS {own : String} {bytes : ByteArray} (X : Stand p l e R s m args below meth c T locs cells slots) (hx : p.tables.exec = Jvm.exec) (hb : c.code = bytes) (hown : s.vm.findClass own = some m.cls) (hw : xWd WL s) {Z : xM} (hgz : ∃ hs, xmok WL cl Z hs = true) {p0 k b pc : Nat} (hlink : xlink WL host own p0 k (xnm Z) = true)
    (hst : (Cond.static (xnm Z)) ∈ WL) (hpar : xpar Z b = true) {as rest : List Value} (hlen : as.length = b) {mk : MethodId} (hmk : s.methodNamed? (xnm Z) = some mk) {ls : Array Slot} (hd : decode bytes pc = .ok (.invokestatic k, 3)) :
    ∃ vm₁, s.WarmedH vm₁ ∧ Stand p l e R s m args below meth c (T.setVm vm₁) locs cells slots ∧
      ∀ target, (∀ acts, Steps p.tables e below (doInvoke e ((T.setVm vm₁).setTop (F0 m pc ls rest)) acts mk as.toArray).1 target) → Steps p.tables e below (T.setTop (F0 m pc ls (as.reverse ++ rest))) target := by
  obtain ⟨hs, hokZ⟩ := hgz
  obtain ⟨mk', methZ, cZ, q1, q2, q3, q4, q5, q6, q7, q8, q9, ⟨kZ, qk, qi⟩, q10, q11⟩ := x_mfacts (s := s) hokZ hw
  cases hmk.symm.trans q1
  have hstatic : methZ.isStatic = true := Cond.static_spec q1 q2 (hw _ hst args s (State.WarmedH.refl s))
  have hl' : as.length = methZ.sig.parameters.length := hlen.trans (xpar_len hpar q9)
  simp only [xlink, Bool.or_eq_true] at hlink
  rcases hlink with hlk | hlk
  · obtain ⟨vm', X', st⟩ := X.invokestatic hx hown (hw _ (xin_mem hlk) args s (State.WarmedH.refl s)) q1 q2 hstatic qk qi q11 (g := F0 m pc ls (as.reverse ++ rest)) rfl (argsL := as) (rest := rest) hl' rfl (by rw [hb]; exact hd)
    exact ⟨vm', X'.warmed, X', st⟩
  · obtain ⟨vm', X', st⟩ := X.invokestaticNest hx hown (hw _ (xin_mem hlk) args s (State.WarmedH.refl s)) q1 q2 hstatic qk qi q11 (g := F0 m pc ls (as.reverse ++ rest)) rfl (argsL := as) (rest := rest) hl' rfl (by rw [hb]; exact hd)
    exact ⟨vm', X'.warmed, X', st⟩
theorem x_entV {own : String} {bytes : ByteArray} (X : Stand p l e R s m args below meth c T locs cells slots) (hx : p.tables.exec = Jvm.exec) (hb : c.code = bytes) (hown : s.vm.findClass own = some m.cls) (hw : xWd WL s) {Z : xM} (hgz : ∃ hs, xmok WL cl Z hs = true) {p0 k b pc : Nat} (hlink : xlink WL host own p0 k (xnm Z) = true)
    (hin : (Cond.instanceMethod (xnm Z)) ∈ WL) (hsel : (Cond.selects (xnm Z).cls (xnm Z) (xnm Z)) ∈ WL) (hpar : xpar Z b = true) {o : Nat} {as rest : List Value} (hlen : as.length = b) {mk : MethodId} (hmk : s.methodNamed? (xnm Z) = some mk) {ls : Array Slot}
    {cellB : Cell} (hcell : T.heap[o]? = some cellB) (hobj : cellB.vm.isStatics = false) (hcls : s.vm.findClass (xnm Z).cls = some cellB.cls) (hd : decode bytes pc = .ok (.invokevirtual k, 3)) :
    ∃ vm₁, s.WarmedH vm₁ ∧ Stand p l e R s m args below meth c (T.setVm vm₁) locs cells slots ∧
      ∀ target, (∀ acts, Steps p.tables e below (doInvoke e ((T.setVm vm₁).setTop (F0 m pc ls rest)) acts mk (Value.ref o :: as).toArray).1 target) → Steps p.tables e below (T.setTop (F0 m pc ls ((Value.ref o :: as).reverse ++ rest))) target := by
  obtain ⟨hs, hokZ⟩ := hgz
  obtain ⟨mk', methZ, cZ, q1, q2, q3, q4, q5, q6, q7, q8, q9, ⟨kZ, qk, qi⟩, q10, q11⟩ := x_mfacts (s := s) hokZ hw
  cases hmk.symm.trans q1
  obtain ⟨mk2, meth2, i1, i2, i3, i4⟩ := Cond.instanceMethod_spec (hw _ hin args s (State.WarmedH.refl s))
  cases q1.symm.trans i1
  cases q2.symm.trans i2
  have hl' : as.length = methZ.sig.parameters.length := hlen.trans (xpar_len hpar q9)
  obtain ⟨c2, r2, m2, z1, z2, z3, z4, kP, hkP, hkPi⟩ := Cond.selects_spec (hw _ hsel args s (State.WarmedH.refl s))
  cases hcls.symm.trans z1
  cases (State.methodFound?_of_named q1 q11).symm.trans z2
  cases q1.symm.trans z3
  have hselP : selectMethod e.platform s.vm cellB.cls mk = .method mk := by rw [Launch.admits_selectMethod X.admits]; exact z4
  have hstk : (F0 m pc ls ((Value.ref o :: as).reverse ++ rest)).stack = as.reverse ++ .ref o :: rest := by show (Value.ref o :: as).reverse ++ rest = _; simp
  simp only [xlink, Bool.or_eq_true] at hlink
  rcases hlink with hlk | hlk
  · obtain ⟨vm', X', st⟩ := X.invokevirtual hx hown (hw _ (xin_mem hlk) args s (State.WarmedH.refl s)) q1 q2 i3 hkP hkPi q11 (a := o) (cell := cellB) hcell (fun z h => by rw [h] at hobj; cases hobj) hselP q2 i4 hkP hkPi (g := F0 m pc ls ((Value.ref o :: as).reverse ++ rest)) rfl (argsL := as) (rest := rest) hl' hstk (by rw [hb]; exact hd)
    exact ⟨vm', X'.warmed, X', st⟩
  · obtain ⟨vm', X', st⟩ := X.invokevirtualNest hx hown (hw _ (xin_mem hlk) args s (State.WarmedH.refl s)) q1 q2 i3 hkP hkPi q11 (a := o) (cell := cellB) hcell (fun z h => by rw [h] at hobj; cases hobj) hselP q2 i4 hkP hkPi (g := F0 m pc ls ((Value.ref o :: as).reverse ++ rest)) rfl (argsL := as) (rest := rest) hl' hstk (by rw [hb]; exact hd)
    exact ⟨vm', X'.warmed, X', st⟩
theorem x_entI {own : String} {bytes : ByteArray} (X : Stand p l e R s m args below meth c T locs cells slots) (hx : p.tables.exec = Jvm.exec) (hb : c.code = bytes) (hown : s.vm.findClass own = some m.cls) (hw : xWd WL s) {Z : xM} (hgz : ∃ hs, xmok WL cl Z hs = true) {p0 k b pc : Nat} (hlink : xlink WL host own p0 k (xnm Z) = true)
    (hin : (Cond.instanceMethod (xnm Z)) ∈ WL) (hname : (xnm Z).name = "<init>") (hhs : xhs Z = []) (hrt : xrt Z = none) (hpar : xpar Z b = true) {o : Nat} {as rest : List Value} (hlen : as.length = b) {mk : MethodId} (hmk : s.methodNamed? (xnm Z) = some mk) {ls : Array Slot} (hd : decode bytes pc = .ok (.invokespecial k, 3)) :
    ∃ vm₁, s.WarmedH vm₁ ∧ Stand p l e R s m args below meth c (T.setVm vm₁) locs cells slots ∧
      ∀ target, (∀ acts, Steps p.tables e below (doInvoke e ((T.setVm vm₁).setTop (F0 m pc ls rest)) acts mk (Value.ref o :: as).toArray).1 target) → Steps p.tables e below (T.setTop (F0 m pc ls ((Value.ref o :: as).reverse ++ rest))) target := by
  obtain ⟨hs, hokZ⟩ := hgz
  obtain ⟨mk', methZ, cZ, q1, q2, q3, q4, q5, q6, q7, q8, q9, ⟨kZ, qk, qi⟩, q10, q11⟩ := x_mfacts (s := s) hokZ hw
  cases hmk.symm.trans q1
  have hcode : (Cond.code (xnm Z) (xby Z) (xml Z) none) ∈ WL := by
    simp only [xmok, Bool.and_eq_true, hhs, hrt] at hokZ
    exact xin_mem hokZ.1.1.2
  have hpl : e.platform.magicAccessors = ({} : Platform).magicAccessors := by rw [X.admits.platform]
  have hstk : (F0 m pc ls ((Value.ref o :: as).reverse ++ rest)).stack = as.reverse ++ .ref o :: rest := by show (Value.ref o :: as).reverse ++ rest = _; simp
  have hl' : ∀ sig, parseMethodDescriptor (xnm Z).desc = some sig → as.length = sig.parameters.length := fun sig h => hlen.trans (xpar_len hpar h)
  simp only [xlink, Bool.or_eq_true] at hlink
  rcases hlink with hlk | hlk
  · obtain ⟨tm, methM, cM, kP, vm₁, hnamed, hmethM, hcodeM, -, hlocalsM, -, hkP, -, hW₁, hstep₁⟩ := Steps.initColdArgs (e := e) X.here hx X.warmed hpl hown hname q11 (hw _ (xin_mem hlk) args s (State.WarmedH.refl s)) (hw _ hin args s (State.WarmedH.refl s)) (hw _ hcode args s (State.WarmedH.refl s)) (f := F0 m pc ls ((Value.ref o :: as).reverse ++ rest)) rfl hl' hstk (by rw [hb]; exact hd)
    cases q1.symm.trans hnamed
    exact ⟨vm₁, hW₁, X.noted hW₁, hstep₁⟩
  · obtain ⟨tm, methM, cM, kP, vm₁, hnamed, hmethM, hcodeM, -, hlocalsM, -, hkP, -, hW₁, hstep₁⟩ := Steps.initColdArgsNest (e := e) X.here hx X.warmed hpl hown hname q11 (hw _ (xin_mem hlk) args s (State.WarmedH.refl s)) (hw _ hin args s (State.WarmedH.refl s)) (hw _ hcode args s (State.WarmedH.refl s)) (f := F0 m pc ls ((Value.ref o :: as).reverse ++ rest)) rfl hl' hstk (by rw [hb]; exact hd)
    cases q1.symm.trans hnamed
    exact ⟨vm₁, hW₁, X.noted hW₁, hstep₁⟩
end XEN
/-! an array of int arrays: the outer cell with its first i places filled; the heap on the way -/
def xgo (cA : ClassId) (n h0 i : Nat) : Cell := arrV cA n (fun j => va_rf (if j < i then some (h0 + 1 + j) else none))
abbrev xgi (comp : ClassId) (k : Nat) : Cell := arrV comp k (fun _ => Value.int 0)
def xgr (T : State) (cA comp : ClassId) (n k : Nat) (i : Nat) : State :=
  Nat.rec (T.pushCell (xgo cA n T.heap.size 0)) (fun i S => (S.pushCell (xgi comp k)).setCell T.heap.size (xgo cA n T.heap.size (i + 1))) i
theorem xgr_0 (T : State) (cA comp : ClassId) (n k : Nat) : xgr T cA comp n k 0 = T.pushCell (xgo cA n T.heap.size 0) := rfl
theorem xgo_zero (cA : ClassId) (n h0 : Nat) : ({ cls := cA, slots := Array.replicate n Value.null, vm := .none } : Cell) = xgo cA n h0 0 := by
  rw [arrV_new]
  unfold xgo
  congr 1
theorem xgo_next (cA : ClassId) (n h0 i : Nat) : (xgo cA n h0 i).setSlot i (.ref (h0 + 1 + i)) = xgo cA n h0 (i + 1) := by
  unfold xgo
  rw [arrV_store]
  congr 1
  funext j
  unfold updV
  by_cases hj : j = i
  · subst hj
    simp [va_rf]
  · by_cases h2 : j < i
    · simp [hj, h2, Nat.lt_succ_of_lt h2]
    · have h3 : ¬ j < i + 1 := by omega
      simp [hj, h2, h3]
theorem xgr_facts (T : State) (cA comp : ClassId) (n k : Nat) (i : Nat) : (xgr T cA comp n k i).heap.size = T.heap.size + 1 + i ∧ (xgr T cA comp n k i).heap[T.heap.size]? = some (xgo cA n T.heap.size i) ∧ (∀ q, q < T.heap.size → (xgr T cA comp n k i).heap[q]? = T.heap[q]?) ∧
    (∀ j, j < i → (xgr T cA comp n k i).heap[T.heap.size + 1 + j]? = some (xgi comp k)) ∧ (xgr T cA comp n k i).vm = T.vm ∧ (xgr T cA comp n k i).slotsUsed = T.slotsUsed + n + i * k := by
  induction i with
  | zero =>
    rw [xgr_0]
    exact ⟨by simp, by simp, fun q hq => State.heap_pushCell_of_lt _ _ hq, fun j hj => absurd hj (Nat.not_lt_zero _), rfl, by simp [xgo, arrV_size]⟩
  | succ i ih =>
    obtain ⟨a1, a2, a3, a4, a5, a6⟩ := ih
    have es : xgr T cA comp n k (i + 1) = ((xgr T cA comp n k i).pushCell (xgi comp k)).setCell T.heap.size (xgo cA n T.heap.size (i + 1)) := rfl
    rw [es]
    have low : ∀ q, q < T.heap.size + 1 + i → ((xgr T cA comp n k i).pushCell (xgi comp k)).heap[q]? = (xgr T cA comp n k i).heap[q]? := fun q hq => State.heap_pushCell_of_lt _ _ (by rw [a1]; exact hq)
    have off : ∀ q, q ≠ T.heap.size → (((xgr T cA comp n k i).pushCell (xgi comp k)).setCell T.heap.size (xgo cA n T.heap.size (i + 1))).heap[q]? = ((xgr T cA comp n k i).pushCell (xgi comp k)).heap[q]? := fun q hq => State.heap_setCell_other (Ne.symm hq)
    refine ⟨?_, State.heap_setCell_self ((low T.heap.size (by omega)).trans a2), fun q hq => ?_, fun j hj => ?_, ?_, ?_⟩
    · simp [State.setCell, a1]; omega
    · rw [off q (by omega), low q (by omega), a3 q hq]
    · rw [off _ (by omega)]
      by_cases h : j < i
      · rw [low _ (by omega), a4 j h]
      · rw [show T.heap.size + 1 + j = (xgr T cA comp n k i).heap.size by rw [a1]; omega]
        exact State.heap_pushCell_size _ _
    · simp [a5]
    · simp [a6, xgi, arrV_size, Nat.succ_mul]; omega
theorem xgr_top (T : State) (f : JFrame) (cA comp : ClassId) (n k : Nat) (i : Nat) : xgr (T.setTop f) cA comp n k i = (xgr T cA comp n k i).setTop f := by
  induction i with
  | zero => rfl
  | succ i ih =>
    show ((xgr (T.setTop f) cA comp n k i).pushCell (xgi comp k)).setCell T.heap.size (xgo cA n T.heap.size (i + 1)) = (((xgr T cA comp n k i).pushCell (xgi comp k)).setCell T.heap.size (xgo cA n T.heap.size (i + 1))).setTop f
    rw [ih, State.pushCell_setTop, State.setCell_setTop]
section XGW
variable {E : CtlPost} {e : Env} {d : Bool} {acts : List Action} {s : State}
theorem xg_row {comp cc : ClassId} {kc : Class} {k : Int32} (h1 : s.vm.classes[comp]? = some kc) (h2 : kc.kind = .array cc .int) (hk : ¬ k < 0) (l1 : ¬ k.toNatClampNeg > e.platform.arrayLengthLimit) (l2 : ¬ k.toNatClampNeg * componentBytes .int > e.platform.maxHeapBytes)
    (r1 : s.heap.size < e.platform.maxCells) (r2 : s.slotsUsed + k.toNatClampNeg ≤ e.platform.maxSlots) {Q : Addr → Pre} (hq : ∀ acts', Q s.heap.size d acts' (s.pushCell (xgi comp k.toNatClampNeg))) : wp (multianewarray.make comp [k]) Q E e d acts s := by
  rw [multianewarray.make]
  simp only [wp_bind', W.ite, hk, if_false, wp_pure', W.theClass, h1, h2, Option.some.injEq, exists_eq_left']
  refine W.newArray_of h1 h2 l1 l2 r1 r2 rfl (fun acts' => ?_)
  have := hq acts'
  rw [xgi, ← arrV_new] at this
  exact this
theorem xg_all {cA comp cc : ClassId} {kA kc : Class} {n k : Int32} (a1 : s.vm.classes[cA]? = some kA) (a2 : kA.kind = .array comp (.array .int)) (h1 : s.vm.classes[comp]? = some kc) (h2 : kc.kind = .array cc .int) (hn : ¬ n < 0) (hk : ¬ k < 0)
    (m1 : ¬ n.toNatClampNeg > e.platform.arrayLengthLimit) (m2 : ¬ n.toNatClampNeg * componentBytes (.array .int) > e.platform.maxHeapBytes) (l1 : ¬ k.toNatClampNeg > e.platform.arrayLengthLimit) (l2 : ¬ k.toNatClampNeg * componentBytes .int > e.platform.maxHeapBytes)
    (r1 : s.heap.size + (1 + n.toNatClampNeg) ≤ e.platform.maxCells) (r2 : s.slotsUsed + (n.toNatClampNeg + n.toNatClampNeg * k.toNatClampNeg) ≤ e.platform.maxSlots) {Q : Addr → Pre} (hq : ∀ d' acts', Q s.heap.size d' acts' (xgr s cA comp n.toNatClampNeg k.toNatClampNeg n.toNatClampNeg)) : wp (multianewarray.make cA [n, k]) Q E e d acts s := by
  have none0 : ([k].find? (· < 0)) = none := by simp [hk]
  rw [multianewarray.make]
  simp only [wp_bind', W.ite, hn, if_false, wp_pure', W.theClass, a1, a2, Option.some.injEq, exists_eq_left']
  refine W.newArray_of a1 a2 m1 m2 (by omega) (by have := Nat.zero_le (n.toNatClampNeg * k.toNatClampNeg); omega) rfl (fun acts1 => ?_)
  rw [xgo_zero cA n.toNatClampNeg s.heap.size]
  simp only [none0]
  rw [ite_self, wp_bind', Std.Legacy.Range.forIn_eq_forIn_range']
  have hsz : ([:n.toNatClampNeg] : Std.Legacy.Range).size = n.toNatClampNeg := by simp [Std.Legacy.Range.size]
  rw [hsz]
  show wp (forIn (List.range' 0 n.toNatClampNeg 1) PUnit.unit _) _ E e d acts1 _
  refine wp_forIn_inv (fun r u => r.length ≤ n.toNatClampNeg ∧ r = List.range' (n.toNatClampNeg - r.length) r.length ∧ u = xgr s cA comp n.toNatClampNeg k.toNatClampNeg (n.toNatClampNeg - r.length)) _ _ ⟨by simp, by simp, by simp [xgr_0]⟩ ?_ ?_
  · intro x r u d' acts' Q' hI hnext
    obtain ⟨i1, i2, i3⟩ := hI
    rw [List.length_cons] at i1 i2 i3
    rw [List.range'_succ] at i2
    obtain ⟨i4, i5⟩ := List.cons.inj i2
    have ei : n.toNatClampNeg - (r.length + 1) + 1 = n.toNatClampNeg - r.length := by omega
    rw [ei] at i5
    rw [← i4] at i3 ei
    obtain ⟨f1, f2, f3, f4, f5, f6⟩ := xgr_facts s cA comp n.toNatClampNeg k.toNatClampNeg x
    have hx : x < n.toNatClampNeg := by omega
    have hm : (x + 1) * k.toNatClampNeg ≤ n.toNatClampNeg * k.toNatClampNeg := Nat.mul_le_mul_right _ hx
    rw [Nat.succ_mul] at hm
    rw [i3]
    simp only [wp_bind']
    refine xg_row (by rw [f5]; exact h1) h2 hk l1 l2 (by rw [f1]; omega) (by rw [f6]; omega) (fun acts2 => ?_)
    simp only [wp_bind', W.writeLoc, wp_pure']
    have c0 : ((xgr s cA comp n.toNatClampNeg k.toNatClampNeg x).pushCell (xgi comp k.toNatClampNeg)).heap[s.heap.size]? = some (xgo cA n.toNatClampNeg s.heap.size x) := by
      have hlt : s.heap.size < (xgr s cA comp n.toNatClampNeg k.toNatClampNeg x).heap.size := by rw [f1]; omega
      rw [State.heap_pushCell_of_lt _ _ hlt]; exact f2
    refine ⟨xgo cA n.toNatClampNeg s.heap.size x, c0, (fun z => by cases z), (by unfold xgo; rw [arrV_size]; exact hx), ?_, hnext _ _ _ ⟨by omega, i5, ?_⟩⟩
    · show State.fitsSlot _ cA .none x _ = true
      simp [State.fitsSlot, State.slotType?, f5, a1, a2, fits]
    · rw [f1, xgo_next, ← ei]
      rfl
  · intro u d' acts' hI
    obtain ⟨-, -, i3⟩ := hI
    rw [i3]
    simp only [wp_pure']
    exact hq _ _
end XGW
section XCP
variable {p : Program} {l : Launch} {e : Env} {R : Room} {s : State} {m : MethodId} {args : Array Value} {below : List Frame} {meth : Method} {c : Code} {H : Heap} {locs : List Loc} {cells slots : Nat} {Q : State → Prop}
variable {cc : ByteArray} {pc : Nat} {ls : Array Slot} {rest : List Value} {D : va_G} {cl : List vw_C} {H0 : Heap} {h : xH}
theorem xclamp {z : Int32} (hz : ¬ z < 0) : z.toInt = (z.toNatClampNeg : Int) := by
  have hz0 : (0 : Int) ≤ z.toInt := by
    have := Int32.not_lt.mp hz
    simpa using Int32.le_iff_toInt_le.mp this
  show z.toInt = ((z.toInt.toNat : Nat) : Int)
  omega
theorem xw_copy (hx : p.tables.exec = Jvm.exec) (hb : c.code = cc) (hml : c.maxLocals = ls.size) {own : String} {index : Nat} (hown : s.vm.findClass own = some m.cls) (hlink : (Cond.methodLink own index arraycopyName).before args s = true) (hnat : (Cond.native arraycopyName).before args s = true) (hstat : (Cond.static arraycopyName).before args s = true) (hini : (Cond.initialized "java/lang/System").before args s = true)
    (hR : xHR D cl H0 s h H) (hl : ∀ q ∈ locs, H0.size ≤ q.base) {a0 a n0 n1 : Nat} {f g : Nat → Int32} (ha0 : h.1 a0 = some (.inl (0, n0, .inl f))) (ha1 : h.1 a = some (.inl (0, n1, .inl g))) {sp dp n : Int32} (h1 : ¬ sp < 0) (h2 : ¬ dp < 0) (h3 : ¬ n < 0) (h4 : sp.toNatClampNeg + n.toNatClampNeg ≤ n0) (h5 : dp.toNatClampNeg + n.toNatClampNeg ≤ n1)
    (hframes : 1 ≤ R.frames) (hlocals : (rest.map fun v => v.category).sum + (nativeFrameWords "java/lang/System" "arraycopy" 5 + 11) ≤ R.locals) (hdg : decode cc pc = .ok (.invokestatic index, 3))
    (kk : ∀ (H1 : Heap) (locs1 : List Loc), xHR D cl H0 s (xset h a (xA 0 n1 (xint (va_cpy f g sp.toNatClampNeg dp.toNatClampNeg n.toNatClampNeg)))) H1 → (∀ q ∈ locs1, H0.size ≤ q.base) → W p l e R s m args below meth c H1 locs1 cells slots Q (F0 m (pc + 3) ls rest)) :
    W p l e R s m args below meth c H locs cells slots Q (F0 m pc ls (.int n :: .int dp :: .ref a :: .int sp :: .ref a0 :: rest)) := by
  intro T hT X
  rcases (hR.2.2.2 a0 _ ha0).1 with ⟨z0, -⟩ | ⟨-, c0, e0, r0, w0⟩
  · exact absurd (show (0 : Nat) = 3 from z0) (by decide)
  rcases (hR.2.2.2 a _ ha1).1 with ⟨z0, -⟩ | ⟨-, c1, e1, r1, w1⟩
  · exact absurd (show (0 : Nat) = 3 from z0) (by decide)
  have e0 : H[a0]? = some (arrV c0 n0 (fun j => .int (f j))) := e0
  have e1 : H[a]? = some (arrV c1 n1 (fun j => .int (g j))) := e1
  obtain ⟨-, k0, hk0, cm0, hkk0⟩ := r0 n0 (fun j => .int (f j))
  obtain ⟨-, k1, hk1, cm1, hkk1⟩ := r1 n1 (fun j => .int (g j))
  obtain ⟨vm', X', step⟩ := X.arraycopy hx hown hlink hnat hstat hini (src := a0) (dst := a) (cs := arrV c0 n0 (fun j => .int (f j))) (cd := arrV c1 n1 (fun j => .int (g j))) (srcPos := sp) (destPos := dp) (n := n) (by rw [hT]; exact e0) (by rw [hT]; exact e1)
    (fun _ z => by cases z) (fun _ z => by cases z) (fun z => by cases z) (fun z => by cases z) hk0 hk1 hkk0 hkk1 (by rfl) h1 h2 h3
    (by rw [xclamp h1, xclamp h3, arrV_size]; omega) (by rw [xclamp h2, xclamp h3, arrV_size]; omega)
    (fun vm₁ _ i hi => by
      have q : (arrV c0 n0 (fun j => Value.int (f j))).slots.getD (sp.toNatClampNeg + i) .null = .int (f (sp.toNatClampNeg + i)) := by
        rw [Array.getD_eq_getD_getElem?, arrV_read _ _ (by omega)]
        rfl
      rw [q]
      exact ⟨rfl, trivial⟩)
    (g := F0 m pc ls (.int n :: .int dp :: .ref a :: .int sp :: .ref a0 :: rest)) rfl (by rw [hml]) (rest := rest) rfl (by rw [hb]; exact hdg) hframes (by show 2 * 0 + _ + _ ≤ _; omega)
  have eq1 : copied (arrV c0 n0 (fun j => .int (f j))) (arrV c1 n1 (fun j => .int (g j))) sp dp n = arrV c1 n1 (fun j => .int (va_cpy f g sp.toNatClampNeg dp.toNatClampNeg n.toNatClampNeg j)) := va_copied (fun z => .int z) c0 c1 f g h4
  rw [eq1] at X' step
  have hlt : a < T.heap.size := by rw [hT]; exact (Array.getElem?_eq_some_iff.mp e1).1
  have old := hR.old ha1 (xro3 (by decide))
  obtain ⟨t, t1, t2⟩ := kk ((T.setVm vm').setCell a (arrV c1 n1 (fun j => .int (va_cpy f g sp.toNatClampNeg dp.toNatClampNeg n.toNatClampNeg j)))).heap _
    (hR.set ha1 (xro3 (by decide)) (Or.inr ⟨show (0 : Nat) ≠ 3 by decide, c1, heapAt_setCell_self (s := T.setVm vm') _ hlt, r1, w1⟩) (by rw [size_setCell]; show T.heap.size = _; rw [hT]) (fun q hq => by rw [heapAt_setCell_ne _ (Ne.symm hq)]; show T.heap[q]? = _; rw [hT]))
    (fun q hq => by
      rcases List.mem_append.mp hq with z | z
      · exact hl q z
      · obtain ⟨y, -, hy⟩ := List.mem_map.mp z
        rw [← hy]
        exact old) _ rfl X'
  exact ⟨t, step t t1, t2⟩
/-- an array of arrays -/
theorem xw_grid (hx : p.tables.exec = Jvm.exec) (hb : c.code = cc) (hR : xHR D cl H0 s h H) (hl : ∀ q ∈ locs, H0.size ≤ q.base) {own : String} {idx : Nat} (hown : s.vm.findClass own = some m.cls) (hclink : (Cond.classLink own idx "[[I").before args s = true) (hover : (Cond.arrayOver (.array .int)).before args s = true) (harr : (Cond.arrayClass .int).before args s = true)
    {n k : Int32} (hn : ¬ n < 0) (hk : ¬ k < 0) (hn' : n.toNatClampNeg ≤ 1000) (hk' : k.toNatClampNeg ≤ 1000000) (hcells : cells + (1 + n.toNatClampNeg) ≤ R.cells) (hslots : slots + (n.toNatClampNeg + n.toNatClampNeg * k.toNatClampNeg) ≤ R.slots) (hd : decode cc pc = .ok (.multianewarray idx 2, 4))
    (kk : ∀ (H1 : Heap) (locs1 : List Loc), xHR D cl H0 s (xgrid h 4 0 n.toNatClampNeg k.toNatClampNeg) H1 → (∀ q ∈ locs1, H0.size ≤ q.base) → W p l e R s m args below meth c H1 locs1 (cells + (1 + n.toNatClampNeg)) (slots + (n.toNatClampNeg + n.toNatClampNeg * k.toNatClampNeg)) Q (F0 m (pc + 4) ls (.ref h.2.1 :: rest))) :
    W p l e R s m args below meth c H locs cells slots Q (F0 m pc ls (.int k :: .int n :: rest)) := by
  intro T hT X
  subst hb
  have hpl : e.platform.magicAccessors = ({} : Platform).magicAccessors := by rw [X.admits.platform]
  obtain ⟨comp, cA, kA, b1, -, b2, b3, b4⟩ := arrayOverA_spec hover
  obtain ⟨comp', kC, cc', d1, d2, d3⟩ := Cond.arrayClass_spec harr
  cases (show s.vm.findClass "[I" = some comp from b1).symm.trans (show s.vm.findClass "[I" = some comp' from d1)
  obtain ⟨c0, g1, g2⟩ := Cond.classLink_spec hown hclink e.platform hpl
  cases (show s.vm.findClass "[[I" = some cA from b4).symm.trans g1
  obtain ⟨hg1, hwarm, hready⟩ := State.classEntry (e := e) X.warmed g2
  generalize T.vm.noted m.cls idx (.cls cA) = vm1 at hg1 hwarm hready
  have hal : s.vm.Alike vm1 := hwarm.alike
  obtain ⟨kA1, y1, y2⟩ := hal.2.2 _ _ b2
  obtain ⟨kC1, z1, z2⟩ := hal.2.2 _ _ d2
  have y3 : kA1.kind = .array comp (.array .int) := by rw [y2]; exact b3
  have z3 : kC1.kind = .array cc' .int := by rw [z2]; exact d3
  have X1 := X.noted hwarm
  obtain ⟨r1, r2⟩ := X.roomAbove hcells hslots
  have XF : ∀ i, ∃ lx : List Loc, (∀ q ∈ lx, H0.size ≤ q.base) ∧ Stand p l e R s m args below meth c (xgr (T.setVm vm1) cA comp n.toNatClampNeg k.toNatClampNeg i) lx (cells + (1 + i)) (slots + (n.toNatClampNeg + i * k.toNatClampNeg)) := by
    intro i
    induction i with
    | zero =>
      refine ⟨locs, hl, ?_⟩
      have h0 := X1.pushed (xgo cA n.toNatClampNeg (T.setVm vm1).heap.size 0)
      have e0 : (xgo cA n.toNatClampNeg (T.setVm vm1).heap.size 0).slots.size = n.toNatClampNeg := by unfold xgo; rw [arrV_size]
      rw [e0] at h0
      rw [xgr_0]
      simpa using h0
    | succ i ih =>
      obtain ⟨lx, lx1, lx2⟩ := ih
      obtain ⟨f1, f2, f3, f4, f5, f6⟩ := xgr_facts (T.setVm vm1) cA comp n.toNatClampNeg k.toNatClampNeg i
      have c0 : ((xgr (T.setVm vm1) cA comp n.toNatClampNeg k.toNatClampNeg i).pushCell (xgi comp k.toNatClampNeg)).heap[(T.setVm vm1).heap.size]? = some (xgo cA n.toNatClampNeg (T.setVm vm1).heap.size i) := by
        have hlt : (T.setVm vm1).heap.size < (xgr (T.setVm vm1) cA comp n.toNatClampNeg k.toNatClampNeg i).heap.size := by rw [f1]; omega
        rw [State.heap_pushCell_of_lt _ _ hlt]; exact f2
      have h1 := (lx2.pushed (xgi comp k.toNatClampNeg)).stored c0 i (.ref ((T.setVm vm1).heap.size + 1 + i))
      rw [xgo_next, arrV_size] at h1
      refine ⟨_, ?_, by
        rw [show cells + (1 + (i + 1)) = cells + (1 + i) + 1 by omega, show slots + (n.toNatClampNeg + (i + 1) * k.toNatClampNeg) = slots + (n.toNatClampNeg + i * k.toNatClampNeg) + k.toNatClampNeg by rw [Nat.succ_mul]; omega]
        exact h1⟩
      intro q hq
      rcases List.mem_append.mp hq with z | z
      · exact lx1 q z
      · rw [List.mem_singleton.mp z]
        show H0.size ≤ T.heap.size
        rw [hT]
        exact hR.2.1
  obtain ⟨lx, lx1, lx2⟩ := XF n.toNatClampNeg
  obtain ⟨f1, f2, f3, f4, f5, f6⟩ := xgr_facts (T.setVm vm1) cA comp n.toNatClampNeg k.toNatClampNeg n.toNatClampNeg
  have hs0 : (T.setVm vm1).heap.size = h.2.1 := by show T.heap.size = _; rw [hT]; exact hR.1
  have hh0 : ∀ q : Nat, q < h.2.1 → (xgr (T.setVm vm1) cA comp n.toNatClampNeg k.toNatClampNeg n.toNatClampNeg).heap[q]? = H[q]? := fun q hq => by
    rw [f3 q (by rw [hs0]; exact hq)]
    show T.heap[q]? = _
    rw [hT]
  rw [hs0] at f1 f2 f3 f4
  have hHR : xHR D cl H0 s (xgrid h 4 0 n.toNatClampNeg k.toNatClampNeg) (xgr (T.setVm vm1) cA comp n.toNatClampNeg k.toNatClampNeg n.toNatClampNeg).heap := by
    refine ⟨f1, by rw [f1]; have := hR.2.1; rw [hR.1] at this; omega, fun q hq => ?_, fun q ex hq => ?_⟩
    · have := hR.2.1
      rw [hR.1] at this
      rw [hh0 q (by omega)]
      exact hR.2.2.1 q hq
    · have hb0 := hR.2.1
      rw [hR.1] at hb0
      unfold xgrid at hq
      dsimp only at hq
      by_cases q1 : q = h.2.1
      · rw [if_pos q1] at hq
        cases hq
        refine ⟨Or.inr ⟨by show (4 : Nat) ≠ 3; decide, cA, ?_, ?_, ?_⟩, Or.inr (by omega)⟩
        · rw [q1, f2]
          have : xgo cA n.toNatClampNeg h.2.1 n.toNatClampNeg = arrV cA n.toNatClampNeg (xvl (xref (fun j => if j < n.toNatClampNeg then some (h.2.1 + 1 + j) else none))) := rfl
          rw [this]
        · exact fun N z => ⟨(fun k h => by cases h), kA, b2, comp, b3⟩
        · exact b4
      · rw [if_neg q1] at hq
        by_cases q2 : h.2.1 < q ∧ q ≤ h.2.1 + n.toNatClampNeg
        · rw [if_pos q2] at hq
          cases hq
          refine ⟨Or.inr ⟨by show (0 : Nat) ≠ 3; decide, comp, ?_, ?_, ?_⟩, Or.inr (by omega)⟩
          · have := f4 (q - (h.2.1 + 1)) (by omega)
            rw [show h.2.1 + 1 + (q - (h.2.1 + 1)) = q by omega] at this
            rw [this]
            rfl
          · exact fun N z => ⟨(fun k h => by cases h), kC, d2, cc', d3⟩
          · exact d1
        · rw [if_neg q2] at hq
          have hlt := hR.lt hq
          rw [hR.1] at hlt
          exact ⟨(hR.2.2.2 q ex hq).1.kept (hh0 q hlt), (hR.2.2.2 q ex hq).2⟩
  obtain ⟨t, t1, t2⟩ := kk _ lx hHR lx1 _ rfl lx2
  · refine ⟨t, ?_, t2⟩
    have l1 : ¬ n.toNatClampNeg > e.platform.arrayLengthLimit := by rw [Launch.admits_arrayLengthLimit X.admits]; omega
    have l2 : ¬ n.toNatClampNeg * componentBytes (.array .int) > e.platform.maxHeapBytes := by
      rw [Launch.admits_maxHeapBytes X.admits]; show ¬ n.toNatClampNeg * 4 > 536870912; omega
    have l3 : ¬ k.toNatClampNeg > e.platform.arrayLengthLimit := by rw [Launch.admits_arrayLengthLimit X.admits]; omega
    have l4 : ¬ k.toNatClampNeg * componentBytes .int > e.platform.maxHeapBytes := by
      rw [Launch.admits_maxHeapBytes X.admits]; show ¬ k.toNatClampNeg * 4 > 536870912; omega
    jvm_step X.here [hx, show decode c.code (F0 m pc ls (.int k :: .int n :: rest)).pc = .ok (.multianewarray idx 2, 4) from hd]
    simp only [multianewarray.sem, wp_bind', W.resolveClassAt_links (State.method?_setTop (F0 m pc ls (.int k :: .int n :: rest)) X.here.top) hg1]
    rw [W.popN, if_neg (by decide)]
    refine ⟨F0 m pc ls (.int k :: .int n :: rest), State.topJava?_setTop' (s := T.setVm vm1) _ X.here.top, [.int n, .int k], rest, rfl, rfl, ?_⟩
    simp only [List.mapM_cons, List.mapM_nil, wp_bind', wp_pure']
    refine xg_all (kA := kA1) (kc := kC1) (comp := comp) (cc := cc') y1 y3 z1 z3 hn hk l1 l2 l3 l4 (by show T.heap.size + _ ≤ _; omega) (by show T.slotsUsed + _ ≤ _; omega) (fun d' acts' => ?_)
    have eS : ((T.setTop (F0 m pc ls (.int k :: .int n :: rest))).setVm vm1).setTop { F0 m pc ls (.int k :: .int n :: rest) with stack := rest } = (T.setVm vm1).setTop { F0 m pc ls (.int k :: .int n :: rest) with stack := rest } := by
      show ((T.setVm vm1).setTop _).setTop _ = _
      rw [State.setTop_setTop]
    rw [eS, xgr_top]
    simp only [wp_bind', W.mark, W.pushRef, State.topJava?_setTop' _ lx2.here.top, Option.some.injEq, exists_eq_left', State.setTop_setTop, State.heap_setTop]
    intro acts
    simp [jvm, lx2.here.top]
    rw [← hs0] at t1
    exact t1
end XCP
/-- a making and a throw -/
def xThr (l : Launch) (D : va_G) (cl : List vw_C) (H0 : Heap) (V : Nat → Value) (G : Nat → xM) (WL HL : List Cond) (SL : List (String × Nat × String)) (NM : List String) (EX : List Nat) (ty0 : Nat → Nat → FieldType) (sf : String × String × String) (host : String) (nG : Nat) : Prop :=
  ∀ (M : xM) (p : Program) (e : Env) (R : Room) (s : State) (m : MethodId) (args : Array Value) (below : List Frame) (meth : Method) (c : Code), xCx D cl H0 WL HL SL NM EX V ty0 sf host nG G M p R s m meth c → ∀ (pc k a b nx : Nat) (hs : List Nat) (h : xH) (N0 S0 : Nat),
    xtok WL HL cl SL NM M pc k a b hs = true → N0 ≤ h.2.1 → S0 ≤ h.2.2 → (xnew h (xO' a []) b).2.1 - N0 ≤ R.cells → (xnew h (xO' a []) b).2.2 - S0 ≤ R.slots → ∀ (H : Heap) (locs : List Loc) (ls : Array Slot) {lo : List (Option Value)}, xHR D cl H0 s h H → xl ls (xml M) lo → (∀ q ∈ locs, H0.size ≤ q.base) →
      W p l e R s m args below meth c H locs (h.2.1 - N0) (h.2.2 - S0) (xQ D cl H0 s below (.inr (a, h.2.1)) (xnew h (xO' a []) b) N0 S0) (F0 m pc ls [])
end
section
/-! soundness: the step -/
set_option maxHeartbeats 4000000 in
set_option maxRecDepth 100000 in
theorem x_step {l : Launch} {D : va_G} {cl : List vw_C} {H0 : Heap} {V : Nat → Value} {F : Nat → List Value} {G : Nat → xM} {WL HL : List Cond} {SL : List (String × Nat × String)} {NM : List String} {EX : List Nat} {ty0 : Nat → Nat → FieldType} {sf : String × String × String} {host : String} {nG : Nat}
    (hU : ∀ (ci : Nat) (C : String) (T : u_T) (N : Nat), cl[ci]? = some (C, T, N) → (∀ w ∈ u_ws C T N, w ∈ WL) ∧ (∀ k, k < N → parseFieldDescriptor (T k).2.2.1 = some (ty0 ci k)) ∧ (∀ a, a < N → ∀ b, b < N → a ≠ b → (T a).2.1 ≠ (T b).2.1) ∧ (∀ j, j < N → defaultValue (ty0 ci j) = vp_V (F ci) j))
    (hG : ∀ z, z < nG → xgood WL HL cl SL NM EX ty0 sf host nG G (G z)) (hthr : xThr l D cl H0 V G WL HL SL NM EX ty0 sf host nG)
    {fu : Nat} (ih : xSnd l D cl H0 V F G WL HL SL NM EX ty0 sf host nG fu) : xSnd l D cl H0 V F G WL HL SL NM EX ty0 sf host nG (fu + 1) := by
  intro M f h hf o hrun p e R s m args below meth c C N0 S0 hN hS hRc hRs H locs ls hR hL hl
  obtain ⟨hx, hb, hml, hrt, hlk, hnm, hmeth, htab, hsf, hfr, hlo, hgood⟩ := id C
  obtain ⟨pc, lo, st⟩ := f
  replace hL : xl ls (xml M) lo := hL
  show W p l e R s m args below meth c H locs (h.2.1 - N0) (h.2.2 - S0) (xQ D cl H0 s below o hf N0 S0) (F0 m pc ls st)
  replace hrun : xS (xcd M pc) (fun q => xop V F G (xrun V F G fu) M (pc, lo, st) h q.1 q.2.1 q.2.2.1 q.2.2.2.1 q.2.2.2.2.1) = some (o, hf) := hrun
  have hts : ∀ w ∈ WL, w.before args s = true := fun w hw => hsf.1 w hw args s (State.WarmedH.refl s)
  have hown : s.vm.findClass (xnm M).cls = some m.cls := findClass_of_methodNamed hnm
  have hK := hsf.2.2.2.2.1
  have go : ∀ (f' : xF) (h' : xH), xrun V F G fu M f' h' = some (o, hf) → N0 ≤ h'.2.1 → S0 ≤ h'.2.2 → ∀ (H' : Heap) (locs' : List Loc) (ls' : Array Slot), xHR D cl H0 s h' H' → xl ls' (xml M) f'.2.1 → (∀ q ∈ locs', H0.size ≤ q.base) →
      W p l e R s m args below meth c H' locs' (h'.2.1 - N0) (h'.2.2 - S0) (xQ D cl H0 s below o hf N0 S0) (F0 m f'.1 ls' f'.2.2) :=
    fun f' h' hr a b H' locs' ls' c1 c2 c3 => ih M f' h' hf o hr p e R s m args below meth c C N0 S0 a b hRc hRs H' locs' ls' c1 c2 c3
  have sm : ∀ (pc' : Nat) (lo' : List (Option Value)) (st' : List Value), xrun V F G fu M (pc', lo', st') h = some (o, hf) → ∀ (ls' : Array Slot), xl ls' (xml M) lo' →
      W p l e R s m args below meth c H locs (h.2.1 - N0) (h.2.2 - S0) (xQ D cl H0 s below o hf N0 S0) (F0 m pc' ls' st') := fun pc' lo' st' hr ls' hl' => go (pc', lo', st') h hr hN hS H locs ls' hR hl' hl
  obtain ⟨ent, hcd, hrun1⟩ := xS_s hrun
  clear hrun
  have hrun := hrun1
  clear hrun1
  have hok := hgood.2.2 pc ent hcd
  obtain ⟨i, nx, a, b, v, hs⟩ := ent
  dsimp only at hrun
  cases i with
  | iconst k =>
    replace hrun : (xrun V F G fu M (nx, lo, v :: st) h) = some (o, hf) := hrun
    replace hok : (xdec M pc nx (.iconst k) 1 && decide (v = .int (Int32.ofInt k))) = true := hok
    simp only [Bool.and_eq_true] at hok
    obtain ⟨hok, hok2⟩ := hok
    obtain ⟨hd, rfl⟩ := xdec_spec hok
    have hok2 := of_decide_eq_true hok2
    subst hok2
    exact lv_iconst hx hb hd rfl (sm _ _ _ hrun ls hL)
  | bipush k =>
    replace hrun : (xrun V F G fu M (nx, lo, v :: st) h) = some (o, hf) := hrun
    replace hok : (xdec M pc nx (.bipush k) 2 && decide (v = .int ((Int8.ofInt k).toInt32))) = true := hok
    simp only [Bool.and_eq_true] at hok
    obtain ⟨hok, hok2⟩ := hok
    obtain ⟨hd, rfl⟩ := xdec_spec hok
    have hok2 := of_decide_eq_true hok2
    subst hok2
    exact lv_bipush hx hb hd rfl (sm _ _ _ hrun ls hL)
  | sipush k =>
    replace hrun : (xrun V F G fu M (nx, lo, v :: st) h) = some (o, hf) := hrun
    replace hok : (xdec M pc nx (.sipush k) 3 && decide (v = .int ((Int16.ofInt k).toInt32))) = true := hok
    simp only [Bool.and_eq_true] at hok
    obtain ⟨hok, hok2⟩ := hok
    obtain ⟨hd, rfl⟩ := xdec_spec hok
    have hok2 := of_decide_eq_true hok2
    subst hok2
    exact lv_sipush hx hb hd rfl (sm _ _ _ hrun ls hL)
  | lconst k =>
    replace hrun : (xrun V F G fu M (nx, lo, v :: st) h) = some (o, hf) := hrun
    replace hok : (xdec M pc nx (.lconst k) 1 && decide (v = .long (Int64.ofNat k.val))) = true := hok
    simp only [Bool.and_eq_true] at hok
    obtain ⟨hok, hok2⟩ := hok
    obtain ⟨hd, rfl⟩ := xdec_spec hok
    have hok2 := of_decide_eq_true hok2
    subst hok2
    exact lv_lconst hx hb hd rfl (sm _ _ _ hrun ls hL)
  | ldc k =>
    replace hrun : (xrun V F G fu M (nx, lo, v :: st) h) = some (o, hf) := hrun
    replace hok : (xdec M pc nx (.ldc k) 2 && (match (generalizing := false) v with | .int x => xin WL (hs.getD 0 0) (.constant (xnm M).cls k x) | _ => false)) = true := hok
    simp only [Bool.and_eq_true] at hok
    obtain ⟨hok, hok2⟩ := hok
    obtain ⟨hd, rfl⟩ := xdec_spec hok
    split at hok2
    · next x =>
      exact W.ldc hx hb hown (hts _ (xin_mem hok2)) rfl hd (sm _ _ _ hrun ls hL)
    · cases hok2
  | ldc_w k =>
    replace hrun : (xrun V F G fu M (nx, lo, v :: st) h) = some (o, hf) := hrun
    replace hok : (xdec M pc nx (.ldc_w k) 3 && (match (generalizing := false) v with | .int x => xin WL (hs.getD 0 0) (.constant (xnm M).cls k x) | _ => false)) = true := hok
    simp only [Bool.and_eq_true] at hok
    obtain ⟨hok, hok2⟩ := hok
    obtain ⟨hd, rfl⟩ := xdec_spec hok
    split at hok2
    · next x =>
      exact lv_ldcw hx hb hown (hts _ (xin_mem hok2)) hd (sm _ _ _ hrun ls hL)
    · cases hok2
  | ldc2_w k =>
    replace hrun : (xrun V F G fu M (nx, lo, v :: st) h) = some (o, hf) := hrun
    replace hok : (xdec M pc nx (.ldc2_w k) 3 && (match (generalizing := false) v with | .long x => xin WL (hs.getD 0 0) (.constantLong (xnm M).cls k x) | _ => false)) = true := hok
    simp only [Bool.and_eq_true] at hok
    obtain ⟨hok, hok2⟩ := hok
    obtain ⟨hd, rfl⟩ := xdec_spec hok
    split at hok2
    · next x =>
      exact W.ldc2 hx hb hown (hts _ (xin_mem hok2)) rfl hd (sm _ _ _ hrun ls hL)
    · cases hok2
  | getstatic k =>
    replace hrun : (xrun V F G fu M (nx, lo, V a :: st) h) = some (o, hf) := hrun
    replace hok : (xdec M pc nx (.getstatic k) 3 && Nat.beq a 0 && xin WL (hs.getD 0 0) (.fieldLink (xnm M).cls k sf.1 sf.2.1 sf.2.2)) = true := hok
    simp only [Bool.and_eq_true] at hok
    obtain ⟨⟨hok, hok2⟩, hok3⟩ := hok
    obtain ⟨hd, rfl⟩ := xdec_spec hok
    have hok2 := Nat.eq_of_beq_eq_true hok2
    subst hok2
    obtain ⟨cf, kf, fi, fl, za, zc, z1, z2, z3, z4, z5, z6, z7, z8⟩ := hsf.2.2.2.2.2
    have hza : H[za]? = some zc := by rw [hR.2.2.1 za (by omega)]; exact z5
    exact W.gets hx hb hown (hts _ (xin_mem hok3)) z1 z2 z3 z4 hza (fun q => by rw [q] at z6; cases z6) z7 rfl hd (sm _ _ _ hrun ls hL)
  | iload k =>
    replace hrun : (xvI (xget lo a) fun x => xrun V F G fu M (nx, lo, .int x :: st) h) = some (o, hf) := hrun
    replace hok : (xdec M pc nx (.iload k) 2 && Nat.beq a k) = true := hok
    simp only [Bool.and_eq_true] at hok
    obtain ⟨hok, hok2⟩ := hok
    obtain ⟨hd, rfl⟩ := xdec_spec hok
    have hok2 := Nat.eq_of_beq_eq_true hok2
    obtain ⟨x, hv, hrun1⟩ := xvI_s hrun
    clear hrun
    have hrun := hrun1
    clear hrun1
    subst hok2
    exact lv_iload hx hb hd (hL.at hv) (sm _ _ _ hrun ls hL)
  | iload_n k =>
    replace hrun : (xvI (xget lo a) fun x => xrun V F G fu M (nx, lo, .int x :: st) h) = some (o, hf) := hrun
    replace hok : (xdec M pc nx (.iload_n k) 1 && Nat.beq a k.val) = true := hok
    simp only [Bool.and_eq_true] at hok
    obtain ⟨hok, hok2⟩ := hok
    obtain ⟨hd, rfl⟩ := xdec_spec hok
    have hok2 := Nat.eq_of_beq_eq_true hok2
    obtain ⟨x, hv, hrun1⟩ := xvI_s hrun
    clear hrun
    have hrun := hrun1
    clear hrun1
    exact lv_iload_n hx hb hd hok2.symm (hL.at hv) (sm _ _ _ hrun ls hL)
  | lload k =>
    replace hrun : (xvL (xget lo a) fun x => xrun V F G fu M (nx, lo, .long x :: st) h) = some (o, hf) := hrun
    replace hok : (xdec M pc nx (.lload k) 2 && Nat.beq a k) = true := hok
    simp only [Bool.and_eq_true] at hok
    obtain ⟨hok, hok2⟩ := hok
    obtain ⟨hd, rfl⟩ := xdec_spec hok
    have hok2 := Nat.eq_of_beq_eq_true hok2
    obtain ⟨x, hv, hrun1⟩ := xvL_s hrun
    clear hrun
    have hrun := hrun1
    clear hrun1
    subst hok2
    exact lv_lload hx hb hd (hL.at hv) (sm _ _ _ hrun ls hL)
  | lload_n k =>
    replace hrun : (xvL (xget lo a) fun x => xrun V F G fu M (nx, lo, .long x :: st) h) = some (o, hf) := hrun
    replace hok : (xdec M pc nx (.lload_n k) 1 && Nat.beq a k.val) = true := hok
    simp only [Bool.and_eq_true] at hok
    obtain ⟨hok, hok2⟩ := hok
    obtain ⟨hd, rfl⟩ := xdec_spec hok
    have hok2 := Nat.eq_of_beq_eq_true hok2
    obtain ⟨x, hv, hrun1⟩ := xvL_s hrun
    clear hrun
    have hrun := hrun1
    clear hrun1
    exact lv_lload_n hx hb hd hok2.symm (hL.at hv) (sm _ _ _ hrun ls hL)
  | aload k =>
    replace hrun : (xvA (xget lo a) fun x => xrun V F G fu M (nx, lo, .ref x :: st) h) = some (o, hf) := hrun
    replace hok : (xdec M pc nx (.aload k) 2 && Nat.beq a k) = true := hok
    simp only [Bool.and_eq_true] at hok
    obtain ⟨hok, hok2⟩ := hok
    obtain ⟨hd, rfl⟩ := xdec_spec hok
    have hok2 := Nat.eq_of_beq_eq_true hok2
    obtain ⟨x, hv, hrun1⟩ := xvA_s hrun
    clear hrun
    have hrun := hrun1
    clear hrun1
    subst hok2
    exact lv_aload hx hb hd (hL.at hv) (sm _ _ _ hrun ls hL)
  | aload_n k =>
    replace hrun : (xvA (xget lo a) fun x => xrun V F G fu M (nx, lo, .ref x :: st) h) = some (o, hf) := hrun
    replace hok : (xdec M pc nx (.aload_n k) 1 && Nat.beq a k.val) = true := hok
    simp only [Bool.and_eq_true] at hok
    obtain ⟨hok, hok2⟩ := hok
    obtain ⟨hd, rfl⟩ := xdec_spec hok
    have hok2 := Nat.eq_of_beq_eq_true hok2
    obtain ⟨x, hv, hrun1⟩ := xvA_s hrun
    clear hrun
    have hrun := hrun1
    clear hrun1
    exact lv_aload_n hx hb hd hok2.symm (hL.at hv) (sm _ _ _ hrun ls hL)
  | istore k =>
    replace hrun : (xI1 st fun x st => xS (xst1 (.int x) a lo) fun l => xrun V F G fu M (nx, l, st) h) = some (o, hf) := hrun
    replace hok : (xdec M pc nx (.istore k) 2 && Nat.beq a k) = true := hok
    simp only [Bool.and_eq_true] at hok
    obtain ⟨hok, hok2⟩ := hok
    obtain ⟨hd, rfl⟩ := xdec_spec hok
    have hok2 := Nat.eq_of_beq_eq_true hok2
    obtain ⟨x, st, rfl, hrun1⟩ := xI1_s hrun
    clear hrun
    have hrun := hrun1
    clear hrun1
    obtain ⟨lo', hst, hrun1⟩ := xS_s hrun
    clear hrun
    have hrun := hrun1
    clear hrun1
    have hlt := (xst1_spec _ _ _ _ hst).1
    rw [hL.2.1] at hlt
    subst hok2
    exact lv_istore hx hb hd hL.has hlt rfl (fun ls' h' => sm _ _ _ hrun ls' (hL.st1 hst h'))
  | istore_n k =>
    replace hrun : (xI1 st fun x st => xS (xst1 (.int x) a lo) fun l => xrun V F G fu M (nx, l, st) h) = some (o, hf) := hrun
    replace hok : (xdec M pc nx (.istore_n k) 1 && Nat.beq a k.val) = true := hok
    simp only [Bool.and_eq_true] at hok
    obtain ⟨hok, hok2⟩ := hok
    obtain ⟨hd, rfl⟩ := xdec_spec hok
    have hok2 := Nat.eq_of_beq_eq_true hok2
    obtain ⟨x, st, rfl, hrun1⟩ := xI1_s hrun
    clear hrun
    have hrun := hrun1
    clear hrun1
    obtain ⟨lo', hst, hrun1⟩ := xS_s hrun
    clear hrun
    have hrun := hrun1
    clear hrun1
    have hlt := (xst1_spec _ _ _ _ hst).1
    rw [hL.2.1] at hlt
    exact lv_istore_n hx hb hd hok2.symm hL.has hlt rfl (fun ls' h' => sm _ _ _ hrun ls' (hL.st1 hst h'))
  | astore k =>
    replace hrun : (xA1 st fun x st => xS (xst1 (.ref x) a lo) fun l => xrun V F G fu M (nx, l, st) h) = some (o, hf) := hrun
    replace hok : (xdec M pc nx (.astore k) 2 && Nat.beq a k) = true := hok
    simp only [Bool.and_eq_true] at hok
    obtain ⟨hok, hok2⟩ := hok
    obtain ⟨hd, rfl⟩ := xdec_spec hok
    have hok2 := Nat.eq_of_beq_eq_true hok2
    obtain ⟨x, st, rfl, hrun1⟩ := xA1_s hrun
    clear hrun
    have hrun := hrun1
    clear hrun1
    obtain ⟨lo', hst, hrun1⟩ := xS_s hrun
    clear hrun
    have hrun := hrun1
    clear hrun1
    have hlt := (xst1_spec _ _ _ _ hst).1
    rw [hL.2.1] at hlt
    subst hok2
    exact lv_astore hx hb hd hL.has hlt rfl (fun ls' h' => sm _ _ _ hrun ls' (hL.st1 hst h'))
  | astore_n k =>
    replace hrun : (xA1 st fun x st => xS (xst1 (.ref x) a lo) fun l => xrun V F G fu M (nx, l, st) h) = some (o, hf) := hrun
    replace hok : (xdec M pc nx (.astore_n k) 1 && Nat.beq a k.val) = true := hok
    simp only [Bool.and_eq_true] at hok
    obtain ⟨hok, hok2⟩ := hok
    obtain ⟨hd, rfl⟩ := xdec_spec hok
    have hok2 := Nat.eq_of_beq_eq_true hok2
    obtain ⟨x, st, rfl, hrun1⟩ := xA1_s hrun
    clear hrun
    have hrun := hrun1
    clear hrun1
    obtain ⟨lo', hst, hrun1⟩ := xS_s hrun
    clear hrun
    have hrun := hrun1
    clear hrun1
    have hlt := (xst1_spec _ _ _ _ hst).1
    rw [hL.2.1] at hlt
    exact lv_astore_n hx hb hd hok2.symm hL.has hlt rfl (fun ls' h' => sm _ _ _ hrun ls' (hL.st1 hst h'))
  | lstore k =>
    replace hrun : (xL1 st fun x st => xS (xst2 (.long x) a lo) fun l => xrun V F G fu M (nx, l, st) h) = some (o, hf) := hrun
    replace hok : (xdec M pc nx (.lstore k) 2 && Nat.beq a k) = true := hok
    simp only [Bool.and_eq_true] at hok
    obtain ⟨hok, hok2⟩ := hok
    obtain ⟨hd, rfl⟩ := xdec_spec hok
    have hok2 := Nat.eq_of_beq_eq_true hok2
    obtain ⟨x, st, rfl, hrun1⟩ := xL1_s hrun
    clear hrun
    have hrun := hrun1
    clear hrun1
    obtain ⟨lo', hst, hrun1⟩ := xS_s hrun
    clear hrun
    have hrun := hrun1
    clear hrun1
    have hlt := (xst2_spec _ _ _ _ hst).1
    rw [hL.2.1] at hlt
    subst hok2
    exact lv_lstore hx hb hd hL.has hlt rfl (fun ls' h' => sm _ _ _ hrun ls' (hL.st2 hst h'))
  | lstore_n k =>
    replace hrun : (xL1 st fun x st => xS (xst2 (.long x) a lo) fun l => xrun V F G fu M (nx, l, st) h) = some (o, hf) := hrun
    replace hok : (xdec M pc nx (.lstore_n k) 1 && Nat.beq a k.val) = true := hok
    simp only [Bool.and_eq_true] at hok
    obtain ⟨hok, hok2⟩ := hok
    obtain ⟨hd, rfl⟩ := xdec_spec hok
    have hok2 := Nat.eq_of_beq_eq_true hok2
    obtain ⟨x, st, rfl, hrun1⟩ := xL1_s hrun
    clear hrun
    have hrun := hrun1
    clear hrun1
    obtain ⟨lo', hst, hrun1⟩ := xS_s hrun
    clear hrun
    have hrun := hrun1
    clear hrun1
    have hlt := (xst2_spec _ _ _ _ hst).1
    rw [hL.2.1] at hlt
    exact lv_lstore_n hx hb hd hok2.symm hL.has hlt rfl (fun ls' h' => sm _ _ _ hrun ls' (hL.st2 hst h'))
  | iinc k kn =>
    replace hrun : (xvI (xget lo a) fun x => xvN v fun c => xS (xst1 (.int (x + c)) a lo) fun l => xrun V F G fu M (nx, l, st) h) = some (o, hf) := hrun
    replace hok : (xdec M pc nx (.iinc k kn) 3 && Nat.beq a k && decide (v = .int (Int32.ofInt kn))) = true := hok
    simp only [Bool.and_eq_true] at hok
    obtain ⟨⟨hok, hok2⟩, hok3⟩ := hok
    obtain ⟨hd, rfl⟩ := xdec_spec hok
    have hok2 := Nat.eq_of_beq_eq_true hok2
    have hok3 := of_decide_eq_true hok3
    subst hok2
    subst hok3
    obtain ⟨x, hv, hrun1⟩ := xvI_s hrun
    clear hrun
    have hrun := hrun1
    clear hrun1
    obtain ⟨cn, hcn, hrun1⟩ := xvN_s hrun
    clear hrun
    have hrun := hrun1
    clear hrun1
    cases hcn
    obtain ⟨lo', hst, hrun1⟩ := xS_s hrun
    clear hrun
    have hrun := hrun1
    clear hrun1
    have hlt := (xst1_spec _ _ _ _ hst).1
    rw [hL.2.1] at hlt
    obtain ⟨kq, hkq⟩ := List.getElem?_of_mem (xal_mem (q := (a, Value.int x)).mpr hv)
    exact lv_iinc hx hb hd hL.has hkq rfl hlt rfl (fun ls' h' => sm _ _ _ hrun ls' (hL.st1 hst h'))
  | iadd =>
    replace hrun : (xI2 st fun x y st => xrun V F G fu M (nx, lo, .int (x + y) :: st) h) = some (o, hf) := hrun
    replace hok : (xdec M pc nx .iadd 1) = true := hok
    obtain ⟨hd, rfl⟩ := xdec_spec hok
    obtain ⟨x, y, st, rfl, hrun1⟩ := xI2_s hrun
    clear hrun
    have hrun := hrun1
    clear hrun1
    exact lv_iadd hx hb hd (sm _ _ _ hrun ls hL)
  | isub =>
    replace hrun : (xI2 st fun x y st => xrun V F G fu M (nx, lo, .int (x - y) :: st) h) = some (o, hf) := hrun
    replace hok : (xdec M pc nx .isub 1) = true := hok
    obtain ⟨hd, rfl⟩ := xdec_spec hok
    obtain ⟨x, y, st, rfl, hrun1⟩ := xI2_s hrun
    clear hrun
    have hrun := hrun1
    clear hrun1
    exact lv_isub hx hb hd (sm _ _ _ hrun ls hL)
  | imul =>
    replace hrun : (xI2 st fun x y st => xrun V F G fu M (nx, lo, .int (x * y) :: st) h) = some (o, hf) := hrun
    replace hok : (xdec M pc nx .imul 1) = true := hok
    obtain ⟨hd, rfl⟩ := xdec_spec hok
    obtain ⟨x, y, st, rfl, hrun1⟩ := xI2_s hrun
    clear hrun
    have hrun := hrun1
    clear hrun1
    exact lv_imul hx hb hd (sm _ _ _ hrun ls hL)
  | iand =>
    replace hrun : (xI2 st fun x y st => xrun V F G fu M (nx, lo, .int (x &&& y) :: st) h) = some (o, hf) := hrun
    replace hok : (xdec M pc nx .iand 1) = true := hok
    obtain ⟨hd, rfl⟩ := xdec_spec hok
    obtain ⟨x, y, st, rfl, hrun1⟩ := xI2_s hrun
    clear hrun
    have hrun := hrun1
    clear hrun1
    exact lv_iand hx hb hd (sm _ _ _ hrun ls hL)
  | ior =>
    replace hrun : (xI2 st fun x y st => xrun V F G fu M (nx, lo, .int (x ||| y) :: st) h) = some (o, hf) := hrun
    replace hok : (xdec M pc nx .ior 1) = true := hok
    obtain ⟨hd, rfl⟩ := xdec_spec hok
    obtain ⟨x, y, st, rfl, hrun1⟩ := xI2_s hrun
    clear hrun
    have hrun := hrun1
    clear hrun1
    exact lv_ior hx hb hd (sm _ _ _ hrun ls hL)
  | ixor =>
    replace hrun : (xI2 st fun x y st => xrun V F G fu M (nx, lo, .int (x ^^^ y) :: st) h) = some (o, hf) := hrun
    replace hok : (xdec M pc nx .ixor 1) = true := hok
    obtain ⟨hd, rfl⟩ := xdec_spec hok
    obtain ⟨x, y, st, rfl, hrun1⟩ := xI2_s hrun
    clear hrun
    have hrun := hrun1
    clear hrun1
    exact lv_ixor hx hb hd (sm _ _ _ hrun ls hL)
  | ishl =>
    replace hrun : (xI2 st fun x y st => xrun V F G fu M (nx, lo, .int (x <<< (y &&& 31)) :: st) h) = some (o, hf) := hrun
    replace hok : (xdec M pc nx .ishl 1) = true := hok
    obtain ⟨hd, rfl⟩ := xdec_spec hok
    obtain ⟨x, y, st, rfl, hrun1⟩ := xI2_s hrun
    clear hrun
    have hrun := hrun1
    clear hrun1
    exact lv_ishl hx hb hd (sm _ _ _ hrun ls hL)
  | ishr =>
    replace hrun : (xI2 st fun x y st => xrun V F G fu M (nx, lo, .int (x >>> (y &&& 31)) :: st) h) = some (o, hf) := hrun
    replace hok : (xdec M pc nx .ishr 1) = true := hok
    obtain ⟨hd, rfl⟩ := xdec_spec hok
    obtain ⟨x, y, st, rfl, hrun1⟩ := xI2_s hrun
    clear hrun
    have hrun := hrun1
    clear hrun1
    exact lv_ishr hx hb hd (sm _ _ _ hrun ls hL)
  | iushr =>
    replace hrun : (xI2 st fun x y st => xrun V F G fu M (nx, lo, .int ((x.toUInt32 >>> (y.toUInt32 &&& Int32.toUInt32 31)).toInt32) :: st) h) = some (o, hf) := hrun
    replace hok : (xdec M pc nx .iushr 1) = true := hok
    obtain ⟨hd, rfl⟩ := xdec_spec hok
    obtain ⟨x, y, st, rfl, hrun1⟩ := xI2_s hrun
    clear hrun
    have hrun := hrun1
    clear hrun1
    exact lv_iushr hx hb hd rfl (sm _ _ _ hrun ls hL)
  | idiv =>
    replace hrun : (xI2 st fun x y st => xN (y = 0) (xrun V F G fu M (nx, lo, .int (x / y) :: st) h)) = some (o, hf) := hrun
    replace hok : (xdec M pc nx .idiv 1) = true := hok
    obtain ⟨hd, rfl⟩ := xdec_spec hok
    obtain ⟨x, y, st, rfl, hrun1⟩ := xI2_s hrun
    clear hrun
    have hrun := hrun1
    clear hrun1
    obtain ⟨hy, hrun1⟩ := xN_s hrun
    clear hrun
    have hrun := hrun1
    clear hrun1
    exact lv_idiv hx hb hd hy (sm _ _ _ hrun ls hL)
  | irem =>
    replace hrun : (xI2 st fun x y st => xN (y = 0) (xrun V F G fu M (nx, lo, .int (x - x / y * y) :: st) h)) = some (o, hf) := hrun
    replace hok : (xdec M pc nx .irem 1) = true := hok
    obtain ⟨hd, rfl⟩ := xdec_spec hok
    obtain ⟨x, y, st, rfl, hrun1⟩ := xI2_s hrun
    clear hrun
    have hrun := hrun1
    clear hrun1
    obtain ⟨hy, hrun1⟩ := xN_s hrun
    clear hrun
    have hrun := hrun1
    clear hrun1
    exact lv_irem hx hb hd hy (sm _ _ _ hrun ls hL)
  | ineg =>
    replace hrun : (xI1 st fun x st => xrun V F G fu M (nx, lo, .int (-x) :: st) h) = some (o, hf) := hrun
    replace hok : (xdec M pc nx .ineg 1) = true := hok
    obtain ⟨hd, rfl⟩ := xdec_spec hok
    obtain ⟨x, st, rfl, hrun1⟩ := xI1_s hrun
    clear hrun
    have hrun := hrun1
    clear hrun1
    exact lv_ineg hx hb hd (sm _ _ _ hrun ls hL)
  | ladd =>
    replace hrun : (xL2 st fun x y st => xrun V F G fu M (nx, lo, .long (x + y) :: st) h) = some (o, hf) := hrun
    replace hok : (xdec M pc nx .ladd 1) = true := hok
    obtain ⟨hd, rfl⟩ := xdec_spec hok
    obtain ⟨x, y, st, rfl, hrun1⟩ := xL2_s hrun
    clear hrun
    have hrun := hrun1
    clear hrun1
    exact lv_ladd hx hb hd (sm _ _ _ hrun ls hL)
  | lsub =>
    replace hrun : (xL2 st fun x y st => xrun V F G fu M (nx, lo, .long (x - y) :: st) h) = some (o, hf) := hrun
    replace hok : (xdec M pc nx .lsub 1) = true := hok
    obtain ⟨hd, rfl⟩ := xdec_spec hok
    obtain ⟨x, y, st, rfl, hrun1⟩ := xL2_s hrun
    clear hrun
    have hrun := hrun1
    clear hrun1
    exact lv_lsub hx hb hd (sm _ _ _ hrun ls hL)
  | land =>
    replace hrun : (xL2 st fun x y st => xrun V F G fu M (nx, lo, .long (x &&& y) :: st) h) = some (o, hf) := hrun
    replace hok : (xdec M pc nx .land 1) = true := hok
    obtain ⟨hd, rfl⟩ := xdec_spec hok
    obtain ⟨x, y, st, rfl, hrun1⟩ := xL2_s hrun
    clear hrun
    have hrun := hrun1
    clear hrun1
    exact lv_land hx hb hd (sm _ _ _ hrun ls hL)
  | lor =>
    replace hrun : (xL2 st fun x y st => xrun V F G fu M (nx, lo, .long (x ||| y) :: st) h) = some (o, hf) := hrun
    replace hok : (xdec M pc nx .lor 1) = true := hok
    obtain ⟨hd, rfl⟩ := xdec_spec hok
    obtain ⟨x, y, st, rfl, hrun1⟩ := xL2_s hrun
    clear hrun
    have hrun := hrun1
    clear hrun1
    exact lv_lor hx hb hd (sm _ _ _ hrun ls hL)
  | lshl =>
    replace hrun : (xLI st fun x y st => xrun V F G fu M (nx, lo, .long (x <<< (y.toInt64 &&& 63)) :: st) h) = some (o, hf) := hrun
    replace hok : (xdec M pc nx .lshl 1) = true := hok
    obtain ⟨hd, rfl⟩ := xdec_spec hok
    obtain ⟨x, y, st, rfl, hrun1⟩ := xLI_s hrun
    clear hrun
    have hrun := hrun1
    clear hrun1
    exact lv_lshl hx hb hd rfl (sm _ _ _ hrun ls hL)
  | lushr =>
    replace hrun : (xLI st fun x y st => xrun V F G fu M (nx, lo, .long ((x.toUInt64 >>> (y.toInt64.toUInt64 &&& Int64.toUInt64 63)).toInt64) :: st) h) = some (o, hf) := hrun
    replace hok : (xdec M pc nx .lushr 1) = true := hok
    obtain ⟨hd, rfl⟩ := xdec_spec hok
    obtain ⟨x, y, st, rfl, hrun1⟩ := xLI_s hrun
    clear hrun
    have hrun := hrun1
    clear hrun1
    exact lv_lushr hx hb hd rfl (sm _ _ _ hrun ls hL)
  | lcmp =>
    replace hrun : (xL2 st fun x y st => xrun V F G fu M (nx, lo, .int (lg_cmp x y) :: st) h) = some (o, hf) := hrun
    replace hok : (xdec M pc nx .lcmp 1) = true := hok
    obtain ⟨hd, rfl⟩ := xdec_spec hok
    obtain ⟨x, y, st, rfl, hrun1⟩ := xL2_s hrun
    clear hrun
    have hrun := hrun1
    clear hrun1
    exact W.lcmp hx hb hd (sm _ _ _ hrun ls hL)
  | i2l =>
    replace hrun : (xI1 st fun x st => xrun V F G fu M (nx, lo, .long x.toInt64 :: st) h) = some (o, hf) := hrun
    replace hok : (xdec M pc nx .i2l 1) = true := hok
    obtain ⟨hd, rfl⟩ := xdec_spec hok
    obtain ⟨x, st, rfl, hrun1⟩ := xI1_s hrun
    clear hrun
    have hrun := hrun1
    clear hrun1
    exact lv_i2l hx hb hd rfl (sm _ _ _ hrun ls hL)
  | l2i =>
    replace hrun : (xL1 st fun x st => xrun V F G fu M (nx, lo, .int x.toInt32 :: st) h) = some (o, hf) := hrun
    replace hok : (xdec M pc nx .l2i 1) = true := hok
    obtain ⟨hd, rfl⟩ := xdec_spec hok
    obtain ⟨x, st, rfl, hrun1⟩ := xL1_s hrun
    clear hrun
    have hrun := hrun1
    clear hrun1
    exact lv_l2i hx hb hd rfl (sm _ _ _ hrun ls hL)
  | dup =>
    replace hok : (xdec M pc nx .dup 1) = true := hok
    obtain ⟨hd, rfl⟩ := xdec_spec hok
    rcases st with _ | ⟨w, st⟩
    · cases hrun
    · obtain ⟨h1, hrun1⟩ := xB_s hrun
      clear hrun
      have hrun := hrun1
      clear hrun1
      exact lv_dup hx hb hd (xcat1_s h1) (sm _ _ _ hrun ls hL)
  | dup2 =>
    replace hok : (xdec M pc nx .dup2 1) = true := hok
    obtain ⟨hd, rfl⟩ := xdec_spec hok
    rcases st with _ | ⟨w, _ | ⟨u, st⟩⟩
    · cases hrun
    · cases hrun
    · obtain ⟨h1, hrun1⟩ := xB_s hrun
      clear hrun
      have hrun := hrun1
      clear hrun1
      simp only [Bool.and_eq_true] at h1
      exact lv_dup2_11 hx hb hd (xcat1_s h1.1) (xcat1_s h1.2) (sm _ _ _ hrun ls hL)
  | dup_x1 =>
    replace hok : (xdec M pc nx .dup_x1 1) = true := hok
    obtain ⟨hd, rfl⟩ := xdec_spec hok
    rcases st with _ | ⟨w, _ | ⟨u, st⟩⟩
    · cases hrun
    · cases hrun
    · obtain ⟨h1, hrun1⟩ := xB_s hrun
      clear hrun
      have hrun := hrun1
      clear hrun1
      simp only [Bool.and_eq_true] at h1
      exact lv_dup_x1 hx hb hd (xcat1_s h1.1) (xcat1_s h1.2) (sm _ _ _ hrun ls hL)
  | dup_x2 =>
    replace hok : (xdec M pc nx .dup_x2 1) = true := hok
    obtain ⟨hd, rfl⟩ := xdec_spec hok
    rcases st with _ | ⟨w, _ | ⟨u, _ | ⟨t, st⟩⟩⟩
    · cases hrun
    · cases hrun
    · cases hrun
    · obtain ⟨h1, hrun1⟩ := xB_s hrun
      clear hrun
      have hrun := hrun1
      clear hrun1
      simp only [Bool.and_eq_true] at h1
      exact lv_dup_x2 hx hb hd (xcat1_s h1.1.1) (xcat1_s h1.1.2) (xcat1_s h1.2) (sm _ _ _ hrun ls hL)
  | pop =>
    replace hok : (xdec M pc nx .pop 1) = true := hok
    obtain ⟨hd, rfl⟩ := xdec_spec hok
    rcases st with _ | ⟨w, st⟩
    · cases hrun
    · obtain ⟨h1, hrun1⟩ := xB_s hrun
      clear hrun
      have hrun := hrun1
      clear hrun1
      exact lv_pop hx hb hd (xcat1_s h1) (sm _ _ _ hrun ls hL)
  | ifCond cn off =>
    replace hrun : (xI1 st fun x st => xif cn x 0 (xrun V F G fu M (a, lo, st) h) (xrun V F G fu M (nx, lo, st) h)) = some (o, hf) := hrun
    replace hok : (xdec M pc nx (.ifCond cn off) 3 && decide ((pc : Int) + off = (a : Int))) = true := hok
    simp only [Bool.and_eq_true] at hok
    obtain ⟨hok, hok2⟩ := hok
    obtain ⟨hd, rfl⟩ := xdec_spec hok
    have ht := of_decide_eq_true hok2
    obtain ⟨x, st, rfl, hrun1⟩ := xI1_s hrun
    clear hrun
    have hrun := hrun1
    clear hrun1
    cases cn with
    | eq => exact lv_if_eq hx hb hd ht (fun hc => sm _ _ _ ((if_pos hc).symm.trans hrun) ls hL) (fun hc => sm _ _ _ ((if_neg hc).symm.trans hrun) ls hL)
    | ne => exact lv_if_ne hx hb hd ht (fun hc => sm _ _ _ ((if_neg hc).symm.trans hrun) ls hL) (fun hc => sm _ _ _ ((if_pos hc).symm.trans hrun) ls hL)
    | lt => exact lv_if_lt hx hb hd ht (fun hc => sm _ _ _ ((if_pos hc).symm.trans hrun) ls hL) (fun hc => sm _ _ _ ((if_neg hc).symm.trans hrun) ls hL)
    | ge => exact lv_if_ge hx hb hd ht (fun hc => sm _ _ _ ((if_pos hc).symm.trans hrun) ls hL) (fun hc => sm _ _ _ ((if_neg hc).symm.trans hrun) ls hL)
    | gt => exact lv_if_gt hx hb hd ht (fun hc => sm _ _ _ ((if_pos hc).symm.trans hrun) ls hL) (fun hc => sm _ _ _ ((if_neg hc).symm.trans hrun) ls hL)
    | le => exact lv_if_le hx hb hd ht (fun hc => sm _ _ _ ((if_pos hc).symm.trans hrun) ls hL) (fun hc => sm _ _ _ ((if_neg hc).symm.trans hrun) ls hL)
  | if_icmp cn off =>
    replace hrun : (xI2 st fun x y st => xif cn x y (xrun V F G fu M (a, lo, st) h) (xrun V F G fu M (nx, lo, st) h)) = some (o, hf) := hrun
    replace hok : (xdec M pc nx (.if_icmp cn off) 3 && decide ((pc : Int) + off = (a : Int))) = true := hok
    simp only [Bool.and_eq_true] at hok
    obtain ⟨hok, hok2⟩ := hok
    obtain ⟨hd, rfl⟩ := xdec_spec hok
    have ht := of_decide_eq_true hok2
    obtain ⟨x, y, st, rfl, hrun1⟩ := xI2_s hrun
    clear hrun
    have hrun := hrun1
    clear hrun1
    cases cn with
    | eq => exact lv_icmp_eq hx hb hd ht (fun hc => sm _ _ _ ((if_pos hc).symm.trans hrun) ls hL) (fun hc => sm _ _ _ ((if_neg hc).symm.trans hrun) ls hL)
    | ne => exact lv_icmp_ne hx hb hd ht (fun hc => sm _ _ _ ((if_neg hc).symm.trans hrun) ls hL) (fun hc => sm _ _ _ ((if_pos hc).symm.trans hrun) ls hL)
    | lt => exact lv_icmp_lt hx hb hd ht (fun hc => sm _ _ _ ((if_pos hc).symm.trans hrun) ls hL) (fun hc => sm _ _ _ ((if_neg hc).symm.trans hrun) ls hL)
    | ge => exact lv_icmp_ge hx hb hd ht (fun hc => sm _ _ _ ((if_pos hc).symm.trans hrun) ls hL) (fun hc => sm _ _ _ ((if_neg hc).symm.trans hrun) ls hL)
    | gt => exact lv_icmp_gt hx hb hd ht (fun hc => sm _ _ _ ((if_pos hc).symm.trans hrun) ls hL) (fun hc => sm _ _ _ ((if_neg hc).symm.trans hrun) ls hL)
    | le => exact lv_icmp_le hx hb hd ht (fun hc => sm _ _ _ ((if_pos hc).symm.trans hrun) ls hL) (fun hc => sm _ _ _ ((if_neg hc).symm.trans hrun) ls hL)
  | goto off =>
    replace hrun : (xrun V F G fu M (a, lo, st) h) = some (o, hf) := hrun
    replace hok : (xdec M pc nx (.goto off) 3 && decide ((pc : Int) + off = (a : Int))) = true := hok
    simp only [Bool.and_eq_true] at hok
    obtain ⟨hok, hok2⟩ := hok
    obtain ⟨hd, rfl⟩ := xdec_spec hok
    exact lv_goto hx hb hd (of_decide_eq_true hok2) (sm _ _ _ hrun ls hL)
  | tableswitch df lw hi offs =>
    replace hrun : (xI1 st fun x st => if x.toInt < lw ∨ hi < x.toInt then xrun V F G fu M (a, lo, st) h else
      xS offs[(x.toInt - lw).toNat]? fun o => xN ((pc : Int) + o < 0) (xrun V F G fu M (((pc : Int) + o).toNat, lo, st) h)) = some (o, hf) := hrun
    replace hok : (decide (decode (xby M) pc = .ok (.tableswitch df lw hi offs, nx - pc)) && decide ((pc : Int) + df = (a : Int))) = true := hok
    simp only [Bool.and_eq_true] at hok
    have hd := of_decide_eq_true hok.1
    have ht := of_decide_eq_true hok.2
    obtain ⟨x, st, rfl, hrun1⟩ := xI1_s hrun
    clear hrun
    have hrun := hrun1
    clear hrun1
    by_cases hq : x.toInt < lw ∨ hi < x.toInt
    · rw [if_pos hq] at hrun
      exact lv_tableOut hx hb hd hq ht (sm _ _ _ hrun ls hL)
    · rw [if_neg hq] at hrun
      obtain ⟨of, ho, hrun1⟩ := xS_s hrun
      clear hrun
      have hrun := hrun1
      clear hrun1
      obtain ⟨hn0, hrun1⟩ := xN_s hrun
      clear hrun
      have hrun := hrun1
      clear hrun1
      exact lv_tableIn hx hb hd (fun z => hq (Or.inl z)) (fun z => hq (Or.inr z)) ho (by omega) (sm _ _ _ hrun ls hL)
  | ireturn =>
    replace hok : (xdec M pc nx .ireturn 1) = true := hok
    obtain ⟨hd, rfl⟩ := xdec_spec hok
    replace hrun : (match (generalizing := false) st, xrt M with | [.int x], some .int => some (.inl (some (.int x)), h) | [.int x], some .boolean => xB (decide (x = 0 ∨ x = 1)) (some (.inl (some (.int x)), h)) | _, _ => none) = some (o, hf) := hrun
    split at hrun
    · next x he =>
      simp only [Option.some.injEq, Prod.mk.injEq] at hrun
      obtain ⟨rfl, rfl⟩ := hrun
      exact xW_mono (xMQ (v := some (.int x)) hR) (W.iret hx hb (hrt.trans he) (fun t ht _ => ⟨rfl, ht⟩) hl hd hlk)
    · next x he =>
      obtain ⟨h1, hrun1⟩ := xB_s hrun
      clear hrun
      have hrun := hrun1
      clear hrun1
      have h1 := of_decide_eq_true h1
      simp only [Option.some.injEq, Prod.mk.injEq] at hrun
      obtain ⟨rfl, rfl⟩ := hrun
      exact xW_mono (xMQ (v := some (.int x)) hR) (W.zret hx hb (hrt.trans he) (by rcases h1 with rfl | rfl <;> rfl) (fun t ht _ => ⟨rfl, ht⟩) hl hd hlk)
    · cases hrun
  | lreturn =>
    replace hok : (xdec M pc nx .lreturn 1) = true := hok
    obtain ⟨hd, rfl⟩ := xdec_spec hok
    replace hrun : (match (generalizing := false) st, xrt M with | [.long x], some .long => some (.inl (some (.long x)), h) | _, _ => none) = some (o, hf) := hrun
    split at hrun
    · next x he =>
      simp only [Option.some.injEq, Prod.mk.injEq] at hrun
      obtain ⟨rfl, rfl⟩ := hrun
      exact xW_mono (xMQ (v := some (.long x)) hR) (W.lret hx hb (hrt.trans he) (fun t ht _ => ⟨rfl, ht⟩) hl hd hlk)
    · cases hrun
  | areturn =>
    replace hok : (xdec M pc nx .areturn 1) = true := hok
    obtain ⟨hd, rfl⟩ := xdec_spec hok
    replace hrun : (match (generalizing := false) st, xrt M with | [.ref x], some (.object _) => some (.inl (some (.ref x)), h) | [.ref x], some (.array _) => some (.inl (some (.ref x)), h) | _, _ => none) = some (o, hf) := hrun
    split at hrun
    · next x nm he =>
      simp only [Option.some.injEq, Prod.mk.injEq] at hrun
      obtain ⟨rfl, rfl⟩ := hrun
      exact xW_mono (xMQ (v := some (.ref x)) hR) (W.aret hx hb (hrt.trans he) (Or.inl ⟨_, rfl⟩) (Or.inr ⟨_, rfl⟩) (fun t ht _ => ⟨rfl, ht⟩) hl hd hlk)
    · next x nm he =>
      simp only [Option.some.injEq, Prod.mk.injEq] at hrun
      obtain ⟨rfl, rfl⟩ := hrun
      exact xW_mono (xMQ (v := some (.ref x)) hR) (W.aret hx hb (hrt.trans he) (Or.inr ⟨_, rfl⟩) (Or.inr ⟨_, rfl⟩) (fun t ht _ => ⟨rfl, ht⟩) hl hd hlk)
    · cases hrun
  | return_ =>
    replace hok : (xdec M pc nx .return_ 1) = true := hok
    obtain ⟨hd, rfl⟩ := xdec_spec hok
    replace hrun : (match (generalizing := false) st, xrt M with | [], none => some (.inl none, h) | _, _ => none) = some (o, hf) := hrun
    split at hrun
    · next he =>
      simp only [Option.some.injEq, Prod.mk.injEq] at hrun
      obtain ⟨rfl, rfl⟩ := hrun
      exact xW_mono (xMQ (v := none) hR) (W.vret hx hb (hrt.trans he) (fun t ht _ => ⟨rfl, ht⟩) hl hd hlk)
    · cases hrun
  | getfield k =>
    replace hrun : (xA1 st fun o st => xcO (h.1 o) fun c fs => xB (Nat.beq c a) (xS (xnth fs b) fun w => xrun V F G fu M (nx, lo, w :: st) h)) = some (o, hf) := hrun
    replace hok : (xdec M pc nx (.getfield k) 3 && (match (generalizing := false) cl[a]? with | some (_, T, N) => Nat.blt b N && xin WL (hs.getD 0 0) (.fieldLink (xnm M).cls k (T b).1 (T b).2.1 (T b).2.2.1) | none => false)) = true := hok
    simp only [Bool.and_eq_true] at hok
    obtain ⟨hok, hok2⟩ := hok
    obtain ⟨hd, rfl⟩ := xdec_spec hok
    split at hok2
    · next C0 T0 N1 hc =>
      simp only [Bool.and_eq_true, Nat.blt_eq] at hok2
      obtain ⟨ob, st, rfl, hrun1⟩ := xA1_s hrun
      clear hrun
      have hrun := hrun1
      clear hrun1
      obtain ⟨c0, fs, ho, hrun1⟩ := xcO_s hrun
      clear hrun
      have hrun := hrun1
      clear hrun1
      obtain ⟨h1, hrun1⟩ := xB_s hrun
      clear hrun
      have hrun := hrun1
      clear hrun1
      have h1 := Nat.eq_of_beq_eq_true h1
      subst h1
      obtain ⟨w, hw, hrun1⟩ := xS_s hrun
      clear hrun
      have hrun := hrun1
      clear hrun1
      rw [xnth_eq] at hw
      exact xw_get hx hb hts hK hR (hU _ _ _ _ hc).1 hown ho hc hok2.1 (hts _ (xin_mem hok2.2)) hw hd (sm _ _ _ hrun ls hL)
    · cases hok2
  | putfield k =>
    replace hrun : (xAV st fun o w st => xvK v fun k => xcO (h.1 o) fun c fs => xB (Nat.beq c a && Nat.blt b fs.length && xfit k w) (xrun V F G fu M (nx, lo, st) (xset h o (xO' c (xupd fs b w))))) = some (o, hf) := hrun
    replace hok : (xdec M pc nx (.putfield k) 3 && (match (generalizing := false) cl[a]? with | some (_, T, N) => Nat.blt b N && xin WL (hs.getD 0 0) (.fieldLink (xnm M).cls k (T b).1 (T b).2.1 (T b).2.2.1) && (!(T b).2.2.2 || (decide ((xnm M).name = "<init>") && decide ((T b).1 = (xnm M).cls))) && (match (generalizing := false) v with | .retAddr q => xkind q (ty0 a b) | _ => false) | none => false)) = true := hok
    simp only [Bool.and_eq_true] at hok
    obtain ⟨hok, hok2⟩ := hok
    obtain ⟨hd, rfl⟩ := xdec_spec hok
    split at hok2
    · next C0 T0 N1 hc =>
      simp only [Bool.and_eq_true, Nat.blt_eq] at hok2
      obtain ⟨⟨⟨k1, k2⟩, k3⟩, k4⟩ := hok2
      obtain ⟨ob, w, st, rfl, hrun1⟩ := xAV_s hrun
      clear hrun
      have hrun := hrun1
      clear hrun1
      obtain ⟨kk, rfl, hrun1⟩ := xvK_s hrun
      clear hrun
      have hrun := hrun1
      clear hrun1
      obtain ⟨c0, fs, ho, hrun1⟩ := xcO_s hrun
      clear hrun
      have hrun := hrun1
      clear hrun1
      obtain ⟨h1, hrun1⟩ := xB_s hrun
      clear hrun
      have hrun := hrun1
      clear hrun1
      simp only [Bool.and_eq_true, Nat.blt_eq] at h1
      obtain ⟨⟨h1, h2⟩, h3⟩ := h1
      have h1 := Nat.eq_of_beq_eq_true h1
      subst h1
      have k4 : xkind kk (ty0 c0 b) = true := k4
      have hnf := xkind_fit k4 h3
      have hfin : (T0 b).2.2.2 = false ∨ ((T0 b).2.2.2 = true ∧ meth.name = "<init>" ∧ (T0 b).1 = (xnm M).cls) := by
        cases hfl : (T0 b).2.2.2 with
        | false => exact Or.inl rfl
        | true =>
          rw [hfl] at k3
          simp only [Bool.not_true, Bool.false_or, Bool.and_eq_true, decide_eq_true_eq] at k3
          exact Or.inr ⟨rfl, (name_of_methodNamed hnm hmeth).1.trans k3.1, k3.2⟩
      obtain ⟨u1, u2, u3, -⟩ := hU _ _ _ _ hc
      exact xw_put hx hb hts hK hR hl u1 (ty0 c0) u2 u3 hown ho hc k1 (hts _ (xin_mem k2)) hfin hnf.1 hnf.2 h2 hd (fun H1 locs1 r1 r2 => go (_, _, _) _ hrun hN hS H1 locs1 ls r1 hL r2)
    · cases hok2
  | iaload =>
    replace hrun : (xAI st fun o j st => xcI (h.1 o) fun t n g => xB (Nat.beq t 0 || Nat.beq t 3) (xN (j < 0 ∨ n ≤ j.toNatClampNeg) (xrun V F G fu M (nx, lo, .int (g j.toNatClampNeg) :: st) h))) = some (o, hf) := hrun
    replace hok : (xdec M pc nx .iaload 1) = true := hok
    obtain ⟨hd, rfl⟩ := xdec_spec hok
    obtain ⟨ob, j, st, rfl, hrun1⟩ := xAI_s hrun
    clear hrun
    have hrun := hrun1
    clear hrun1
    obtain ⟨t, n1, gg, ho, hrun1⟩ := xcI_s hrun
    clear hrun
    have hrun := hrun1
    clear hrun1
    obtain ⟨h1, hrun1⟩ := xB_s hrun
    clear hrun
    have hrun := hrun1
    clear hrun1
    obtain ⟨hj, hrun1⟩ := xN_s hrun
    clear hrun
    have hrun := hrun1
    clear hrun1
    simp only [Bool.or_eq_true] at h1
    exact xw_iald hx hb hR ho (h1.imp Nat.eq_of_beq_eq_true Nat.eq_of_beq_eq_true) hj hd (sm _ _ _ hrun ls hL)
  | baload =>
    replace hrun : (xAI st fun o j st => xcI (h.1 o) fun t n g => xB (Nat.beq t 2) (xN (j < 0 ∨ n ≤ j.toNatClampNeg) (xrun V F G fu M (nx, lo, .int (g j.toNatClampNeg) :: st) h))) = some (o, hf) := hrun
    replace hok : (xdec M pc nx .baload 1) = true := hok
    obtain ⟨hd, rfl⟩ := xdec_spec hok
    obtain ⟨ob, j, st, rfl, hrun1⟩ := xAI_s hrun
    clear hrun
    have hrun := hrun1
    clear hrun1
    obtain ⟨t, n1, gg, ho, hrun1⟩ := xcI_s hrun
    clear hrun
    have hrun := hrun1
    clear hrun1
    obtain ⟨h1, hrun1⟩ := xB_s hrun
    clear hrun
    have hrun := hrun1
    clear hrun1
    obtain ⟨hj, hrun1⟩ := xN_s hrun
    clear hrun
    have hrun := hrun1
    clear hrun1
    have h1 := Nat.eq_of_beq_eq_true h1
    subst h1
    exact xw_zald hx hb hR ho hj hd (sm _ _ _ hrun ls hL)
  | laload =>
    replace hrun : (xAI st fun o j st => xcL (h.1 o) fun t n g => xB (Nat.beq t 1) (xN (j < 0 ∨ n ≤ j.toNatClampNeg) (xrun V F G fu M (nx, lo, .long (g j.toNatClampNeg) :: st) h))) = some (o, hf) := hrun
    replace hok : (xdec M pc nx .laload 1) = true := hok
    obtain ⟨hd, rfl⟩ := xdec_spec hok
    obtain ⟨ob, j, st, rfl, hrun1⟩ := xAI_s hrun
    clear hrun
    have hrun := hrun1
    clear hrun1
    obtain ⟨t, n1, gg, ho, hrun1⟩ := xcL_s hrun
    clear hrun
    have hrun := hrun1
    clear hrun1
    obtain ⟨h1, hrun1⟩ := xB_s hrun
    clear hrun
    have hrun := hrun1
    clear hrun1
    obtain ⟨hj, hrun1⟩ := xN_s hrun
    clear hrun
    have hrun := hrun1
    clear hrun1
    have h1 := Nat.eq_of_beq_eq_true h1
    subst h1
    exact xw_lald hx hb hR ho hj hd (sm _ _ _ hrun ls hL)
  | aaload =>
    replace hrun : (xAI st fun o j st => xcR (h.1 o) fun t n g => xB (Nat.ble 4 t) (xN (j < 0 ∨ n ≤ j.toNatClampNeg) (xS (g j.toNatClampNeg) fun w => xrun V F G fu M (nx, lo, .ref w :: st) h))) = some (o, hf) := hrun
    replace hok : (xdec M pc nx .aaload 1) = true := hok
    obtain ⟨hd, rfl⟩ := xdec_spec hok
    obtain ⟨ob, j, st, rfl, hrun1⟩ := xAI_s hrun
    clear hrun
    have hrun := hrun1
    clear hrun1
    obtain ⟨t, n1, gg, ho, hrun1⟩ := xcR_s hrun
    clear hrun
    have hrun := hrun1
    clear hrun1
    obtain ⟨h1, hrun1⟩ := xB_s hrun
    clear hrun
    have hrun := hrun1
    clear hrun1
    obtain ⟨hj, hrun1⟩ := xN_s hrun
    clear hrun
    have hrun := hrun1
    clear hrun1
    obtain ⟨w, hw, hrun1⟩ := xS_s hrun
    clear hrun
    have hrun := hrun1
    clear hrun1
    exact xw_aald hx hb hR ho (Nat.le_of_ble_eq_true h1) hj hw hd (sm _ _ _ hrun ls hL)
  | iastore =>
    replace hrun : (xAII st fun o j x st => xcI (h.1 o) fun t n g => xB (Nat.beq t 0) (xN (j < 0 ∨ n ≤ j.toNatClampNeg) (xrun V F G fu M (nx, lo, st) (xset h o (xA t n (xint (upd g j.toNatClampNeg x))))))) = some (o, hf) := hrun
    replace hok : (xdec M pc nx .iastore 1) = true := hok
    obtain ⟨hd, rfl⟩ := xdec_spec hok
    obtain ⟨ob, j, x, st, rfl, hrun1⟩ := xAII_s hrun
    clear hrun
    have hrun := hrun1
    clear hrun1
    obtain ⟨t, n1, gg, ho, hrun1⟩ := xcI_s hrun
    clear hrun
    have hrun := hrun1
    clear hrun1
    obtain ⟨h1, hrun1⟩ := xB_s hrun
    clear hrun
    have hrun := hrun1
    clear hrun1
    obtain ⟨hj, hrun1⟩ := xN_s hrun
    clear hrun
    have hrun := hrun1
    clear hrun1
    have h1 := Nat.eq_of_beq_eq_true h1
    subst h1
    exact xw_iast hx hb hR hl ho hj hd (fun H1 locs1 r1 r2 => go (_, _, _) _ hrun hN hS H1 locs1 ls r1 hL r2)
  | lastore =>
    replace hrun : (xAIL st fun o j x st => xcL (h.1 o) fun t n g => xB (Nat.beq t 1) (xN (j < 0 ∨ n ≤ j.toNatClampNeg) (xrun V F G fu M (nx, lo, st) (xset h o (xA t n (xlng (vp_updL g j.toNatClampNeg x))))))) = some (o, hf) := hrun
    replace hok : (xdec M pc nx .lastore 1) = true := hok
    obtain ⟨hd, rfl⟩ := xdec_spec hok
    obtain ⟨ob, j, x, st, rfl, hrun1⟩ := xAIL_s hrun
    clear hrun
    have hrun := hrun1
    clear hrun1
    obtain ⟨t, n1, gg, ho, hrun1⟩ := xcL_s hrun
    clear hrun
    have hrun := hrun1
    clear hrun1
    obtain ⟨h1, hrun1⟩ := xB_s hrun
    clear hrun
    have hrun := hrun1
    clear hrun1
    obtain ⟨hj, hrun1⟩ := xN_s hrun
    clear hrun
    have hrun := hrun1
    clear hrun1
    have h1 := Nat.eq_of_beq_eq_true h1
    subst h1
    exact xw_last hx hb hR hl ho hj hd (fun H1 locs1 r1 r2 => go (_, _, _) _ hrun hN hS H1 locs1 ls r1 hL r2)
  | bastore =>
    replace hrun : (xAII st fun o j x st => xcI (h.1 o) fun t n g => xB (Nat.beq t 2 && decide (x = 0 ∨ x = 1)) (xN (j < 0 ∨ n ≤ j.toNatClampNeg) (xrun V F G fu M (nx, lo, st) (xset h o (xA t n (xint (upd g j.toNatClampNeg x))))))) = some (o, hf) := hrun
    replace hok : (xdec M pc nx .bastore 1) = true := hok
    obtain ⟨hd, rfl⟩ := xdec_spec hok
    obtain ⟨ob, j, x, st, rfl, hrun1⟩ := xAII_s hrun
    clear hrun
    have hrun := hrun1
    clear hrun1
    obtain ⟨t, n1, gg, ho, hrun1⟩ := xcI_s hrun
    clear hrun
    have hrun := hrun1
    clear hrun1
    obtain ⟨h1, hrun1⟩ := xB_s hrun
    clear hrun
    have hrun := hrun1
    clear hrun1
    obtain ⟨hj, hrun1⟩ := xN_s hrun
    clear hrun
    have hrun := hrun1
    clear hrun1
    simp only [Bool.and_eq_true] at h1
    have h2 := of_decide_eq_true h1.2
    have h1 := Nat.eq_of_beq_eq_true h1.1
    subst h1
    exact xw_zast hx hb hR hl ho h2 hj hd (fun H1 locs1 r1 r2 => go (_, _, _) _ hrun hN hS H1 locs1 ls r1 hL r2)
  | aastore =>
    replace hrun : (xAIA st fun o j w st => xcR (h.1 o) fun t n g => xcO (h.1 w) fun c _ => xB (Nat.beq t (5 + c)) (xN (j < 0 ∨ n ≤ j.toNatClampNeg) (xrun V F G fu M (nx, lo, st) (xset h o (xA t n (xref (va_up g j.toNatClampNeg (some w)))))))) = some (o, hf) := hrun
    replace hok : (xdec M pc nx .aastore 1) = true := hok
    obtain ⟨hd, rfl⟩ := xdec_spec hok
    obtain ⟨ob, j, w, st, rfl, hrun1⟩ := xAIA_s hrun
    clear hrun
    have hrun := hrun1
    clear hrun1
    obtain ⟨t, n1, gg, ho, hrun1⟩ := xcR_s hrun
    clear hrun
    have hrun := hrun1
    clear hrun1
    obtain ⟨c0, fs, hw, hrun1⟩ := xcO_s hrun
    clear hrun
    have hrun := hrun1
    clear hrun1
    obtain ⟨h1, hrun1⟩ := xB_s hrun
    clear hrun
    have hrun := hrun1
    clear hrun1
    obtain ⟨hj, hrun1⟩ := xN_s hrun
    clear hrun
    have hrun := hrun1
    clear hrun1
    have h1 := Nat.eq_of_beq_eq_true h1
    subst h1
    exact xw_aast hx hb hK hR hl ho hw hj hd (fun H1 locs1 r1 r2 => go (_, _, _) _ hrun hN hS H1 locs1 ls r1 hL r2)
  | arraylength =>
    replace hrun : (xA1 st fun o st => xcA (h.1 o) fun n => xrun V F G fu M (nx, lo, .int (Int32.ofNat n) :: st) h) = some (o, hf) := hrun
    replace hok : (xdec M pc nx .arraylength 1) = true := hok
    obtain ⟨hd, rfl⟩ := xdec_spec hok
    obtain ⟨ob, st, rfl, hrun1⟩ := xA1_s hrun
    clear hrun
    have hrun := hrun1
    clear hrun1
    obtain ⟨t, n1, gg, ho, hrun1⟩ := xcA_s hrun
    clear hrun
    have hrun := hrun1
    clear hrun1
    exact xw_alen hx hb hR ho hd (sm _ _ _ hrun ls hL)
  | newarray k =>
    replace hrun : (xI1 st fun n st => xN (n < 0 ∨ 1000000 < n.toNatClampNeg) (xrun V F G fu M (nx, lo, .ref h.2.1 :: st) (xnew h (xA a n.toNatClampNeg (xzero a)) n.toNatClampNeg))) = some (o, hf) := hrun
    replace hok : (xdec M pc nx (.newarray k) 2 && xnat a k && xin WL (hs.getD 0 0) (.arrayClass (newarray.typeOf k))) = true := hok
    simp only [Bool.and_eq_true] at hok
    obtain ⟨⟨hok, hok2⟩, hok3⟩ := hok
    obtain ⟨hd, rfl⟩ := xdec_spec hok
    obtain ⟨x, st, rfl, hrun1⟩ := xI1_s hrun
    clear hrun
    have hrun := hrun1
    clear hrun1
    obtain ⟨hj, hrun1⟩ := xN_s hrun
    clear hrun
    have hrun := hrun1
    clear hrun1
    have mo := xrun_mono fu _ _ _ _ hrun
    dsimp only [xnew] at mo
    refine xw_newa hx hb hR (of_decide_eq_true hok2) (hts _ (xin_mem hok3)) (fun z => hj (Or.inl z)) (by omega) (by omega) (by omega) hd (fun H1 r1 => ?_)
    refine W.cs (cells' := h.2.1 + 1 - N0) (slots' := h.2.2 + x.toNatClampNeg - S0) (by omega) (by omega) ?_
    exact go (_, _, _) _ hrun (Nat.le_succ_of_le hN) (Nat.le_trans hS (Nat.le_add_right _ _)) H1 locs ls r1 hL hl
  | anewarray k =>
    replace hrun : (xI1 st fun n st => xN (n < 0 ∨ 1000000 < n.toNatClampNeg) (xrun V F G fu M (nx, lo, .ref h.2.1 :: st) (xnew h (xA a n.toNatClampNeg (xzero a)) n.toNatClampNeg))) = some (o, hf) := hrun
    replace hok : (xdec M pc nx (.anewarray k) 3 && Nat.ble 5 a && (match (generalizing := false) cl[a - 5]? with | some r => xin WL (hs.getD 0 0) (.classLink (xnm M).cls k r.1) && xin WL (hs.getD 1 0) (.arrayOver (.object r.1)) | none => false)) = true := hok
    simp only [Bool.and_eq_true] at hok
    obtain ⟨⟨hok, hok2⟩, hok3⟩ := hok
    obtain ⟨hd, rfl⟩ := xdec_spec hok
    have hok2 := Nat.le_of_ble_eq_true hok2
    obtain ⟨k5, rfl⟩ : ∃ k5, a = 5 + k5 := ⟨a - 5, by omega⟩
    rw [show 5 + k5 - 5 = k5 by omega] at hok3
    split at hok3
    · next r hc =>
      simp only [Bool.and_eq_true] at hok3
      obtain ⟨x, st, rfl, hrun1⟩ := xI1_s hrun
      clear hrun
      have hrun := hrun1
      clear hrun1
      obtain ⟨hj, hrun1⟩ := xN_s hrun
      clear hrun
      have hrun := hrun1
      clear hrun1
      have mo := xrun_mono fu _ _ _ _ hrun
      dsimp only [xnew] at mo
      refine xw_newq hx hb hR hc hown (hts _ (xin_mem hok3.1)) (hts _ (xin_mem hok3.2)) (fun z => hj (Or.inl z)) (by omega) (by omega) (by omega) hd (fun H1 r1 => ?_)
      refine W.cs (cells' := h.2.1 + 1 - N0) (slots' := h.2.2 + x.toNatClampNeg - S0) (by omega) (by omega) ?_
      exact go (_, _, _) _ hrun (Nat.le_succ_of_le hN) (Nat.le_trans hS (Nat.le_add_right _ _)) H1 locs ls r1 hL hl
    · cases hok3
  | multianewarray k dm =>
    replace hrun : (xI2 st fun n k st => xN (n < 0 ∨ 1000 < n.toNatClampNeg ∨ k < 0 ∨ 1000000 < k.toNatClampNeg) (xrun V F G fu M (nx, lo, .ref h.2.1 :: st) (xgrid h a b n.toNatClampNeg k.toNatClampNeg))) = some (o, hf) := hrun
    replace hok : (xdec M pc nx (.multianewarray k dm) 4 && Nat.beq dm 2 && Nat.beq a 4 && Nat.beq b 0 && xin WL (hs.getD 0 0) (.classLink (xnm M).cls k "[[I") && xin WL (hs.getD 1 0) (.arrayOver (.array .int)) && xin WL (hs.getD 2 0) (.arrayClass .int)) = true := hok
    simp only [Bool.and_eq_true] at hok
    obtain ⟨⟨⟨⟨⟨⟨hok, o1⟩, o2⟩, o3⟩, o4⟩, o5⟩, o6⟩ := hok
    obtain ⟨hd, rfl⟩ := xdec_spec hok
    have o1 := Nat.eq_of_beq_eq_true o1
    have o2 := Nat.eq_of_beq_eq_true o2
    have o3 := Nat.eq_of_beq_eq_true o3
    subst o1
    subst o2
    subst o3
    obtain ⟨x, y, st, rfl, hrun1⟩ := xI2_s hrun
    clear hrun
    have hrun := hrun1
    clear hrun1
    obtain ⟨hj, hrun1⟩ := xN_s hrun
    clear hrun
    have hrun := hrun1
    clear hrun1
    have mo := xrun_mono fu _ _ _ _ hrun
    dsimp only [xgrid] at mo
    refine xw_grid hx hb hR hl hown (hts _ (xin_mem o4)) (hts _ (xin_mem o5)) (hts _ (xin_mem o6)) (fun z => hj (Or.inl z)) (fun z => hj (Or.inr (Or.inr (Or.inl z)))) (by omega) (by omega) (by omega) (by omega) hd (fun H1 locs1 r1 r2 => ?_)
    refine W.cs (cells' := h.2.1 + 1 + x.toNatClampNeg - N0) (slots' := h.2.2 + x.toNatClampNeg + x.toNatClampNeg * y.toNatClampNeg - S0) (by omega) (by omega) ?_
    exact go (_, _, _) _ hrun (by dsimp only [xgrid]; omega) (by dsimp only [xgrid]; omega) H1 locs1 ls r1 hL r2
  | new k =>
    have rest : (xdec M pc nx (.new k) 3 && (match (generalizing := false) cl[a]? with | some (C, _, _) => xin WL (hs.getD 0 0) (.classLink (xnm M).cls k C) && xin WL (hs.getD 1 0) (.instantiable C b) && xin WL (hs.getD 2 0) (.initialized C) | none => false)) = true → xrun V F G fu M (nx, lo, .ref h.2.1 :: st) (xnew h (xO' a (F a)) b) = some (o, hf) → W p l e R s m args below meth c H locs (h.2.1 - N0) (h.2.2 - S0) (xQ D cl H0 s below o hf N0 S0) (F0 m pc ls st) := by
      clear hrun hok
      intro hok hrun
      simp only [Bool.and_eq_true] at hok
      obtain ⟨hok, hok2⟩ := hok
      obtain ⟨hd, rfl⟩ := xdec_spec hok
      split at hok2
      · next C0 T0 N1 hc =>
        simp only [Bool.and_eq_true] at hok2
        have mo := xrun_mono fu _ _ _ _ hrun
        dsimp only [xnew] at mo
        obtain ⟨u1, u2, u3, u4⟩ := hU _ _ _ _ hc
        refine xw_new hx hb hts hK hR u1 (ty0 a) u2 hown hc (hts _ (xin_mem hok2.1.1)) (hts _ (xin_mem hok2.1.2)) (hts _ (xin_mem hok2.2)) u4 (by omega) (by omega) hd (fun H1 r1 => ?_)
        refine W.cs (cells' := h.2.1 + 1 - N0) (slots' := h.2.2 + b - S0) (by omega) (by omega) ?_
        exact go (_, _, _) _ hrun (Nat.le_succ_of_le hN) (Nat.le_trans hS (Nat.le_add_right _ _)) H1 locs ls r1 hL hl
      · cases hok2
    cases v with
    | null =>
      rcases st with _ | ⟨w, st⟩
      case cons => cases hrun
      replace hrun : some (Sum.inr (a, h.2.1), xnew h (xO' a []) b) = some (o, hf) := hrun
      replace hok : xtok WL HL cl SL NM M pc k a b hs = true := hok
      simp only [Option.some.injEq, Prod.mk.injEq] at hrun
      obtain ⟨rfl, rfl⟩ := hrun
      exact hthr M p e R s m args below meth c C pc k a b nx hs h N0 S0 hok hN hS hRc hRs H locs ls hR hL hl
    | int x => exact rest hok hrun
    | long x => exact rest hok hrun
    | float x => exact rest hok hrun
    | double x => exact rest hok hrun
    | ref x => exact rest hok hrun
    | retAddr x => exact rest hok hrun
  | invokestatic k =>
    have rest : (xdec M pc nx (.invokestatic k) 3 && Nat.blt a nG && xlink WL host (xnm M).cls (hs.getD 0 0) k (xnm (G a)) && xin WL (hs.getD 1 0) (.static (xnm (G a))) && xpar (G a) b && xroom M (G a)) = true → (xS (xpop b [] st) fun q => xcall G (xrun V F G fu) M pc nx lo a q.1 q.2 h) = some (o, hf) → W p l e R s m args below meth c H locs (h.2.1 - N0) (h.2.2 - S0) (xQ D cl H0 s below o hf N0 S0) (F0 m pc ls st) := by
      clear hrun hok
      intro hok hrun
      simp only [Bool.and_eq_true] at hok
      obtain ⟨⟨⟨⟨⟨hok, o1⟩, o2⟩, o3⟩, o4⟩, o5⟩ := hok
      obtain ⟨hd, rfl⟩ := xdec_spec hok
      obtain ⟨⟨as, rs⟩, hq, hrun1⟩ := xS_s hrun
      clear hrun
      have hrun := hrun1
      clear hrun1
      obtain ⟨hlen, rfl⟩ := xpop_nil hq
      have hz : a < nG := by simpa using o1
      exact x_call ih hG C hz hrun hd o5 hN hS hRc hRs hR hL hl (fun T hT X mk hmk => x_entS X hx hb hown hsf.1 (hG a hz).1 o2 (xin_mem o3) o4 hlen hmk hd)
    cases v with
    | retAddr x =>
      replace hrun : (xcopy st fun s sp d dp n' st => xcI (h.1 s) fun t n0 g => xcI (h.1 d) fun t' n1 g' => xB (Nat.beq t 0 && Nat.beq t' 0) (xN (sp < 0 ∨ dp < 0 ∨ n' < 0 ∨ n0 < sp.toNatClampNeg + n'.toNatClampNeg ∨ n1 < dp.toNatClampNeg + n'.toNatClampNeg) (xB (Nat.ble (xwt st) 8) (xrun V F G fu M (nx, lo, st) (xset h d (xA t' n1 (xint (va_cpy g g' sp.toNatClampNeg dp.toNatClampNeg n'.toNatClampNeg)))))))) = some (o, hf) := hrun
      replace hok : (xdec M pc nx (.invokestatic k) 3 && xin WL (hs.getD 0 0) (.methodLink (xnm M).cls k arraycopyName) && xin WL (hs.getD 1 0) (.native arraycopyName) && xin WL (hs.getD 2 0) (.static arraycopyName) && xin WL (hs.getD 3 0) (.initialized "java/lang/System") && Nat.ble 1 (xdp M) && Nat.ble (8 + (nativeFrameWords "java/lang/System" "arraycopy" 5 + 11)) (xlc M)) = true := hok
      simp only [Bool.and_eq_true] at hok
      obtain ⟨⟨⟨⟨⟨⟨hok, o1⟩, o2⟩, o3⟩, o4⟩, o5⟩, o6⟩ := hok
      obtain ⟨hd, rfl⟩ := xdec_spec hok
      obtain ⟨sa, sp, da, dp, n', st, rfl, hrun1⟩ := xcopy_s hrun
      clear hrun
      have hrun := hrun1
      clear hrun1
      obtain ⟨t, n0, g0, hs0, hrun1⟩ := xcI_s hrun
      clear hrun
      have hrun := hrun1
      clear hrun1
      obtain ⟨t', n1, g1, hd0, hrun1⟩ := xcI_s hrun
      clear hrun
      have hrun := hrun1
      clear hrun1
      obtain ⟨h1, hrun1⟩ := xB_s hrun
      clear hrun
      have hrun := hrun1
      clear hrun1
      obtain ⟨hj, hrun1⟩ := xN_s hrun
      clear hrun
      have hrun := hrun1
      clear hrun1
      obtain ⟨h2, hrun1⟩ := xB_s hrun
      clear hrun
      have hrun := hrun1
      clear hrun1
      simp only [Bool.and_eq_true] at h1
      have t1 := Nat.eq_of_beq_eq_true h1.1
      have t2 := Nat.eq_of_beq_eq_true h1.2
      subst t1
      subst t2
      have h2 := Nat.le_of_ble_eq_true h2
      have o5 := Nat.le_of_ble_eq_true o5
      have o6 := Nat.le_of_ble_eq_true o6
      exact xw_copy hx hb (hml.trans hL.1.symm) hown (hts _ (xin_mem o1)) (hts _ (xin_mem o2)) (hts _ (xin_mem o3)) (hts _ (xin_mem o4)) hR hl hs0 hd0 (fun z => hj (Or.inl z)) (fun z => hj (Or.inr (Or.inl z))) (fun z => hj (Or.inr (Or.inr (Or.inl z)))) (by omega) (by omega) (Nat.le_trans o5 hfr) (by rw [← xwt_eq]; omega) hd (fun H1 locs1 r1 r2 => go (_, _, _) _ hrun hN hS H1 locs1 ls r1 hL r2)
    | int x => exact rest hok hrun
    | long x => exact rest hok hrun
    | float x => exact rest hok hrun
    | double x => exact rest hok hrun
    | ref x => exact rest hok hrun
    | null => exact rest hok hrun
  | invokevirtual k =>
    replace hrun : (xS (xpop b [] st) fun q => match (generalizing := false) q.1 with | .ref o :: as => xvK v fun k => xcO (h.1 o) fun c _ => xB (Nat.beq c k) (xcall G (xrun V F G fu) M pc nx lo a (.ref o :: as) q.2 h) | _ => none) = some (o, hf) := hrun
    replace hok : (xdec M pc nx (.invokevirtual k) 3 && Nat.blt a nG && xlink WL host (xnm M).cls (hs.getD 0 0) k (xnm (G a)) && xin WL (hs.getD 1 0) (.instanceMethod (xnm (G a))) && xin WL (hs.getD 2 0) (.selects (xnm (G a)).cls (xnm (G a)) (xnm (G a))) && Nat.blt 0 b && xpar (G a) (b - 1) && xroom M (G a) && (match (generalizing := false) v with | .retAddr q => (match (generalizing := false) cl[q]? with | some (C, _, _) => decide (C = (xnm (G a)).cls) | none => false) | _ => false)) = true := hok
    simp only [Bool.and_eq_true] at hok
    obtain ⟨⟨⟨⟨⟨⟨⟨⟨hok, o1⟩, o2⟩, o3⟩, o4⟩, o5⟩, o6⟩, o7⟩, o8⟩ := hok
    obtain ⟨hd, rfl⟩ := xdec_spec hok
    obtain ⟨⟨as, rs⟩, hq, hrun1⟩ := xS_s hrun
    clear hrun
    have hrun := hrun1
    clear hrun1
    obtain ⟨hlen, rfl⟩ := xpop_nil hq
    have hz : a < nG := by simpa using o1
    have hb0 : 0 < b := by simpa using o5
    dsimp only at hrun
    split at hrun
    · next ob as' =>
      obtain ⟨kq, rfl, hrun1⟩ := xvK_s hrun
      clear hrun
      have hrun := hrun1
      clear hrun1
      obtain ⟨c0, fs, ho, hrun1⟩ := xcO_s hrun
      clear hrun
      have hrun := hrun1
      clear hrun1
      obtain ⟨h1, hrun1⟩ := xB_s hrun
      clear hrun
      have hrun := hrun1
      clear hrun1
      have h1 := Nat.eq_of_beq_eq_true h1
      subst h1
      dsimp only at o8
      split at o8
      · next C0 T0 N1 hc =>
        have o8 := of_decide_eq_true o8
        obtain ⟨r, hr, cellR, r1, r2, r3, -⟩ := (hR.2.2.2 ob _ ho).1
        cases hc.symm.trans hr
        have hcls : s.vm.findClass (xnm (G a)).cls = some cellR.cls := by rw [← o8, r2]; exact (hK.1 _ _ hc).2.1
        exact x_call ih hG C hz hrun hd o7 hN hS hRc hRs hR hL hl (fun T hT X mk hmk => x_entV X hx hb hown hsf.1 (hG a hz).1 o2 (xin_mem o3) (xin_mem o4) o6 (by simpa using (by simp only [List.length_cons] at hlen; omega)) hmk (by rw [hT]; exact r1) (by rw [r3]; rfl) hcls hd)
      · cases o8
    · cases hrun
  | invokespecial k =>
    have rest : (xdec M pc nx (.invokespecial k) 3 && Nat.blt a nG && xlink WL host (xnm M).cls (hs.getD 0 0) k (xnm (G a)) && xin WL (hs.getD 1 0) (.instanceMethod (xnm (G a))) && decide ((xnm (G a)).name = "<init>") && decide (xhs (G a) = []) && decide (xrt (G a) = none) && Nat.blt 0 b && xpar (G a) (b - 1) && xroom M (G a)) = true → (xS (xpop b [] st) fun q => match (generalizing := false) q.1 with | .ref o :: as => xcall G (xrun V F G fu) M pc nx lo a (.ref o :: as) q.2 h | _ => none) = some (o, hf) → W p l e R s m args below meth c H locs (h.2.1 - N0) (h.2.2 - S0) (xQ D cl H0 s below o hf N0 S0) (F0 m pc ls st) := by
      clear hrun hok
      intro hok hrun
      simp only [Bool.and_eq_true] at hok
      obtain ⟨⟨⟨⟨⟨⟨⟨⟨⟨hok, o1⟩, o2⟩, o3⟩, o4⟩, o4b⟩, o4c⟩, o5⟩, o6⟩, o7⟩ := hok
      obtain ⟨hd, rfl⟩ := xdec_spec hok
      obtain ⟨⟨as, rs⟩, hq, hrun1⟩ := xS_s hrun
      clear hrun
      have hrun := hrun1
      clear hrun1
      obtain ⟨hlen, rfl⟩ := xpop_nil hq
      have hz : a < nG := by simpa using o1
      have hb0 : 0 < b := by simpa using o5
      dsimp only at hrun
      split at hrun
      · next ob as' =>
        exact x_call ih hG C hz hrun hd o7 hN hS hRc hRs hR hL hl (fun T hT X mk hmk => x_entI X hx hb hown hsf.1 (hG a hz).1 o2 (xin_mem o3) (of_decide_eq_true o4) (of_decide_eq_true o4b) (of_decide_eq_true o4c) o6 (by simp only [List.length_cons] at hlen; omega) hmk hd)
      · cases hrun
    cases v with
    | null =>
      replace hrun : (xA1 st fun _ st => xB (Nat.ble (xwt st) 8) (xrun V F G fu M (nx, lo, st) h)) = some (o, hf) := hrun
      replace hok : (xdec M pc nx (.invokespecial k) 3 && xin WL (hs.getD 0 0) (.methodLink (xnm M).cls k Lib.objectInit) && xin WL (hs.getD 1 0) (.instanceMethod Lib.objectInit) && xin WL (hs.getD 2 0) (.code Lib.objectInit ⟨#[0xb1]⟩ 1 none) && Nat.ble 1 (xdp M) && Nat.ble 20 (xlc M)) = true := hok
      simp only [Bool.and_eq_true] at hok
      obtain ⟨⟨⟨⟨⟨hok, o1⟩, o2⟩, o3⟩, o4⟩, o5⟩ := hok
      obtain ⟨hd, rfl⟩ := xdec_spec hok
      obtain ⟨ob, st, rfl, hrun1⟩ := xA1_s hrun
      clear hrun
      have hrun := hrun1
      clear hrun1
      obtain ⟨h1, hrun1⟩ := xB_s hrun
      clear hrun
      have hrun := hrun1
      clear hrun1
      have h1 := Nat.le_of_ble_eq_true h1
      have o4 := Nat.le_of_ble_eq_true o4
      have o5 := Nat.le_of_ble_eq_true o5
      rw [xwt_eq] at h1
      exact W.objInit hx hb hown (hts _ (xin_mem o1)) (hts _ (xin_mem o2)) (hts _ (xin_mem o3)) rfl (by rw [hml]; exact hL.1) rfl hd (Nat.le_trans o4 hfr) (by show 2 * 0 + _ + 12 ≤ _; omega) (sm _ _ _ hrun ls hL)
    | int x => exact rest hok hrun
    | long x => exact rest hok hrun
    | float x => exact rest hok hrun
    | double x => exact rest hok hrun
    | ref x => exact rest hok hrun
    | retAddr x => exact rest hok hrun
  | _ => cases hrun
end
section
/-! a walk that begins anew where it stands; making and throwing -/
section XRB
variable {p : Program} {l : Launch} {e : Env} {R : Room} {s : State} {m : MethodId} {args : Array Value} {below : List Frame} {meth : Method} {c : Code} {T : State} {locs : List Loc} {cells slots : Nat}
theorem x_rebase (X : Stand p l e R s m args below meth c T locs cells slots) (hc : cells ≤ R.cells) (hs : slots ≤ R.slots) :
    Stand p l e { frames := R.frames, cells := R.cells - cells, slots := R.slots - slots, locals := R.locals } (T.setFrames (.invoking m args :: below)) m args below meth c T [] 0 0 := by
  obtain ⟨g₀, hfr⟩ := X.frames_eq
  have hcur : T.cur < T.threads.size := State.cur_lt_of_frames hfr
  have hfs : (T.setFrames (.invoking m args :: below)).frames = .invoking m args :: below := State.frames_setFrames _ hcur
  obtain ⟨th, hth, -⟩ := State.frames_cons hfr
  have hT : (T.setFrames (.invoking m args :: below)).setFrames T.frames = T := by rw [State.setFrames_setFrames, State.setFrames_self hth]
  have hmT : T.vm.method? m = some meth := X.method'
  refine ⟨X.admits, X.cas, X.clock, hfs, ?_, ?_, hmT, X.code, X.here, X.tail, State.WarmedH.refl _, (State.stackLimits_setFrames _ _ _).symm, (State.stackBytes_setFrames _ _).symm, ?_⟩
  · have hr := X.room
    have hcl := X.cellsAbove (n := R.cells - cells) (by omega)
    have hsl := X.slotsAbove (n := R.slots - slots) (by omega)
    have hbk := X.book
    have l1 := State.localsInUse_invoking X.frames X.method X.code
    have l2 := State.localsInUse_invoking (s := T.setFrames (.invoking m args :: below)) hfs hmT X.code
    simp only [State.hasRoom, Bool.and_eq_true, decide_eq_true_eq] at hr ⊢
    obtain ⟨⟨⟨⟨r1, r2⟩, r3⟩, r4⟩, r5⟩ := hr
    rw [X.frames, l1] at r2
    rw [l1] at r1
    rw [hfs, l2, State.stackLimits_setFrames, State.stackBytes_setFrames, X.limits, X.bytes]
    exact ⟨⟨⟨⟨r1, r2⟩, hcl⟩, hsl⟩, hbk⟩
  · have hh := X.hears
    have hal := X.warmed.alike
    cases below with
    | nil =>
      simp only [State.hears] at hh ⊢
      show (T.vm.method? m).any _ = true
      rw [hal.method?]; exact hh
    | cons f r =>
      cases f <;> simp only [State.hears, State.code?_eq] at hh ⊢ <;> first | rfl | (show _ = true; first | (rw [show (T.setFrames _).vm = T.vm from rfl, hal.method?]; exact hh) | exact hh)
  · obtain ⟨t2, ht2, -⟩ := State.frames_cons hfs
    have h1 := (State.sameButNew.refl (T.setFrames (.invoking m args :: below)) ht2).setFrames T.frames (by simpa [State.setFrames] using hcur)
    rw [hT] at h1
    exact h1
end XRB
theorem x_throws {l : Launch} {D : va_G} {cl : List vw_C} {H0 : Heap} {V : Nat → Value} {G : Nat → xM} {WL HL : List Cond} {SL : List (String × Nat × String)} {NM : List String} {EX : List Nat} {ty0 : Nat → Nat → FieldType} {sf : String × String × String} {host : String} {nG : Nat}
    (htr : ∀ e, l.admits e → e.platform.stackTraces = false) (hNM : ∀ x ∈ NM, Bundle.fit x = true) (hlen : NM.length = 2) : xThr l D cl H0 V G WL HL SL NM EX ty0 sf host nG := by
  intro M p e R s m args below meth c C pc k a b nx hs h N0 S0 hok hN hS hRc hRs H locs ls lo hR hL hl
  obtain ⟨hx, hb, hml, hrt, hlk, hnm, hmeth, htab, hsf, hfr, hlo, hgood⟩ := id C
  simp only [xtok, Bool.and_eq_true, decide_eq_true_eq] at hok
  obtain ⟨⟨⟨⟨⟨⟨⟨⟨⟨⟨d0, d3⟩, d4⟩, d6⟩, d9⟩, o1⟩, o2⟩, o3⟩, o4⟩, o5⟩, o6⟩ := hok
  have o2 := Nat.eq_of_beq_eq_true o2
  have o3 := Nat.le_of_ble_eq_true o3
  have o4 := Nat.le_of_ble_eq_true o4
  subst o2
  split at o5
  · next C0 T0 N1 hc =>
    simp only [Bool.and_eq_true] at o5
    obtain ⟨⟨⟨⟨⟨p1, p2⟩, p3⟩, p4⟩, p5⟩, p6⟩ := o5
    have p1 := Nat.eq_of_beq_eq_true p1
    subst p1
    obtain ⟨sq, sq1, sq2⟩ := List.any_eq_true.mp o6
    simp only [Bool.and_eq_true, decide_eq_true_eq] at sq2
    obtain ⟨sq2, sq3⟩ := sq2
    have sq3 := Nat.eq_of_beq_eq_true sq3
    obtain ⟨qa, hqa⟩ := hsf.2.2.1 sq sq1
    intro T hT X
    dsimp only [xnew] at hRc hRs
    have X0 := x_rebase X (by omega) (by omega)
    generalize hs' : T.setFrames (.invoking m args :: below) = s' at X0
    have hvm' : s'.vm = T.vm := by rw [← hs']; rfl
    have hhp' : s'.heap = H := by rw [← hs', ← hT]; rfl
    have hW' : s.WarmedH s'.vm := by rw [hvm']; exact X.warmed
    have hsf' : xSF D cl H0 WL HL SL EX V sf s' := hsf.moved hW'
    have hts' : ∀ w ∈ WL, w.before args s' = true := fun w hw => hsf.1 w hw args s' hW'
    have hown' : s'.vm.findClass (xnm M).cls = some m.cls := by rw [hW'.alike.findClass]; exact findClass_of_methodNamed hnm
    have hKn := (hsf'.2.2.2.2.1).1 a _ hc
    have hempty : ∀ x ∈ c.exceptionTable.toList, covers x (pc + 9) = false := by
      rw [o1] at htab
      have : c.exceptionTable.toList = [] := by simpa using htab
      rw [this]
      intro x hx'
      cases hx'
    have hw : W p l e { frames := R.frames, cells := R.cells - (h.2.1 - N0), slots := R.slots - (h.2.2 - S0), locals := R.locals } s' m args below meth c H [] 0 0 (fun U => U.status = .running ∧ Ended U below (.threw H.size) ∧ s'.WarmedH U.vm ∧ s'.sameButNew ({ U with vm := s'.vm } : State) [] 1 6 ∧ ∃ ce, U.heap[H.size]? = some ce ∧ s'.vm.findClass C0 = some ce.cls ∧ ce.vm = .none) (F0 m pc ls []) := by
      refine W.newcK hx hb hown' (hts' _ (xin_mem p2)) (hts' _ (xin_mem p3)) (hts' _ (xin_mem p4)) rfl d0 (by show 0 + 1 ≤ R.cells - (h.2.1 - N0); omega) (by show 0 + 6 ≤ R.slots - (h.2.2 - S0); omega) hKn.2.1 rfl fun H1 kC hkC e1 z1 o1 => ?_
      refine lv_dup hx hb d3 rfl ?_
      refine va_ldcS hx hb hown' (tx := sq.2.2) (q := qa) ?_ d4 ?_
      · have := hqa s' hW'
        rw [sq2, sq3] at this
        exact this
      · intro U hU XU
        have hloc : 2 * (F0 m (pc + 6) ls (.ref qa :: .ref H.size :: .ref H.size :: [])).monitorRoom + ((Value.ref H.size :: ([] : List Value)).map fun v => v.category).sum + (13 * (NM.length + 1) + 42) ≤ R.locals := by
          rw [hlen]
          show 2 * 0 + 1 + (13 * (2 + 1) + 42) ≤ R.locals
          omega
        obtain ⟨U', u1, u2, u3, u4, u5, ce, u6, u7⟩ := XU.ctorThrowS (names := NM) hx (htr e X.admits) hown' p5 hNM (fun w hw => by
          have := List.all_eq_true.mp p6 w hw
          simp only [Bool.or_eq_true, decide_eq_true_eq] at this
          rcases this with z | z
          · exact hts' w z
          · exact hsf.2.1 w z args s' hW' (fun q hq => by rw [hhp']; exact hR.2.2.1 q hq)) (fun x hx => by cases hx) hKn.2.1 hkC (a := H.size) (by rw [hU]; exact e1) (by rw [hhp']; exact Nat.le_refl _) (msg := .ref qa) rfl
          (g := F0 m (pc + 6) ls (.ref qa :: .ref H.size :: .ref H.size :: [])) rfl (by rw [hml]; exact hL.1) rfl rfl (rest := []) rfl (by rw [hb]; exact d6) (by rw [hb]; exact d9) hempty (by rw [hlen]; show 2 + 3 < R.frames; omega) hloc hlk
        exact ⟨U', u1, u2, u3, u4, u5, ce, u6, u7.cls, u7.vm⟩
    obtain ⟨t, t1, t2, t3, t4, t5, ce, t6, t7, t8⟩ := hw T hT X0
    refine ⟨t, t1, .threw H.size, t2, t3, ⟨by rw [hR.1], ?_⟩, ?_, State.WarmedH.trans X.warmed (State.WarmedH.of_rootvm hvm'.symm t4), locs, ?_, hl⟩
    · simp [xnew]
    · have hold : ∀ q : Nat, q < H.size → t.heap[q]? = H[q]? := by
        intro q hq
        obtain ⟨v1, v2, v3, v4, v5, v6⟩ := t5
        have hq0 : s'.heap[q]? = some H[q] := by rw [hhp']; exact Array.getElem?_eq_getElem hq
        obtain ⟨c', w1, w2, w3, w4⟩ := v6 q _ hq0
        have w1 : t.heap[q]? = some c' := w1
        have hsl : c'.slots = (H[q]).slots := Array.ext_getElem? (fun i => w4 i (by simp))
        rw [w1, w2, hsl, Array.getElem?_eq_getElem hq]
      have hsz : t.heap.size = H.size + 1 := by
        obtain ⟨v1, v2, v3, v4, v5, v6⟩ := t5
        have a1 : t.heap.size ≤ s'.heap.size + 1 := v3
        rw [hhp'] at a1
        have a2 := (Array.getElem?_eq_some_iff.mp t6).1
        omega
      refine hR.new ?_ hsz hold
      refine ⟨_, hc, ce, t6, ?_, t8, fun j hj => absurd hj (Nat.not_lt_zero _)⟩
      have := hKn.2.1
      exact Option.some.inj (t7.symm.trans this)
    · have hTs : T.sameButNew ({ t with vm := T.vm } : State) [] 1 6 := by
        obtain ⟨v1, v2, v3, v4, v5, v6⟩ := t5
        rw [hhp'] at v2 v3 v4 v5 v6
        have hv : s'.slotsUsed = T.slotsUsed := by rw [← hs']; rfl
        rw [hv] at v4
        rw [← hT] at v2 v3 v4 v5 v6
        refine ⟨?_, v2, v3, v4, v5, v6⟩
        rw [hvm', ← hs', State.setFrames_setFrames] at v1
        exact v1
      have := X.same.trans (hTs.setVm s.vm)
      rw [List.append_nil] at this
      have e1 : (xnew h (xO' a []) 6).2.1 - N0 = h.2.1 - N0 + 1 := by dsimp only [xnew]; omega
      have e2 : (xnew h (xO' a []) 6).2.2 - S0 = h.2.2 - S0 + 6 := by dsimp only [xnew]; omega
      rw [e1, e2]
      exact this
  · cases o5
end
section
/-! the small machine without its fuel: a map that keeps its own equation -/
def xfin (k : (xM → xF → xH → Option xR) → Option xR) : Prop :=
  ∀ ih r, k ih = some r → ∃ P : List (xM × xF × xH × xR), (∀ p ∈ P, ih p.1 p.2.1 p.2.2.1 = some p.2.2.2) ∧ ∀ ih', (∀ p ∈ P, ih' p.1 p.2.1 p.2.2.1 = some p.2.2.2) → k ih' = some r
theorem fin_c (o : Option xR) : xfin (fun _ => o) := fun _ _ h => ⟨[], by simp, fun _ _ => h⟩
theorem fin_ih (M : xM) (f : xF) (h : xH) : xfin (fun ih => ih M f h) := fun ih r hr => ⟨[(M, f, h, r)], by simpa using hr, fun ih' h' => h' (M, f, h, r) (by simp)⟩
theorem fin_ite {c : Prop} {i : Decidable c} {A B : (xM → xF → xH → Option xR) → Option xR} (a : xfin A) (b : xfin B) : xfin (fun ih => @ite _ c i (A ih) (B ih)) := by
  by_cases hc : c
  · simp only [hc, if_true]; exact a
  · simp only [hc, if_false]; exact b
theorem fin_bind {A : (xM → xF → xH → Option xR) → Option xR} {k : (xM → xF → xH → Option xR) → xR → Option xR} (a : xfin A) (b : ∀ r, xfin (fun ih => k ih r)) : xfin (fun ih => xS (A ih) (k ih)) := by
  intro ih r hr
  obtain ⟨x, e, hk⟩ := xS_s hr
  obtain ⟨P, p1, p2⟩ := a ih x e
  obtain ⟨P', q1, q2⟩ := b x ih r hk
  refine ⟨P ++ P', fun p hp => ?_, fun ih' h' => ?_⟩
  · rcases List.mem_append.mp hp with z | z
    · exact p1 p z
    · exact q1 p z
  · show xS (A ih') (k ih') = some r
    rw [p2 ih' (fun p hp => h' p (List.mem_append_left _ hp))]
    exact q2 ih' (fun p hp => h' p (List.mem_append_right _ hp))
theorem fin_I1 {st : List Value} {k : (xM → xF → xH → Option xR) → Int32 → List Value → Option xR} (b : ∀ x t, xfin (fun ih => k ih x t)) : xfin (fun ih => xI1 st (k ih)) := by
  intro ih r hr
  obtain ⟨x, t, e, hk⟩ := xI1_s hr
  subst e
  exact b x t ih r hk
theorem fin_I2 {st : List Value} {k : (xM → xF → xH → Option xR) → Int32 → Int32 → List Value → Option xR} (b : ∀ x y t, xfin (fun ih => k ih x y t)) : xfin (fun ih => xI2 st (k ih)) := by
  intro ih r hr
  obtain ⟨x, y, t, e, hk⟩ := xI2_s hr
  subst e
  exact b x y t ih r hk
theorem fin_L1 {st : List Value} {k : (xM → xF → xH → Option xR) → Int64 → List Value → Option xR} (b : ∀ x t, xfin (fun ih => k ih x t)) : xfin (fun ih => xL1 st (k ih)) := by
  intro ih r hr
  obtain ⟨x, t, e, hk⟩ := xL1_s hr
  subst e
  exact b x t ih r hk
theorem fin_L2 {st : List Value} {k : (xM → xF → xH → Option xR) → Int64 → Int64 → List Value → Option xR} (b : ∀ x y t, xfin (fun ih => k ih x y t)) : xfin (fun ih => xL2 st (k ih)) := by
  intro ih r hr
  obtain ⟨x, y, t, e, hk⟩ := xL2_s hr
  subst e
  exact b x y t ih r hk
theorem fin_LI {st : List Value} {k : (xM → xF → xH → Option xR) → Int64 → Int32 → List Value → Option xR} (b : ∀ x y t, xfin (fun ih => k ih x y t)) : xfin (fun ih => xLI st (k ih)) := by
  intro ih r hr
  obtain ⟨x, y, t, e, hk⟩ := xLI_s hr
  subst e
  exact b x y t ih r hk
theorem fin_A1 {st : List Value} {k : (xM → xF → xH → Option xR) → Nat → List Value → Option xR} (b : ∀ x t, xfin (fun ih => k ih x t)) : xfin (fun ih => xA1 st (k ih)) := by
  intro ih r hr
  obtain ⟨x, t, e, hk⟩ := xA1_s hr
  subst e
  exact b x t ih r hk
theorem fin_AI {st : List Value} {k : (xM → xF → xH → Option xR) → Nat → Int32 → List Value → Option xR} (b : ∀ x y t, xfin (fun ih => k ih x y t)) : xfin (fun ih => xAI st (k ih)) := by
  intro ih r hr
  obtain ⟨x, y, t, e, hk⟩ := xAI_s hr
  subst e
  exact b x y t ih r hk
theorem fin_AII {st : List Value} {k : (xM → xF → xH → Option xR) → Nat → Int32 → Int32 → List Value → Option xR} (b : ∀ x y z t, xfin (fun ih => k ih x y z t)) : xfin (fun ih => xAII st (k ih)) := by
  intro ih r hr
  obtain ⟨x, y, z, t, e, hk⟩ := xAII_s hr
  subst e
  exact b x y z t ih r hk
theorem fin_AIL {st : List Value} {k : (xM → xF → xH → Option xR) → Nat → Int32 → Int64 → List Value → Option xR} (b : ∀ x y z t, xfin (fun ih => k ih x y z t)) : xfin (fun ih => xAIL st (k ih)) := by
  intro ih r hr
  obtain ⟨x, y, z, t, e, hk⟩ := xAIL_s hr
  subst e
  exact b x y z t ih r hk
theorem fin_AIA {st : List Value} {k : (xM → xF → xH → Option xR) → Nat → Int32 → Nat → List Value → Option xR} (b : ∀ x y z t, xfin (fun ih => k ih x y z t)) : xfin (fun ih => xAIA st (k ih)) := by
  intro ih r hr
  obtain ⟨x, y, z, t, e, hk⟩ := xAIA_s hr
  subst e
  exact b x y z t ih r hk
theorem fin_AV {st : List Value} {k : (xM → xF → xH → Option xR) → Nat → Value → List Value → Option xR} (b : ∀ x y t, xfin (fun ih => k ih x y t)) : xfin (fun ih => xAV st (k ih)) := by
  intro ih r hr
  obtain ⟨x, y, t, e, hk⟩ := xAV_s hr
  subst e
  exact b x y t ih r hk
theorem fin_copy {st : List Value} {k : (xM → xF → xH → Option xR) → Nat → Int32 → Nat → Int32 → Int32 → List Value → Option xR} (b : ∀ x y z u v t, xfin (fun ih => k ih x y z u v t)) : xfin (fun ih => xcopy st (k ih)) := by
  intro ih r hr
  obtain ⟨x, y, z, u, v, t, e, hk⟩ := xcopy_s hr
  subst e
  exact b x y z u v t ih r hk
theorem fin_vI {o : Option Value} {k : (xM → xF → xH → Option xR) → Int32 → Option xR} (b : ∀ x, xfin (fun ih => k ih x)) : xfin (fun ih => xvI o (k ih)) := by
  intro ih r hr
  obtain ⟨x, e, hk⟩ := xvI_s hr
  subst e
  exact b x ih r hk
theorem fin_vL {o : Option Value} {k : (xM → xF → xH → Option xR) → Int64 → Option xR} (b : ∀ x, xfin (fun ih => k ih x)) : xfin (fun ih => xvL o (k ih)) := by
  intro ih r hr
  obtain ⟨x, e, hk⟩ := xvL_s hr
  subst e
  exact b x ih r hk
theorem fin_vA {o : Option Value} {k : (xM → xF → xH → Option xR) → Nat → Option xR} (b : ∀ x, xfin (fun ih => k ih x)) : xfin (fun ih => xvA o (k ih)) := by
  intro ih r hr
  obtain ⟨x, e, hk⟩ := xvA_s hr
  subst e
  exact b x ih r hk
theorem fin_vN {o : Value} {k : (xM → xF → xH → Option xR) → Int32 → Option xR} (b : ∀ x, xfin (fun ih => k ih x)) : xfin (fun ih => xvN o (k ih)) := by
  intro ih r hr
  obtain ⟨x, e, hk⟩ := xvN_s hr
  subst e
  exact b x ih r hk
theorem fin_vK {o : Value} {k : (xM → xF → xH → Option xR) → Nat → Option xR} (b : ∀ x, xfin (fun ih => k ih x)) : xfin (fun ih => xvK o (k ih)) := by
  intro ih r hr
  obtain ⟨x, e, hk⟩ := xvK_s hr
  subst e
  exact b x ih r hk
theorem fin_S {α : Type} {o : Option α} {k : (xM → xF → xH → Option xR) → α → Option xR} (b : ∀ x, xfin (fun ih => k ih x)) : xfin (fun ih => xS o (k ih)) := by
  intro ih r hr
  obtain ⟨x, e, hk⟩ := xS_s hr
  subst e
  exact b x ih r hk
theorem fin_B {o : Bool} {k : (xM → xF → xH → Option xR) → Option xR} (b : xfin k) : xfin (fun ih => xB o (k ih)) := by
  intro ih r hr
  obtain ⟨e, hk⟩ := xB_s hr
  subst e
  exact b ih r hk
theorem fin_N {c : Prop} {i : Decidable c} {k : (xM → xF → xH → Option xR) → Option xR} (b : xfin k) : xfin (fun ih => @xN c i (k ih)) := by
  by_cases hc : c
  · simp only [xN, hc, if_true]; exact fin_c _
  · simp only [xN, hc, if_false]; exact b
theorem fin_cI {o : Option xE} {k : (xM → xF → xH → Option xR) → Nat → Nat → (Nat → Int32) → Option xR} (b : ∀ x y z, xfin (fun ih => k ih x y z)) : xfin (fun ih => xcI o (k ih)) := by
  intro ih r hr
  obtain ⟨x, y, z, e, hk⟩ := xcI_s hr
  subst e
  exact b x y z ih r hk
theorem fin_cL {o : Option xE} {k : (xM → xF → xH → Option xR) → Nat → Nat → (Nat → Int64) → Option xR} (b : ∀ x y z, xfin (fun ih => k ih x y z)) : xfin (fun ih => xcL o (k ih)) := by
  intro ih r hr
  obtain ⟨x, y, z, e, hk⟩ := xcL_s hr
  subst e
  exact b x y z ih r hk
theorem fin_cR {o : Option xE} {k : (xM → xF → xH → Option xR) → Nat → Nat → (Nat → Option Nat) → Option xR} (b : ∀ x y z, xfin (fun ih => k ih x y z)) : xfin (fun ih => xcR o (k ih)) := by
  intro ih r hr
  obtain ⟨x, y, z, e, hk⟩ := xcR_s hr
  subst e
  exact b x y z ih r hk
theorem fin_cA {o : Option xE} {k : (xM → xF → xH → Option xR) → Nat → Option xR} (b : ∀ x, xfin (fun ih => k ih x)) : xfin (fun ih => xcA o (k ih)) := by
  intro ih r hr
  obtain ⟨x, y, z, e, hk⟩ := xcA_s hr
  subst e
  exact b y ih r hk
theorem fin_cO {o : Option xE} {k : (xM → xF → xH → Option xR) → Nat → List Value → Option xR} (b : ∀ x y, xfin (fun ih => k ih x y)) : xfin (fun ih => xcO o (k ih)) := by
  intro ih r hr
  obtain ⟨x, y, e, hk⟩ := xcO_s hr
  subst e
  exact b x y ih r hk
theorem fin_if {c : ClassFile.Cond} {x y : Int32} {A B : (xM → xF → xH → Option xR) → Option xR} (a : xfin A) (b : xfin B) : xfin (fun ih => xif c x y (A ih) (B ih)) := by
  cases c
  · exact fin_ite a b
  · exact fin_ite b a
  · exact fin_ite a b
  · exact fin_ite a b
  · exact fin_ite a b
  · exact fin_ite a b
theorem fin_back {M : xM} {pc nx : Nat} {l : List (Option Value)} {rest : List Value} (r : xR) : xfin (fun ih => xback ih M pc nx l rest r) := by
  obtain ⟨o, h⟩ := r
  rcases o with o | ⟨c, a⟩
  · cases o with
    | none => exact fin_ih _ _ _
    | some v => exact fin_ih _ _ _
  · unfold xback
    cases xhs M with
    | nil => exact fin_c _
    | cons q t => exact fin_S (fun p => fin_ih _ _ _)
theorem fin_call {G : Nat → xM} {M : xM} {pc nx : Nat} {l : List (Option Value)} {z : Nat} {as rest : List Value} {h : xH} : xfin (fun ih => xcall G ih M pc nx l z as rest h) :=
  fin_B (fin_bind (fin_ih _ _ _) (fun r => fin_back r))
theorem fin_op (V : Nat → Value) (F : Nat → List Value) (G : Nat → xM) (M : xM) (f : xF) (h : xH) (i : Instr) (nx a b : Nat) (v : Value) : xfin (fun ih => xop V F G ih M f h i nx a b v) := by
  obtain ⟨pc, l, st⟩ := f
  cases i <;> dsimp only [xop] <;> repeat' first
    | exact fin_ih _ _ _ | exact fin_c _ | exact fin_call
    | refine fin_I1 (fun _ _ => ?_) | refine fin_I2 (fun _ _ _ => ?_) | refine fin_L1 (fun _ _ => ?_) | refine fin_L2 (fun _ _ _ => ?_) | refine fin_LI (fun _ _ _ => ?_)
    | refine fin_A1 (fun _ _ => ?_) | refine fin_AI (fun _ _ _ => ?_) | refine fin_AII (fun _ _ _ _ => ?_) | refine fin_AIL (fun _ _ _ _ => ?_) | refine fin_AIA (fun _ _ _ _ => ?_) | refine fin_AV (fun _ _ _ => ?_)
    | refine fin_copy (fun _ _ _ _ _ _ => ?_) | refine fin_vI (fun _ => ?_) | refine fin_vL (fun _ => ?_) | refine fin_vA (fun _ => ?_) | refine fin_vN (fun _ => ?_) | refine fin_vK (fun _ => ?_)
    | refine fin_cI (fun _ _ _ => ?_) | refine fin_cL (fun _ _ _ => ?_) | refine fin_cR (fun _ _ _ => ?_) | refine fin_cA (fun _ => ?_) | refine fin_cO (fun _ _ => ?_)
    | refine fin_S (fun _ => ?_) | refine fin_B ?_ | refine fin_N ?_ | refine fin_if ?_ ?_ | refine fin_ite ?_ ?_ | split
theorem fin_body (V : Nat → Value) (F : Nat → List Value) (G : Nat → xM) (M : xM) (f : xF) (h : xH) : xfin (fun ih => xbody V F G ih M f h) := fin_S (fun _ => fin_op V F G M f h _ _ _ _ _)
theorem xrun_up (V : Nat → Value) (F : Nat → List Value) (G : Nat → xM) : ∀ (n : Nat) (M : xM) (f : xF) (h : xH) (r : xR), xrun V F G n M f h = some r → xrun V F G (n + 1) M f h = some r := by
  intro n
  induction n with
  | zero => intro M f h r hr; cases hr
  | succ n ih =>
    intro M f h r hr
    obtain ⟨P, p1, p2⟩ := fin_body V F G M f h (xrun V F G n) r hr
    exact p2 (xrun V F G (n + 1)) (fun p hp => ih _ _ _ _ (p1 p hp))
theorem xrun_ge (V : Nat → Value) (F : Nat → List Value) (G : Nat → xM) {n k : Nat} (hk : n ≤ k) {M : xM} {f : xF} {h : xH} {r : xR} (hr : xrun V F G n M f h = some r) : xrun V F G k M f h = some r := by
  induction hk with
  | refl => exact hr
  | step _ ih => exact xrun_up V F G _ M f h r ih
theorem xw_ex (V : Nat → Value) (F : Nat → List Value) (G : Nat → xM) : ∃ W : xM → xF → xH → Option xR, (∀ M f h r, W M f h = some r → ∃ n, xrun V F G n M f h = some r) ∧ ∀ M f h, W M f h = xbody V F G W M f h := by
  have h0 : ∀ q : xM × xF × xH, ∃ o : Option xR, ∀ r, o = some r ↔ ∃ n, xrun V F G n q.1 q.2.1 q.2.2 = some r := by
    intro q
    by_cases hx : ∃ r n, xrun V F G n q.1 q.2.1 q.2.2 = some r
    · obtain ⟨r, n, hr⟩ := hx
      refine ⟨some r, fun r' => ⟨fun e => ⟨n, by rw [hr]; exact e⟩, fun ⟨k, hk⟩ => ?_⟩⟩
      have a := xrun_ge V F G (Nat.le_max_left n k) hr
      have b := xrun_ge V F G (Nat.le_max_right n k) hk
      exact a.symm.trans b
    · exact ⟨none, fun r => ⟨fun e => (by cases e), fun ⟨k, hk⟩ => absurd ⟨r, k, hk⟩ hx⟩⟩
  obtain ⟨w, hw⟩ := Classical.axiomOfChoice h0
  refine ⟨fun M f h => w (M, f, h), fun M f h r hr => (hw (M, f, h) r).mp hr, fun M f h => ?_⟩
  have key : ∀ r, w (M, f, h) = some r ↔ xbody V F G (fun M f h => w (M, f, h)) M f h = some r := by
    intro r
    constructor
    · intro hr
      obtain ⟨n, hn⟩ := (hw (M, f, h) r).mp hr
      cases n with
      | zero => cases hn
      | succ n =>
        obtain ⟨P, p1, p2⟩ := fin_body V F G M f h (xrun V F G n) r hn
        exact p2 _ (fun p hp => (hw (p.1, p.2.1, p.2.2.1) p.2.2.2).mpr ⟨n, p1 p hp⟩)
    · intro hr
      obtain ⟨P, p1, p2⟩ := fin_body V F G M f h (fun M f h => w (M, f, h)) r hr
      have : ∃ N, ∀ p ∈ P, xrun V F G N p.1 p.2.1 p.2.2.1 = some p.2.2.2 := by
        clear p2
        induction P with
        | nil => exact ⟨0, by simp⟩
        | cons p t ih =>
          obtain ⟨N, hN⟩ := ih (fun q hq => p1 q (List.mem_cons_of_mem _ hq))
          obtain ⟨k, hk⟩ := (hw (p.1, p.2.1, p.2.2.1) p.2.2.2).mp (p1 p (List.mem_cons_self ..))
          refine ⟨max N k, fun q hq => ?_⟩
          rcases List.mem_cons.mp hq with rfl | hq
          · exact xrun_ge V F G (Nat.le_max_right N k) hk
          · exact xrun_ge V F G (Nat.le_max_left N k) (hN q hq)
      obtain ⟨N, hN⟩ := this
      exact (hw (M, f, h) r).mpr ⟨N + 1, p2 (xrun V F G N) hN⟩
  show w (M, f, h) = _
  cases hz : w (M, f, h) with
  | some r => exact ((key r).mp hz).symm
  | none =>
    cases hy : xbody V F G (fun M f h => w (M, f, h)) M f h with
    | none => rfl
    | some r => rw [(key r).mpr hy] at hz; cases hz
end
