section
-- ===== PART A: goes FIRST, ahead of the names: the tables' words, and 'selects' of the private methods out of them =====
/-- a private method of a class that the tables say can be made, by its rows of tables_1 -/
def lw_okq (q : MethodName × Nat) : Prop := (q.1.cls ≠ "java/lang/invoke/MethodHandle" ∧ q.1.cls ≠ "java/lang/invoke/VarHandle") ∧ Cond.instantiable q.1.cls q.2 ∈ tables_1 ∧ Cond.privateMethod q.1 ∈ tables_1 ∧ Cond.instanceMethod q.1 ∈ tables_1
theorem lw_p0 : lw_okq (⟨"StyleRows$Levels", "moveUpFrom", "(I)V"⟩, 4) := ⟨⟨by decide +kernel, by decide +kernel⟩, List.mem_of_getElem? (i := 67) (by decide +kernel), List.mem_of_getElem? (i := 324) (by decide +kernel), List.mem_of_getElem? (i := 325) (by decide +kernel)⟩
theorem lw_p1 : lw_okq (⟨"StyleRows$Reader", "takePiece", "(LStyleRows$Tape;)V"⟩, 4) := ⟨⟨by decide +kernel, by decide +kernel⟩, List.mem_of_getElem? (i := 172) (by decide +kernel), List.mem_of_getElem? (i := 399) (by decide +kernel), List.mem_of_getElem? (i := 400) (by decide +kernel)⟩
theorem lw_p2 : lw_okq (⟨"StyleRows$Reader", "takeRule", "(LStyleRows$Tape;LStyleRows$Rules;)Z"⟩, 4) := ⟨⟨by decide +kernel, by decide +kernel⟩, List.mem_of_getElem? (i := 172) (by decide +kernel), List.mem_of_getElem? (i := 411) (by decide +kernel), List.mem_of_getElem? (i := 412) (by decide +kernel)⟩
theorem lw_p3 : lw_okq (⟨"StyleRows$Reader", "isWord", "(LStyleRows$Tape;Ljava/lang/String;)Z"⟩, 4) := ⟨⟨by decide +kernel, by decide +kernel⟩, List.mem_of_getElem? (i := 172) (by decide +kernel), List.mem_of_getElem? (i := 420) (by decide +kernel), List.mem_of_getElem? (i := 421) (by decide +kernel)⟩
theorem lw_p4 : lw_okq (⟨"StyleRows$Reader", "takeNumber", "(LStyleRows$Tape;II)Z"⟩, 4) := ⟨⟨by decide +kernel, by decide +kernel⟩, List.mem_of_getElem? (i := 172) (by decide +kernel), List.mem_of_getElem? (i := 472) (by decide +kernel), List.mem_of_getElem? (i := 473) (by decide +kernel)⟩
theorem lw_p5 : lw_okq (⟨"StyleRows$Reader", "nameThere", "(LStyleRows$Tape;)I"⟩, 4) := ⟨⟨by decide +kernel, by decide +kernel⟩, List.mem_of_getElem? (i := 172) (by decide +kernel), List.mem_of_getElem? (i := 478) (by decide +kernel), List.mem_of_getElem? (i := 479) (by decide +kernel)⟩
theorem lw_p6 : lw_okq (⟨"StyleRows$Rules", "letCount", "(I)V"⟩, 4) := ⟨⟨by decide +kernel, by decide +kernel⟩, List.mem_of_getElem? (i := 145) (by decide +kernel), List.mem_of_getElem? (i := 517) (by decide +kernel), List.mem_of_getElem? (i := 518) (by decide +kernel)⟩
theorem lw_p7 : lw_okq (⟨"StyleRows$Rules", "isOutrankedBy", "(II)Z"⟩, 4) := ⟨⟨by decide +kernel, by decide +kernel⟩, List.mem_of_getElem? (i := 145) (by decide +kernel), List.mem_of_getElem? (i := 521) (by decide +kernel), List.mem_of_getElem? (i := 522) (by decide +kernel)⟩
theorem lw_p8 : lw_okq (⟨"StyleRows$Performer", "takeNote", "(LStyleRows$Notes;I)V"⟩, 8) := ⟨⟨by decide +kernel, by decide +kernel⟩, List.mem_of_getElem? (i := 191) (by decide +kernel), List.mem_of_getElem? (i := 574) (by decide +kernel), List.mem_of_getElem? (i := 575) (by decide +kernel)⟩
theorem lw_p9 : lw_okq (⟨"StyleRows$Performer", "longOf", "(ILStyleRows$Rules;)I"⟩, 8) := ⟨⟨by decide +kernel, by decide +kernel⟩, List.mem_of_getElem? (i := 191) (by decide +kernel), List.mem_of_getElem? (i := 578) (by decide +kernel), List.mem_of_getElem? (i := 579) (by decide +kernel)⟩
theorem lw_p10 : lw_okq (⟨"StyleRows$Performer", "isMarked", "(I)Z"⟩, 8) := ⟨⟨by decide +kernel, by decide +kernel⟩, List.mem_of_getElem? (i := 191) (by decide +kernel), List.mem_of_getElem? (i := 582) (by decide +kernel), List.mem_of_getElem? (i := 583) (by decide +kernel)⟩
theorem lw_p11 : lw_okq (⟨"StyleRows$Performer", "loudOf", "(LStyleRows$Score;ILStyleRows$Rules;)I"⟩, 8) := ⟨⟨by decide +kernel, by decide +kernel⟩, List.mem_of_getElem? (i := 191) (by decide +kernel), List.mem_of_getElem? (i := 589) (by decide +kernel), List.mem_of_getElem? (i := 590) (by decide +kernel)⟩
theorem lw_p12 : lw_okq (⟨"StyleRows$Performer", "onOf", "(ILStyleRows$Rules;J)I"⟩, 8) := ⟨⟨by decide +kernel, by decide +kernel⟩, List.mem_of_getElem? (i := 191) (by decide +kernel), List.mem_of_getElem? (i := 605) (by decide +kernel), List.mem_of_getElem? (i := 606) (by decide +kernel)⟩
theorem lw_p13 : lw_okq (⟨"StyleRows$Performer", "drawOf", "(IJ)I"⟩, 8) := ⟨⟨by decide +kernel, by decide +kernel⟩, List.mem_of_getElem? (i := 191) (by decide +kernel), List.mem_of_getElem? (i := 609) (by decide +kernel), List.mem_of_getElem? (i := 610) (by decide +kernel)⟩
theorem lw_p14 : lw_okq (⟨"StyleRows$Performer", "addParts", "(LStyleRows$Notes;LStyleRows$Rules;)V"⟩, 8) := ⟨⟨by decide +kernel, by decide +kernel⟩, List.mem_of_getElem? (i := 191) (by decide +kernel), List.mem_of_getElem? (i := 619) (by decide +kernel), List.mem_of_getElem? (i := 620) (by decide +kernel)⟩
theorem lw_p15 : lw_okq (⟨"StyleRows$Performer", "roll", "(LStyleRows$Notes;LStyleRows$Rules;)V"⟩, 8) := ⟨⟨by decide +kernel, by decide +kernel⟩, List.mem_of_getElem? (i := 191) (by decide +kernel), List.mem_of_getElem? (i := 623) (by decide +kernel), List.mem_of_getElem? (i := 624) (by decide +kernel)⟩
def lw_privs_1 : List (MethodName × Nat) := [(⟨"StyleRows$Levels", "moveUpFrom", "(I)V"⟩, 4), (⟨"StyleRows$Reader", "takePiece", "(LStyleRows$Tape;)V"⟩, 4), (⟨"StyleRows$Reader", "takeRule", "(LStyleRows$Tape;LStyleRows$Rules;)Z"⟩, 4), (⟨"StyleRows$Reader", "isWord", "(LStyleRows$Tape;Ljava/lang/String;)Z"⟩, 4), (⟨"StyleRows$Reader", "takeNumber", "(LStyleRows$Tape;II)Z"⟩, 4), (⟨"StyleRows$Reader", "nameThere", "(LStyleRows$Tape;)I"⟩, 4), (⟨"StyleRows$Rules", "letCount", "(I)V"⟩, 4), (⟨"StyleRows$Rules", "isOutrankedBy", "(II)Z"⟩, 4), (⟨"StyleRows$Performer", "takeNote", "(LStyleRows$Notes;I)V"⟩, 8), (⟨"StyleRows$Performer", "longOf", "(ILStyleRows$Rules;)I"⟩, 8), (⟨"StyleRows$Performer", "isMarked", "(I)Z"⟩, 8), (⟨"StyleRows$Performer", "loudOf", "(LStyleRows$Score;ILStyleRows$Rules;)I"⟩, 8), (⟨"StyleRows$Performer", "onOf", "(ILStyleRows$Rules;J)I"⟩, 8), (⟨"StyleRows$Performer", "drawOf", "(IJ)I"⟩, 8), (⟨"StyleRows$Performer", "addParts", "(LStyleRows$Notes;LStyleRows$Rules;)V"⟩, 8), (⟨"StyleRows$Performer", "roll", "(LStyleRows$Notes;LStyleRows$Rules;)V"⟩, 8)]
theorem lw_r1 : ∀ q ∈ lw_privs_1, lw_okq q := List.forall_mem_cons.mpr ⟨lw_p0, List.forall_mem_cons.mpr ⟨lw_p1, List.forall_mem_cons.mpr ⟨lw_p2, List.forall_mem_cons.mpr ⟨lw_p3, List.forall_mem_cons.mpr ⟨lw_p4, List.forall_mem_cons.mpr ⟨lw_p5, List.forall_mem_cons.mpr ⟨lw_p6, List.forall_mem_cons.mpr ⟨lw_p7, List.forall_mem_cons.mpr ⟨lw_p8, List.forall_mem_cons.mpr ⟨lw_p9, List.forall_mem_cons.mpr ⟨lw_p10, List.forall_mem_cons.mpr ⟨lw_p11, List.forall_mem_cons.mpr ⟨lw_p12, List.forall_mem_cons.mpr ⟨lw_p13, List.forall_mem_cons.mpr ⟨lw_p14, List.forall_mem_cons.mpr ⟨lw_p15, fun _ h => absurd h List.not_mem_nil⟩⟩⟩⟩⟩⟩⟩⟩⟩⟩⟩⟩⟩⟩⟩⟩
theorem lw_p16 : lw_okq (⟨"StyleRows$Notes", "isInChord", "(II)Z"⟩, 6) := ⟨⟨by decide +kernel, by decide +kernel⟩, List.mem_of_getElem? (i := 34) (by decide +kernel), List.mem_of_getElem? (i := 631) (by decide +kernel), List.mem_of_getElem? (i := 632) (by decide +kernel)⟩
theorem lw_p17 : lw_okq (⟨"StyleRows$Notes", "isLower", "(II)Z"⟩, 6) := ⟨⟨by decide +kernel, by decide +kernel⟩, List.mem_of_getElem? (i := 34) (by decide +kernel), List.mem_of_getElem? (i := 635) (by decide +kernel), List.mem_of_getElem? (i := 636) (by decide +kernel)⟩
theorem lw_p18 : lw_okq (⟨"StyleRows$Performer", "addLean", "(LStyleRows$Rules;)V"⟩, 8) := ⟨⟨by decide +kernel, by decide +kernel⟩, List.mem_of_getElem? (i := 191) (by decide +kernel), List.mem_of_getElem? (i := 639) (by decide +kernel), List.mem_of_getElem? (i := 640) (by decide +kernel)⟩
theorem lw_p19 : lw_okq (⟨"StyleRows$Performer", "addPart", "(IIII)V"⟩, 8) := ⟨⟨by decide +kernel, by decide +kernel⟩, List.mem_of_getElem? (i := 191) (by decide +kernel), List.mem_of_getElem? (i := 643) (by decide +kernel), List.mem_of_getElem? (i := 644) (by decide +kernel)⟩
theorem lw_p20 : lw_okq (⟨"StyleRows$Performer", "addTrill", "(LStyleRows$Rules;)Z"⟩, 8) := ⟨⟨by decide +kernel, by decide +kernel⟩, List.mem_of_getElem? (i := 191) (by decide +kernel), List.mem_of_getElem? (i := 651) (by decide +kernel), List.mem_of_getElem? (i := 652) (by decide +kernel)⟩
theorem lw_p21 : lw_okq (⟨"StyleRows$Performer", "addTurn", "(LStyleRows$Rules;)Z"⟩, 8) := ⟨⟨by decide +kernel, by decide +kernel⟩, List.mem_of_getElem? (i := 191) (by decide +kernel), List.mem_of_getElem? (i := 656) (by decide +kernel), List.mem_of_getElem? (i := 657) (by decide +kernel)⟩
theorem lw_p22 : lw_okq (⟨"StyleRows$Order", "merge", "(III)V"⟩, 2) := ⟨⟨by decide +kernel, by decide +kernel⟩, List.mem_of_getElem? (i := 245) (by decide +kernel), List.mem_of_getElem? (i := 677) (by decide +kernel), List.mem_of_getElem? (i := 678) (by decide +kernel)⟩
theorem lw_p23 : lw_okq (⟨"StyleRows$Events", "endAtRepeat", "(I)V"⟩, 3) := ⟨⟨by decide +kernel, by decide +kernel⟩, List.mem_of_getElem? (i := 197) (by decide +kernel), List.mem_of_getElem? (i := 697) (by decide +kernel), List.mem_of_getElem? (i := 698) (by decide +kernel)⟩
theorem lw_p24 : lw_okq (⟨"StyleRows$Events", "endOf", "(I)I"⟩, 3) := ⟨⟨by decide +kernel, by decide +kernel⟩, List.mem_of_getElem? (i := 197) (by decide +kernel), List.mem_of_getElem? (i := 701) (by decide +kernel), List.mem_of_getElem? (i := 702) (by decide +kernel)⟩
theorem lw_p25 : lw_okq (⟨"StyleRows$Events", "repeats", "(II)Z"⟩, 3) := ⟨⟨by decide +kernel, by decide +kernel⟩, List.mem_of_getElem? (i := 197) (by decide +kernel), List.mem_of_getElem? (i := 705) (by decide +kernel), List.mem_of_getElem? (i := 706) (by decide +kernel)⟩
theorem lw_p26 : lw_okq (⟨"StyleRowsModel", "isNote", "(I)Z"⟩, 35) := ⟨⟨by decide +kernel, by decide +kernel⟩, List.mem_of_getElem? (i := 749) (by decide +kernel), List.mem_of_getElem? (i := 878) (by decide +kernel), List.mem_of_getElem? (i := 879) (by decide +kernel)⟩
theorem lw_p27 : lw_okq (⟨"StyleRowsModel", "highAt", "(I)I"⟩, 35) := ⟨⟨by decide +kernel, by decide +kernel⟩, List.mem_of_getElem? (i := 749) (by decide +kernel), List.mem_of_getElem? (i := 901) (by decide +kernel), List.mem_of_getElem? (i := 902) (by decide +kernel)⟩
theorem lw_p28 : lw_okq (⟨"StyleRowsModel", "levelBy", "(IZ)I"⟩, 35) := ⟨⟨by decide +kernel, by decide +kernel⟩, List.mem_of_getElem? (i := 749) (by decide +kernel), List.mem_of_getElem? (i := 905) (by decide +kernel), List.mem_of_getElem? (i := 906) (by decide +kernel)⟩
theorem lw_p29 : lw_okq (⟨"StyleRowsModel", "time", "(I)I"⟩, 35) := ⟨⟨by decide +kernel, by decide +kernel⟩, List.mem_of_getElem? (i := 749) (by decide +kernel), List.mem_of_getElem? (i := 916) (by decide +kernel), List.mem_of_getElem? (i := 917) (by decide +kernel)⟩
theorem lw_p30 : lw_okq (⟨"StyleRowsModel", "take", "()V"⟩, 35) := ⟨⟨by decide +kernel, by decide +kernel⟩, List.mem_of_getElem? (i := 749) (by decide +kernel), List.mem_of_getElem? (i := 931) (by decide +kernel), List.mem_of_getElem? (i := 932) (by decide +kernel)⟩
theorem lw_p31 : lw_okq (⟨"StyleRowsModel", "at", "(I)I"⟩, 35) := ⟨⟨by decide +kernel, by decide +kernel⟩, List.mem_of_getElem? (i := 749) (by decide +kernel), List.mem_of_getElem? (i := 935) (by decide +kernel), List.mem_of_getElem? (i := 936) (by decide +kernel)⟩
def lw_privs_2 : List (MethodName × Nat) := [(⟨"StyleRows$Notes", "isInChord", "(II)Z"⟩, 6), (⟨"StyleRows$Notes", "isLower", "(II)Z"⟩, 6), (⟨"StyleRows$Performer", "addLean", "(LStyleRows$Rules;)V"⟩, 8), (⟨"StyleRows$Performer", "addPart", "(IIII)V"⟩, 8), (⟨"StyleRows$Performer", "addTrill", "(LStyleRows$Rules;)Z"⟩, 8), (⟨"StyleRows$Performer", "addTurn", "(LStyleRows$Rules;)Z"⟩, 8), (⟨"StyleRows$Order", "merge", "(III)V"⟩, 2), (⟨"StyleRows$Events", "endAtRepeat", "(I)V"⟩, 3), (⟨"StyleRows$Events", "endOf", "(I)I"⟩, 3), (⟨"StyleRows$Events", "repeats", "(II)Z"⟩, 3), (⟨"StyleRowsModel", "isNote", "(I)Z"⟩, 35), (⟨"StyleRowsModel", "highAt", "(I)I"⟩, 35), (⟨"StyleRowsModel", "levelBy", "(IZ)I"⟩, 35), (⟨"StyleRowsModel", "time", "(I)I"⟩, 35), (⟨"StyleRowsModel", "take", "()V"⟩, 35), (⟨"StyleRowsModel", "at", "(I)I"⟩, 35)]
theorem lw_r2 : ∀ q ∈ lw_privs_2, lw_okq q := List.forall_mem_cons.mpr ⟨lw_p16, List.forall_mem_cons.mpr ⟨lw_p17, List.forall_mem_cons.mpr ⟨lw_p18, List.forall_mem_cons.mpr ⟨lw_p19, List.forall_mem_cons.mpr ⟨lw_p20, List.forall_mem_cons.mpr ⟨lw_p21, List.forall_mem_cons.mpr ⟨lw_p22, List.forall_mem_cons.mpr ⟨lw_p23, List.forall_mem_cons.mpr ⟨lw_p24, List.forall_mem_cons.mpr ⟨lw_p25, List.forall_mem_cons.mpr ⟨lw_p26, List.forall_mem_cons.mpr ⟨lw_p27, List.forall_mem_cons.mpr ⟨lw_p28, List.forall_mem_cons.mpr ⟨lw_p29, List.forall_mem_cons.mpr ⟨lw_p30, List.forall_mem_cons.mpr ⟨lw_p31, fun _ h => absurd h List.not_mem_nil⟩⟩⟩⟩⟩⟩⟩⟩⟩⟩⟩⟩⟩⟩⟩⟩
theorem lw_p32 : lw_okq (⟨"StyleRowsModel", "takeRule", "(I)Z"⟩, 35) := ⟨⟨by decide +kernel, by decide +kernel⟩, List.mem_of_getElem? (i := 749) (by decide +kernel), List.mem_of_getElem? (i := 948) (by decide +kernel), List.mem_of_getElem? (i := 949) (by decide +kernel)⟩
theorem lw_p33 : lw_okq (⟨"StyleRowsModel", "isNumber", "(II)Z"⟩, 35) := ⟨⟨by decide +kernel, by decide +kernel⟩, List.mem_of_getElem? (i := 749) (by decide +kernel), List.mem_of_getElem? (i := 955) (by decide +kernel), List.mem_of_getElem? (i := 956) (by decide +kernel)⟩
theorem lw_p34 : lw_okq (⟨"StyleRowsModel", "named", "()I"⟩, 35) := ⟨⟨by decide +kernel, by decide +kernel⟩, List.mem_of_getElem? (i := 749) (by decide +kernel), List.mem_of_getElem? (i := 959) (by decide +kernel), List.mem_of_getElem? (i := 960) (by decide +kernel)⟩
theorem lw_p35 : lw_okq (⟨"StyleRowsModel", "number", "(II)I"⟩, 35) := ⟨⟨by decide +kernel, by decide +kernel⟩, List.mem_of_getElem? (i := 749) (by decide +kernel), List.mem_of_getElem? (i := 984) (by decide +kernel), List.mem_of_getElem? (i := 985) (by decide +kernel)⟩
theorem lw_p36 : lw_okq (⟨"StyleRowsModel", "counts", "(II)I"⟩, 35) := ⟨⟨by decide +kernel, by decide +kernel⟩, List.mem_of_getElem? (i := 749) (by decide +kernel), List.mem_of_getElem? (i := 988) (by decide +kernel), List.mem_of_getElem? (i := 989) (by decide +kernel)⟩
theorem lw_p37 : lw_okq (⟨"StyleRowsModel", "performNote", "(I)V"⟩, 35) := ⟨⟨by decide +kernel, by decide +kernel⟩, List.mem_of_getElem? (i := 749) (by decide +kernel), List.mem_of_getElem? (i := 1003) (by decide +kernel), List.mem_of_getElem? (i := 1004) (by decide +kernel)⟩
theorem lw_p38 : lw_okq (⟨"StyleRowsModel", "onOf", "(I)I"⟩, 35) := ⟨⟨by decide +kernel, by decide +kernel⟩, List.mem_of_getElem? (i := 749) (by decide +kernel), List.mem_of_getElem? (i := 1007) (by decide +kernel), List.mem_of_getElem? (i := 1008) (by decide +kernel)⟩
theorem lw_p39 : lw_okq (⟨"StyleRowsModel", "longOf", "(I)I"⟩, 35) := ⟨⟨by decide +kernel, by decide +kernel⟩, List.mem_of_getElem? (i := 749) (by decide +kernel), List.mem_of_getElem? (i := 1014) (by decide +kernel), List.mem_of_getElem? (i := 1015) (by decide +kernel)⟩
theorem lw_p40 : lw_okq (⟨"StyleRowsModel", "has", "(II)Z"⟩, 35) := ⟨⟨by decide +kernel, by decide +kernel⟩, List.mem_of_getElem? (i := 749) (by decide +kernel), List.mem_of_getElem? (i := 1018) (by decide +kernel), List.mem_of_getElem? (i := 1019) (by decide +kernel)⟩
theorem lw_p41 : lw_okq (⟨"StyleRowsModel", "loudOf", "(I)I"⟩, 35) := ⟨⟨by decide +kernel, by decide +kernel⟩, List.mem_of_getElem? (i := 749) (by decide +kernel), List.mem_of_getElem? (i := 1025) (by decide +kernel), List.mem_of_getElem? (i := 1026) (by decide +kernel)⟩
theorem lw_p42 : lw_okq (⟨"StyleRowsModel", "rolledAhead", "(I)I"⟩, 35) := ⟨⟨by decide +kernel, by decide +kernel⟩, List.mem_of_getElem? (i := 749) (by decide +kernel), List.mem_of_getElem? (i := 1029) (by decide +kernel), List.mem_of_getElem? (i := 1030) (by decide +kernel)⟩
theorem lw_p43 : lw_okq (⟨"StyleRowsModel", "sounds", "(IIIII)V"⟩, 35) := ⟨⟨by decide +kernel, by decide +kernel⟩, List.mem_of_getElem? (i := 749) (by decide +kernel), List.mem_of_getElem? (i := 1033) (by decide +kernel), List.mem_of_getElem? (i := 1034) (by decide +kernel)⟩
theorem lw_p44 : lw_okq (⟨"StyleRowsModel", "trill", "(III)V"⟩, 35) := ⟨⟨by decide +kernel, by decide +kernel⟩, List.mem_of_getElem? (i := 749) (by decide +kernel), List.mem_of_getElem? (i := 1037) (by decide +kernel), List.mem_of_getElem? (i := 1038) (by decide +kernel)⟩
theorem lw_p45 : lw_okq (⟨"StyleRowsModel", "isAhead", "(II)Z"⟩, 35) := ⟨⟨by decide +kernel, by decide +kernel⟩, List.mem_of_getElem? (i := 749) (by decide +kernel), List.mem_of_getElem? (i := 1041) (by decide +kernel), List.mem_of_getElem? (i := 1042) (by decide +kernel)⟩
theorem lw_p46 : lw_okq (⟨"StyleRowsModel", "cut", "(I)I"⟩, 35) := ⟨⟨by decide +kernel, by decide +kernel⟩, List.mem_of_getElem? (i := 749) (by decide +kernel), List.mem_of_getElem? (i := 1045) (by decide +kernel), List.mem_of_getElem? (i := 1046) (by decide +kernel)⟩
def lw_privs_3 : List (MethodName × Nat) := [(⟨"StyleRowsModel", "takeRule", "(I)Z"⟩, 35), (⟨"StyleRowsModel", "isNumber", "(II)Z"⟩, 35), (⟨"StyleRowsModel", "named", "()I"⟩, 35), (⟨"StyleRowsModel", "number", "(II)I"⟩, 35), (⟨"StyleRowsModel", "counts", "(II)I"⟩, 35), (⟨"StyleRowsModel", "performNote", "(I)V"⟩, 35), (⟨"StyleRowsModel", "onOf", "(I)I"⟩, 35), (⟨"StyleRowsModel", "longOf", "(I)I"⟩, 35), (⟨"StyleRowsModel", "has", "(II)Z"⟩, 35), (⟨"StyleRowsModel", "loudOf", "(I)I"⟩, 35), (⟨"StyleRowsModel", "rolledAhead", "(I)I"⟩, 35), (⟨"StyleRowsModel", "sounds", "(IIIII)V"⟩, 35), (⟨"StyleRowsModel", "trill", "(III)V"⟩, 35), (⟨"StyleRowsModel", "isAhead", "(II)Z"⟩, 35), (⟨"StyleRowsModel", "cut", "(I)I"⟩, 35)]
theorem lw_r3 : ∀ q ∈ lw_privs_3, lw_okq q := List.forall_mem_cons.mpr ⟨lw_p32, List.forall_mem_cons.mpr ⟨lw_p33, List.forall_mem_cons.mpr ⟨lw_p34, List.forall_mem_cons.mpr ⟨lw_p35, List.forall_mem_cons.mpr ⟨lw_p36, List.forall_mem_cons.mpr ⟨lw_p37, List.forall_mem_cons.mpr ⟨lw_p38, List.forall_mem_cons.mpr ⟨lw_p39, List.forall_mem_cons.mpr ⟨lw_p40, List.forall_mem_cons.mpr ⟨lw_p41, List.forall_mem_cons.mpr ⟨lw_p42, List.forall_mem_cons.mpr ⟨lw_p43, List.forall_mem_cons.mpr ⟨lw_p44, List.forall_mem_cons.mpr ⟨lw_p45, List.forall_mem_cons.mpr ⟨lw_p46, fun _ h => absurd h List.not_mem_nil⟩⟩⟩⟩⟩⟩⟩⟩⟩⟩⟩⟩⟩⟩⟩
def lw_privs : List (MethodName × Nat) := lw_privs_1 ++ (lw_privs_2 ++ (lw_privs_3))
def lw_tbl : List Cond := k2_sels lw_privs ++ tables_1
theorem lw_privs_ok : ∀ q ∈ lw_privs, lw_okq q := by
  show ∀ q ∈ lw_privs_1 ++ (lw_privs_2 ++ (lw_privs_3)), lw_okq q
  exact List.forall_mem_append.mpr ⟨lw_r1, List.forall_mem_append.mpr ⟨lw_r2, lw_r3⟩⟩
-- ===== end of PART A; then your names; then what follows =====
end
section
/-! ===== BEGIN words of one list among another's, by their places ===== -/
theorem goodIn_r {big : List Cond} (ws : List Cond) (ps : List Nat) (hp : ws = ps.filterMap (fun i => big[i]?)) (h : ws.all goodWord = true) : GoodIn big ws := by
  intro w hw
  have h1 := List.all_eq_true.mp h w hw
  rw [hp] at hw
  obtain ⟨i, -, hi⟩ := List.mem_filterMap.mp hw
  have hm : w ∈ big := by first | exact List.mem_of_getElem? hi | exact List.getElem?_mem hi
  exact ⟨hm, good_of_word h1⟩
theorem goodIn_app {big a b : List Cond} (ha : GoodIn big a) (hb : GoodIn big b) : GoodIn big (a ++ b) := fun w h => (List.mem_append.mp h).elim (ha w) (hb w)
theorem goodIn_ca {big a b : List Cond} {c : Cond} (ha : GoodIn big (c :: a)) (hb : GoodIn big b) : GoodIn big (c :: (a ++ b)) := fun w h => (List.mem_cons.mp h).elim (fun e => ha w (List.mem_cons.mpr (Or.inl e))) (fun h => (List.mem_append.mp h).elim (fun h => ha w (List.mem_cons.mpr (Or.inr h))) (hb w))
theorem goodIn_sub {big ws : List Cond} (hm : ∀ w ∈ ws, w ∈ big) (h : ws.all goodWord = true) : GoodIn big ws := fun w hw => ⟨hm w hw, good_of_word (List.all_eq_true.mp h w hw)⟩
/-! ===== END ===== -/


/-! ===== BEGIN printed: names, fields, word lists, decode rows ===== -/
def RX0 : String := "StyleRows$Arcs"
def TX0 : u_T := fun k => match k with
  | 0 => ("StyleRows$Arcs", "froms", "[I", true)
  | 1 => ("StyleRows$Arcs", "tos", "[I", true)
  | 2 => ("StyleRows$Arcs", "bys", "[I", true)
  | _ => ("StyleRows$Arcs", "howMany", "I", false)
def tyX0 : Nat → FieldType := fun k => match k with
  | 0 => .array .int
  | 1 => .array .int
  | 2 => .array .int
  | _ => .int
abbrev wsX00 : List Cond := u_ws RX0 TX0 4
theorem nmX0 : ∀ a, a < 4 → ∀ b, b < 4 → a ≠ b → (TX0 a).2.1 ≠ (TX0 b).2.1 := by decide +kernel
theorem tyX0_ok : ∀ k, k < 4 → parseFieldDescriptor (TX0 k).2.2.1 = some (tyX0 k) := by decide +kernel
abbrev cX0_init : ByteArray := prog_2_method_1_code
def yX0_init : MethodName := ⟨RX0, "<init>", "()V"⟩
abbrev cX0_shareWith : ByteArray := prog_2_method_2_code
def yX0_shareWith : MethodName := ⟨RX0, "shareWith", "(II)Z"⟩
abbrev cX0_add : ByteArray := prog_2_method_3_code
def yX0_add : MethodName := ⟨RX0, "add", "(III)I"⟩
abbrev cX0_bent : ByteArray := prog_2_method_4_code
def yX0_bent : MethodName := ⟨RX0, "bent", "(I)I"⟩
def RX1 : String := "StyleRows$Events"
def TX1 : u_T := fun k => match k with
  | 0 => ("StyleRows$Events", "rows", "[[I", true)
  | 1 => ("StyleRows$Events", "howMany", "I", false)
  | _ => ("StyleRows$Events", "tooMany", "Z", false)
def tyX1 : Nat → FieldType := fun k => match k with
  | 0 => .array (.array .int)
  | 1 => .int
  | _ => .boolean
abbrev wsX10 : List Cond := u_ws RX1 TX1 3
theorem nmX1 : ∀ a, a < 3 → ∀ b, b < 3 → a ≠ b → (TX1 a).2.1 ≠ (TX1 b).2.1 := by decide +kernel
theorem tyX1_ok : ∀ k, k < 3 → parseFieldDescriptor (TX1 k).2.2.1 = some (tyX1 k) := by decide +kernel
abbrev cX1_init : ByteArray := prog_3_method_1_code
def yX1_init : MethodName := ⟨RX1, "<init>", "()V"⟩
abbrev cX1_clear : ByteArray := prog_3_method_2_code
def yX1_clear : MethodName := ⟨RX1, "clear", "()V"⟩
abbrev cX1_add : ByteArray := prog_3_method_3_code
def yX1_add : MethodName := ⟨RX1, "add", "(IIIIIII)V"⟩
abbrev cX1_has : ByteArray := prog_3_method_4_code
def yX1_has : MethodName := ⟨RX1, "has", "(I)Z"⟩
abbrev cX1_bend : ByteArray := prog_3_method_5_code
def yX1_bend : MethodName := ⟨RX1, "bend", "(LStyleRows$Arcs;)V"⟩
abbrev cX1_takeInOrder : ByteArray := prog_3_method_6_code
def yX1_takeInOrder : MethodName := ⟨RX1, "takeInOrder", "(LStyleRows$Events;LStyleRows$Order;)V"⟩
abbrev cX1_endAtRepeats : ByteArray := prog_3_method_7_code
def yX1_endAtRepeats : MethodName := ⟨RX1, "endAtRepeats", "()V"⟩
abbrev cX1_endAtRepeat : ByteArray := prog_3_method_8_code
def yX1_endAtRepeat : MethodName := ⟨RX1, "endAtRepeat", "(I)V"⟩
abbrev cX1_repeats : ByteArray := prog_3_method_9_code
def yX1_repeats : MethodName := ⟨RX1, "repeats", "(II)Z"⟩
abbrev cX1_endOf : ByteArray := prog_3_method_10_code
def yX1_endOf : MethodName := ⟨RX1, "endOf", "(I)I"⟩
abbrev cX1_soundingAt : ByteArray := prog_3_method_11_code
def yX1_soundingAt : MethodName := ⟨RX1, "soundingAt", "(I)I"⟩
abbrev cX1_howManyOf : ByteArray := prog_3_method_12_code
def yX1_howManyOf : MethodName := ⟨RX1, "howManyOf", "(I)I"⟩
abbrev cX1_firstBeginOf : ByteArray := prog_3_method_13_code
def yX1_firstBeginOf : MethodName := ⟨RX1, "firstBeginOf", "(I)I"⟩
abbrev cX1_lastEndOf : ByteArray := prog_3_method_14_code
def yX1_lastEndOf : MethodName := ⟨RX1, "lastEndOf", "(I)I"⟩
def RX2 : String := "StyleRows$Levels"
def TX2 : u_T := fun k => match k with
  | 0 => ("StyleRows$Levels", "ticks", "[I", true)
  | 1 => ("StyleRows$Levels", "heights", "[I", true)
  | 2 => ("StyleRows$Levels", "swelling", "[Z", true)
  | _ => ("StyleRows$Levels", "howMany", "I", false)
def tyX2 : Nat → FieldType := fun k => match k with
  | 0 => .array .int
  | 1 => .array .int
  | 2 => .array .boolean
  | _ => .int
abbrev wsX20 : List Cond := u_ws RX2 TX2 4
theorem nmX2 : ∀ a, a < 4 → ∀ b, b < 4 → a ≠ b → (TX2 a).2.1 ≠ (TX2 b).2.1 := by decide +kernel
theorem tyX2_ok : ∀ k, k < 4 → parseFieldDescriptor (TX2 k).2.2.1 = some (tyX2 k) := by decide +kernel
abbrev cX2_init : ByteArray := prog_4_method_1_code
def yX2_init : MethodName := ⟨RX2, "<init>", "()V"⟩
abbrev cX2_put : ByteArray := prog_4_method_2_code
def yX2_put : MethodName := ⟨RX2, "put", "(IIZ)I"⟩
abbrev cX2_moveUpFrom : ByteArray := prog_4_method_3_code
def yX2_moveUpFrom : MethodName := ⟨RX2, "moveUpFrom", "(I)V"⟩
abbrev cX2_at : ByteArray := prog_4_method_4_code
def yX2_at : MethodName := ⟨RX2, "at", "(I)I"⟩
def RX3 : String := "StyleRows$Names"
def TX3 : u_T := fun k => match k with
  | _ => ("", "", "", false)
def tyX3 : Nat → FieldType := fun k => match k with
  | _ => .int
abbrev wsX30 : List Cond := u_ws RX3 TX3 0
theorem nmX3 : ∀ a, a < 0 → ∀ b, b < 0 → a ≠ b → (TX3 a).2.1 ≠ (TX3 b).2.1 := by decide +kernel
theorem tyX3_ok : ∀ k, k < 0 → parseFieldDescriptor (TX3 k).2.2.1 = some (tyX3 k) := by decide +kernel
abbrev cX3_has : ByteArray := prog_5_method_2_code
def yX3_has : MethodName := ⟨RX3, "has", "(I)Z"⟩
abbrev cX3_wordOf : ByteArray := prog_5_method_3_code
def yX3_wordOf : MethodName := ⟨RX3, "wordOf", "(I)Ljava/lang/String;"⟩
def RX4 : String := "StyleRows$Notes"
def TX4 : u_T := fun k => match k with
  | 0 => ("StyleRows$Notes", "voices", "[I", true)
  | 1 => ("StyleRows$Notes", "starts", "[I", true)
  | 2 => ("StyleRows$Notes", "lengths", "[I", true)
  | 3 => ("StyleRows$Notes", "pitches", "[I", true)
  | 4 => ("StyleRows$Notes", "marks", "[I", true)
  | _ => ("StyleRows$Notes", "howMany", "I", false)
def tyX4 : Nat → FieldType := fun k => match k with
  | 0 => .array .int
  | 1 => .array .int
  | 2 => .array .int
  | 3 => .array .int
  | 4 => .array .int
  | _ => .int
abbrev wsX40 : List Cond := u_ws RX4 TX4 6
theorem nmX4 : ∀ a, a < 6 → ∀ b, b < 6 → a ≠ b → (TX4 a).2.1 ≠ (TX4 b).2.1 := by decide +kernel
theorem tyX4_ok : ∀ k, k < 6 → parseFieldDescriptor (TX4 k).2.2.1 = some (tyX4 k) := by decide +kernel
abbrev cX4_init : ByteArray := prog_6_method_1_code
def yX4_init : MethodName := ⟨RX4, "<init>", "()V"⟩
abbrev cX4_has : ByteArray := prog_6_method_2_code
def yX4_has : MethodName := ⟨RX4, "has", "(I)Z"⟩
abbrev cX4_add : ByteArray := prog_6_method_3_code
def yX4_add : MethodName := ⟨RX4, "add", "(IIIII)I"⟩
abbrev cX4_changeMarks : ByteArray := prog_6_method_4_code
def yX4_changeMarks : MethodName := ⟨RX4, "changeMarks", "(II)I"⟩
abbrev cX4_rolledAhead : ByteArray := prog_6_method_5_code
def yX4_rolledAhead : MethodName := ⟨RX4, "rolledAhead", "(I)I"⟩
abbrev cX4_isInChord : ByteArray := prog_6_method_6_code
def yX4_isInChord : MethodName := ⟨RX4, "isInChord", "(II)Z"⟩
abbrev cX4_isLower : ByteArray := prog_6_method_7_code
def yX4_isLower : MethodName := ⟨RX4, "isLower", "(II)Z"⟩
def RX5 : String := "StyleRows$Order"
def TX5 : u_T := fun k => match k with
  | 0 => ("StyleRows$Order", "keys", "[J", false)
  | _ => ("StyleRows$Order", "spare", "[J", false)
def tyX5 : Nat → FieldType := fun k => match k with
  | 0 => .array .long
  | _ => .array .long
abbrev wsX50 : List Cond := u_ws RX5 TX5 2
theorem nmX5 : ∀ a, a < 2 → ∀ b, b < 2 → a ≠ b → (TX5 a).2.1 ≠ (TX5 b).2.1 := by decide +kernel
theorem tyX5_ok : ∀ k, k < 2 → parseFieldDescriptor (TX5 k).2.2.1 = some (tyX5 k) := by decide +kernel
abbrev cX5_init : ByteArray := prog_7_method_1_code
def yX5_init : MethodName := ⟨RX5, "<init>", "()V"⟩
abbrev cX5_sort : ByteArray := prog_7_method_2_code
def yX5_sort : MethodName := ⟨RX5, "sort", "(LStyleRows$Events;)V"⟩
abbrev cX5_keyOf : ByteArray := prog_7_method_3_code
def yX5_keyOf : MethodName := ⟨RX5, "keyOf", "(LStyleRows$Events;I)J"⟩
abbrev cX5_merge : ByteArray := prog_7_method_4_code
def yX5_merge : MethodName := ⟨RX5, "merge", "(III)V"⟩
abbrev cX5_partAt : ByteArray := prog_7_method_5_code
def yX5_partAt : MethodName := ⟨RX5, "partAt", "(I)I"⟩
def RX6 : String := "StyleRows$Performer"
def TX6 : u_T := fun k => match k with
  | 0 => ("StyleRows$Performer", "parts", "LStyleRows$Events;", true)
  | 1 => ("StyleRows$Performer", "note", "I", false)
  | 2 => ("StyleRows$Performer", "voice", "I", false)
  | 3 => ("StyleRows$Performer", "pitch", "I", false)
  | 4 => ("StyleRows$Performer", "marks", "I", false)
  | 5 => ("StyleRows$Performer", "loud", "I", false)
  | 6 => ("StyleRows$Performer", "on", "I", false)
  | _ => ("StyleRows$Performer", "left", "I", false)
def tyX6 : Nat → FieldType := fun k => match k with
  | 0 => .object "StyleRows$Events"
  | 1 => .int
  | 2 => .int
  | 3 => .int
  | 4 => .int
  | 5 => .int
  | 6 => .int
  | _ => .int
abbrev wsX60 : List Cond := u_ws RX6 TX6 8
theorem nmX6 : ∀ a, a < 8 → ∀ b, b < 8 → a ≠ b → (TX6 a).2.1 ≠ (TX6 b).2.1 := by decide +kernel
theorem tyX6_ok : ∀ k, k < 8 → parseFieldDescriptor (TX6 k).2.2.1 = some (tyX6 k) := by decide +kernel
abbrev cX6_init : ByteArray := prog_8_method_1_code
def yX6_init : MethodName := ⟨RX6, "<init>", "()V"⟩
abbrev cX6_makeParts : ByteArray := prog_8_method_2_code
def yX6_makeParts : MethodName := ⟨RX6, "makeParts", "(LStyleRows$Score;LStyleRows$Rules;J)Z"⟩
abbrev cX6_takeNote : ByteArray := prog_8_method_3_code
def yX6_takeNote : MethodName := ⟨RX6, "takeNote", "(LStyleRows$Notes;I)V"⟩
abbrev cX6_isMarked : ByteArray := prog_8_method_4_code
def yX6_isMarked : MethodName := ⟨RX6, "isMarked", "(I)Z"⟩
abbrev cX6_longOf : ByteArray := prog_8_method_5_code
def yX6_longOf : MethodName := ⟨RX6, "longOf", "(ILStyleRows$Rules;)I"⟩
abbrev cX6_loudOf : ByteArray := prog_8_method_6_code
def yX6_loudOf : MethodName := ⟨RX6, "loudOf", "(LStyleRows$Score;ILStyleRows$Rules;)I"⟩
abbrev cX6_onOf : ByteArray := prog_8_method_7_code
def yX6_onOf : MethodName := ⟨RX6, "onOf", "(ILStyleRows$Rules;J)I"⟩
abbrev cX6_drawOf : ByteArray := prog_8_method_8_code
def yX6_drawOf : MethodName := ⟨RX6, "drawOf", "(IJ)I"⟩
abbrev cX6_addParts : ByteArray := prog_8_method_9_code
def yX6_addParts : MethodName := ⟨RX6, "addParts", "(LStyleRows$Notes;LStyleRows$Rules;)V"⟩
abbrev cX6_roll : ByteArray := prog_8_method_10_code
def yX6_roll : MethodName := ⟨RX6, "roll", "(LStyleRows$Notes;LStyleRows$Rules;)V"⟩
abbrev cX6_addLean : ByteArray := prog_8_method_11_code
def yX6_addLean : MethodName := ⟨RX6, "addLean", "(LStyleRows$Rules;)V"⟩
abbrev cX6_addTrill : ByteArray := prog_8_method_12_code
def yX6_addTrill : MethodName := ⟨RX6, "addTrill", "(LStyleRows$Rules;)Z"⟩
abbrev cX6_addTurn : ByteArray := prog_8_method_13_code
def yX6_addTurn : MethodName := ⟨RX6, "addTurn", "(LStyleRows$Rules;)Z"⟩
abbrev cX6_addPart : ByteArray := prog_8_method_14_code
def yX6_addPart : MethodName := ⟨RX6, "addPart", "(IIII)V"⟩
def RX7 : String := "StyleRows$Reader"
def TX7 : u_T := fun k => match k with
  | 0 => ("StyleRows$Reader", "from", "I", false)
  | 1 => ("StyleRows$Reader", "to", "I", false)
  | 2 => ("StyleRows$Reader", "kind", "I", false)
  | _ => ("StyleRows$Reader", "number", "I", false)
def tyX7 : Nat → FieldType := fun k => match k with
  | 0 => .int
  | 1 => .int
  | 2 => .int
  | _ => .int
abbrev wsX70 : List Cond := u_ws RX7 TX7 4
theorem nmX7 : ∀ a, a < 4 → ∀ b, b < 4 → a ≠ b → (TX7 a).2.1 ≠ (TX7 b).2.1 := by decide +kernel
theorem tyX7_ok : ∀ k, k < 4 → parseFieldDescriptor (TX7 k).2.2.1 = some (tyX7 k) := by decide +kernel
abbrev cX7_init : ByteArray := prog_9_method_1_code
def yX7_init : MethodName := ⟨RX7, "<init>", "()V"⟩
abbrev cX7_findFault : ByteArray := prog_9_method_2_code
def yX7_findFault : MethodName := ⟨RX7, "findFault", "(LStyleRows$Tape;LStyleRows$Rules;)I"⟩
abbrev cX7_takeRule : ByteArray := prog_9_method_3_code
def yX7_takeRule : MethodName := ⟨RX7, "takeRule", "(LStyleRows$Tape;LStyleRows$Rules;)Z"⟩
abbrev cX7_takeNumber : ByteArray := prog_9_method_4_code
def yX7_takeNumber : MethodName := ⟨RX7, "takeNumber", "(LStyleRows$Tape;II)Z"⟩
abbrev cX7_nameThere : ByteArray := prog_9_method_5_code
def yX7_nameThere : MethodName := ⟨RX7, "nameThere", "(LStyleRows$Tape;)I"⟩
abbrev cX7_isWord : ByteArray := prog_9_method_6_code
def yX7_isWord : MethodName := ⟨RX7, "isWord", "(LStyleRows$Tape;Ljava/lang/String;)Z"⟩
abbrev cX7_takePiece : ByteArray := prog_9_method_7_code
def yX7_takePiece : MethodName := ⟨RX7, "takePiece", "(LStyleRows$Tape;)V"⟩
abbrev cX7_kindAt : ByteArray := prog_9_method_8_code
def yX7_kindAt : MethodName := ⟨RX7, "kindAt", "(LStyleRows$Tape;I)I"⟩
def RX8 : String := "StyleRows$Rules"
def TX8 : u_T := fun k => match k with
  | 0 => ("StyleRows$Rules", "rows", "[[I", true)
  | 1 => ("StyleRows$Rules", "counting", "[I", true)
  | 2 => ("StyleRows$Rules", "howMany", "I", false)
  | _ => ("StyleRows$Rules", "withStaged", "I", false)
def tyX8 : Nat → FieldType := fun k => match k with
  | 0 => .array (.array .int)
  | 1 => .array .int
  | 2 => .int
  | _ => .int
abbrev wsX80 : List Cond := u_ws RX8 TX8 4
theorem nmX8 : ∀ a, a < 4 → ∀ b, b < 4 → a ≠ b → (TX8 a).2.1 ≠ (TX8 b).2.1 := by decide +kernel
theorem tyX8_ok : ∀ k, k < 4 → parseFieldDescriptor (TX8 k).2.2.1 = some (tyX8 k) := by decide +kernel
abbrev cX8_init : ByteArray := prog_10_method_1_code
def yX8_init : MethodName := ⟨RX8, "<init>", "()V"⟩
abbrev cX8_clear : ByteArray := prog_10_method_2_code
def yX8_clear : MethodName := ⟨RX8, "clear", "()I"⟩
abbrev cX8_has : ByteArray := prog_10_method_3_code
def yX8_has : MethodName := ⟨RX8, "has", "(I)Z"⟩
abbrev cX8_countingFor : ByteArray := prog_10_method_4_code
def yX8_countingFor : MethodName := ⟨RX8, "countingFor", "(II)I"⟩
abbrev cX8_numberFor : ByteArray := prog_10_method_5_code
def yX8_numberFor : MethodName := ⟨RX8, "numberFor", "(II)I"⟩
abbrev cX8_dropStaged : ByteArray := prog_10_method_6_code
def yX8_dropStaged : MethodName := ⟨RX8, "dropStaged", "()V"⟩
abbrev cX8_areFull : ByteArray := prog_10_method_7_code
def yX8_areFull : MethodName := ⟨RX8, "areFull", "()Z"⟩
abbrev cX8_stage : ByteArray := prog_10_method_8_code
def yX8_stage : MethodName := ⟨RX8, "stage", "(IIII)V"⟩
abbrev cX8_keepStaged : ByteArray := prog_10_method_9_code
def yX8_keepStaged : MethodName := ⟨RX8, "keepStaged", "()I"⟩
abbrev cX8_letCount : ByteArray := prog_10_method_10_code
def yX8_letCount : MethodName := ⟨RX8, "letCount", "(I)V"⟩
abbrev cX8_isOutrankedBy : ByteArray := prog_10_method_11_code
def yX8_isOutrankedBy : MethodName := ⟨RX8, "isOutrankedBy", "(II)Z"⟩
def RX9 : String := "StyleRows$Score"
def TX9 : u_T := fun k => match k with
  | 0 => ("StyleRows$Score", "notes", "LStyleRows$Notes;", true)
  | 1 => ("StyleRows$Score", "levels", "LStyleRows$Levels;", true)
  | 2 => ("StyleRows$Score", "arcs", "LStyleRows$Arcs;", true)
  | 3 => ("StyleRows$Score", "beats", "I", false)
  | _ => ("StyleRows$Score", "unit", "I", false)
def tyX9 : Nat → FieldType := fun k => match k with
  | 0 => .object "StyleRows$Notes"
  | 1 => .object "StyleRows$Levels"
  | 2 => .object "StyleRows$Arcs"
  | 3 => .int
  | _ => .int
abbrev wsX90 : List Cond := u_ws RX9 TX9 5
theorem nmX9 : ∀ a, a < 5 → ∀ b, b < 5 → a ≠ b → (TX9 a).2.1 ≠ (TX9 b).2.1 := by decide +kernel
theorem tyX9_ok : ∀ k, k < 5 → parseFieldDescriptor (TX9 k).2.2.1 = some (tyX9 k) := by decide +kernel
abbrev cX9_init : ByteArray := prog_11_method_1_code
def yX9_init : MethodName := ⟨RX9, "<init>", "()V"⟩
abbrev cX9_beat : ByteArray := prog_11_method_2_code
def yX9_beat : MethodName := ⟨RX9, "beat", "(II)V"⟩
abbrev cX9_beginsBar : ByteArray := prog_11_method_3_code
def yX9_beginsBar : MethodName := ⟨RX9, "beginsBar", "(I)Z"⟩
abbrev cX9_beginsBeat : ByteArray := prog_11_method_4_code
def yX9_beginsBeat : MethodName := ⟨RX9, "beginsBeat", "(I)Z"⟩
abbrev cX9_isMultiple : ByteArray := prog_11_method_5_code
def yX9_isMultiple : MethodName := ⟨RX9, "isMultiple", "(II)Z"⟩
def RX10 : String := "StyleRows$Tape"
def TX10 : u_T := fun k => match k with
  | 0 => ("StyleRows$Tape", "bytes", "[B", true)
  | _ => ("StyleRows$Tape", "length", "I", false)
def tyX10 : Nat → FieldType := fun k => match k with
  | 0 => .array .byte
  | _ => .int
abbrev wsX100 : List Cond := u_ws RX10 TX10 2
theorem nmX10 : ∀ a, a < 2 → ∀ b, b < 2 → a ≠ b → (TX10 a).2.1 ≠ (TX10 b).2.1 := by decide +kernel
theorem tyX10_ok : ∀ k, k < 2 → parseFieldDescriptor (TX10 k).2.2.1 = some (tyX10 k) := by decide +kernel
abbrev cX10_init : ByteArray := prog_12_method_1_code
def yX10_init : MethodName := ⟨RX10, "<init>", "()V"⟩
abbrev cX10_append : ByteArray := prog_12_method_2_code
def yX10_append : MethodName := ⟨RX10, "append", "(IJ)I"⟩
abbrev cX10_clear : ByteArray := prog_12_method_3_code
def yX10_clear : MethodName := ⟨RX10, "clear", "()V"⟩
abbrev cX10_at : ByteArray := prog_12_method_4_code
def yX10_at : MethodName := ⟨RX10, "at", "(I)I"⟩
def RX11 : String := "StyleRows"
def TX11 : u_T := fun k => match k with
  | 0 => ("StyleRows", "seed", "J", true)
  | 1 => ("StyleRows", "score", "LStyleRows$Score;", true)
  | 2 => ("StyleRows", "tape", "LStyleRows$Tape;", true)
  | 3 => ("StyleRows", "rules", "LStyleRows$Rules;", true)
  | 4 => ("StyleRows", "reader", "LStyleRows$Reader;", true)
  | 5 => ("StyleRows", "performer", "LStyleRows$Performer;", true)
  | 6 => ("StyleRows", "order", "LStyleRows$Order;", true)
  | _ => ("StyleRows", "events", "LStyleRows$Events;", true)
def tyX11 : Nat → FieldType := fun k => match k with
  | 0 => .long
  | 1 => .object "StyleRows$Score"
  | 2 => .object "StyleRows$Tape"
  | 3 => .object "StyleRows$Rules"
  | 4 => .object "StyleRows$Reader"
  | 5 => .object "StyleRows$Performer"
  | 6 => .object "StyleRows$Order"
  | _ => .object "StyleRows$Events"
abbrev wsX110 : List Cond := u_ws RX11 TX11 8
theorem nmX11 : ∀ a, a < 8 → ∀ b, b < 8 → a ≠ b → (TX11 a).2.1 ≠ (TX11 b).2.1 := by decide +kernel
theorem tyX11_ok : ∀ k, k < 8 → parseFieldDescriptor (TX11 k).2.2.1 = some (tyX11 k) := by decide +kernel
abbrev cX11_init : ByteArray := prog_1_method_1_code
def yX11_init : MethodName := ⟨RX11, "<init>", "(J)V"⟩
abbrev cX11_note : ByteArray := prog_1_method_2_code
def yX11_note : MethodName := ⟨RX11, "note", "(IIIII)I"⟩
abbrev cX11_mark : ByteArray := prog_1_method_3_code
def yX11_mark : MethodName := ⟨RX11, "mark", "(II)I"⟩
abbrev cX11_level : ByteArray := prog_1_method_4_code
def yX11_level : MethodName := ⟨RX11, "level", "(IIZ)I"⟩
abbrev cX11_meter : ByteArray := prog_1_method_5_code
def yX11_meter : MethodName := ⟨RX11, "meter", "(II)I"⟩
abbrev cX11_arc : ByteArray := prog_1_method_6_code
def yX11_arc : MethodName := ⟨RX11, "arc", "(III)I"⟩
abbrev cX11_levelAt : ByteArray := prog_1_method_7_code
def yX11_levelAt : MethodName := ⟨RX11, "levelAt", "(I)I"⟩
abbrev cX11_timeOf : ByteArray := prog_1_method_8_code
def yX11_timeOf : MethodName := ⟨RX11, "timeOf", "(I)I"⟩
abbrev cX11_feed : ByteArray := prog_1_method_9_code
def yX11_feed : MethodName := ⟨RX11, "feed", "(IJ)I"⟩
abbrev cX11_read : ByteArray := prog_1_method_10_code
def yX11_read : MethodName := ⟨RX11, "read", "()I"⟩
abbrev cX11_plain : ByteArray := prog_1_method_11_code
def yX11_plain : MethodName := ⟨RX11, "plain", "()I"⟩
abbrev cX11_rule : ByteArray := prog_1_method_12_code
def yX11_rule : MethodName := ⟨RX11, "rule", "(II)I"⟩
abbrev cX11_value : ByteArray := prog_1_method_13_code
def yX11_value : MethodName := ⟨RX11, "value", "(II)I"⟩
abbrev cX11_why : ByteArray := prog_1_method_14_code
def yX11_why : MethodName := ⟨RX11, "why", "(II)I"⟩
abbrev cX11_perform : ByteArray := prog_1_method_15_code
def yX11_perform : MethodName := ⟨RX11, "perform", "()I"⟩
abbrev cX11_event : ByteArray := prog_1_method_16_code
def yX11_event : MethodName := ⟨RX11, "event", "(II)I"⟩
abbrev cX11_sounding : ByteArray := prog_1_method_17_code
def yX11_sounding : MethodName := ⟨RX11, "sounding", "(I)I"⟩
abbrev cX11_span : ByteArray := prog_1_method_18_code
def yX11_span : MethodName := ⟨RX11, "span", "(II)I"⟩
abbrev cX11_count : ByteArray := prog_1_method_19_code
def yX11_count : MethodName := ⟨RX11, "count", "(I)I"⟩
abbrev cX11_isWithin : ByteArray := prog_1_method_20_code
def yX11_isWithin : MethodName := ⟨RX11, "isWithin", "(III)Z"⟩
abbrev cX11_isTick : ByteArray := prog_1_method_21_code
def yX11_isTick : MethodName := ⟨RX11, "isTick", "(I)Z"⟩
abbrev cX11_isVoice : ByteArray := prog_1_method_22_code
def yX11_isVoice : MethodName := ⟨RX11, "isVoice", "(I)Z"⟩
abbrev cX11_quotient : ByteArray := prog_1_method_23_code
def yX11_quotient : MethodName := ⟨RX11, "quotient", "(JJ)I"⟩
def RX12 : String := "StyleRowsModel"
def TX12 : u_T := fun k => match k with
  | 0 => ("StyleRowsModel", "seed", "J", true)
  | 1 => ("StyleRowsModel", "notes", "I", false)
  | 2 => ("StyleRowsModel", "voice", "[I", true)
  | 3 => ("StyleRowsModel", "start", "[I", true)
  | 4 => ("StyleRowsModel", "length", "[I", true)
  | 5 => ("StyleRowsModel", "pitch", "[I", true)
  | 6 => ("StyleRowsModel", "marks", "[I", true)
  | 7 => ("StyleRowsModel", "levels", "I", false)
  | 8 => ("StyleRowsModel", "levelTick", "[I", true)
  | 9 => ("StyleRowsModel", "levelHigh", "[I", true)
  | 10 => ("StyleRowsModel", "levelSwells", "[Z", true)
  | 11 => ("StyleRowsModel", "beats", "I", false)
  | 12 => ("StyleRowsModel", "unit", "I", false)
  | 13 => ("StyleRowsModel", "arcs", "I", false)
  | 14 => ("StyleRowsModel", "arcFrom", "[I", true)
  | 15 => ("StyleRowsModel", "arcTo", "[I", true)
  | 16 => ("StyleRowsModel", "arcBy", "[I", true)
  | 17 => ("StyleRowsModel", "rules", "I", false)
  | 18 => ("StyleRowsModel", "ruleVoice", "[I", true)
  | 19 => ("StyleRowsModel", "ruleName", "[I", true)
  | 20 => ("StyleRowsModel", "ruleNumber", "[I", true)
  | 21 => ("StyleRowsModel", "ruleRank", "[I", true)
  | 22 => ("StyleRowsModel", "size", "I", false)
  | 23 => ("StyleRowsModel", "tape", "[I", true)
  | 24 => ("StyleRowsModel", "sort", "I", false)
  | 25 => ("StyleRowsModel", "first", "I", false)
  | 26 => ("StyleRowsModel", "next", "I", false)
  | 27 => ("StyleRowsModel", "told", "J", false)
  | 28 => ("StyleRowsModel", "parts", "I", false)
  | 29 => ("StyleRowsModel", "part", "[I", true)
  | 30 => ("StyleRowsModel", "events", "I", false)
  | 31 => ("StyleRowsModel", "event", "[I", true)
  | 32 => ("StyleRowsModel", "on", "I", false)
  | 33 => ("StyleRowsModel", "left", "I", false)
  | _ => ("StyleRowsModel", "loud", "I", false)
def tyX12 : Nat → FieldType := fun k => match k with
  | 0 => .long
  | 1 => .int
  | 2 => .array .int
  | 3 => .array .int
  | 4 => .array .int
  | 5 => .array .int
  | 6 => .array .int
  | 7 => .int
  | 8 => .array .int
  | 9 => .array .int
  | 10 => .array .boolean
  | 11 => .int
  | 12 => .int
  | 13 => .int
  | 14 => .array .int
  | 15 => .array .int
  | 16 => .array .int
  | 17 => .int
  | 18 => .array .int
  | 19 => .array .int
  | 20 => .array .int
  | 21 => .array .int
  | 22 => .int
  | 23 => .array .int
  | 24 => .int
  | 25 => .int
  | 26 => .int
  | 27 => .long
  | 28 => .int
  | 29 => .array .int
  | 30 => .int
  | 31 => .array .int
  | 32 => .int
  | 33 => .int
  | _ => .int
abbrev wsX120 : List Cond := u_ws RX12 TX12 35
theorem nmX12 : ∀ a, a < 35 → ∀ b, b < 35 → a ≠ b → (TX12 a).2.1 ≠ (TX12 b).2.1 := by decide +kernel
theorem tyX12_ok : ∀ k, k < 35 → parseFieldDescriptor (TX12 k).2.2.1 = some (tyX12 k) := by decide +kernel
abbrev cX12_init : ByteArray := prog_14_method_1_code
def yX12_init : MethodName := ⟨RX12, "<init>", "(J)V"⟩
abbrev cX12_in : ByteArray := prog_14_method_2_code
def yX12_in : MethodName := ⟨RX12, "in", "(JJJ)Z"⟩
abbrev cX12_floor : ByteArray := prog_14_method_3_code
def yX12_floor : MethodName := ⟨RX12, "floor", "(JJ)J"⟩
abbrev cX12_lesser : ByteArray := prog_14_method_4_code
def yX12_lesser : MethodName := ⟨RX12, "lesser", "(II)I"⟩
abbrev cX12_note : ByteArray := prog_14_method_5_code
def yX12_note : MethodName := ⟨RX12, "note", "(IIIII)I"⟩
abbrev cX12_isNote : ByteArray := prog_14_method_6_code
def yX12_isNote : MethodName := ⟨RX12, "isNote", "(I)Z"⟩
abbrev cX12_mark : ByteArray := prog_14_method_7_code
def yX12_mark : MethodName := ⟨RX12, "mark", "(II)I"⟩
abbrev cX12_level : ByteArray := prog_14_method_8_code
def yX12_level : MethodName := ⟨RX12, "level", "(IIZ)I"⟩
abbrev cX12_meter : ByteArray := prog_14_method_9_code
def yX12_meter : MethodName := ⟨RX12, "meter", "(II)I"⟩
abbrev cX12_arc : ByteArray := prog_14_method_10_code
def yX12_arc : MethodName := ⟨RX12, "arc", "(III)I"⟩
abbrev cX12_levelBy : ByteArray := prog_14_method_11_code
def yX12_levelBy : MethodName := ⟨RX12, "levelBy", "(IZ)I"⟩
abbrev cX12_highAt : ByteArray := prog_14_method_12_code
def yX12_highAt : MethodName := ⟨RX12, "highAt", "(I)I"⟩
abbrev cX12_levelAt : ByteArray := prog_14_method_13_code
def yX12_levelAt : MethodName := ⟨RX12, "levelAt", "(I)I"⟩
abbrev cX12_time : ByteArray := prog_14_method_14_code
def yX12_time : MethodName := ⟨RX12, "time", "(I)I"⟩
abbrev cX12_timeOf : ByteArray := prog_14_method_15_code
def yX12_timeOf : MethodName := ⟨RX12, "timeOf", "(I)I"⟩
abbrev cX12_feed : ByteArray := prog_14_method_16_code
def yX12_feed : MethodName := ⟨RX12, "feed", "(IJ)I"⟩
abbrev cX12_at : ByteArray := prog_14_method_17_code
def yX12_at : MethodName := ⟨RX12, "at", "(I)I"⟩
abbrev cX12_take : ByteArray := prog_14_method_18_code
def yX12_take : MethodName := ⟨RX12, "take", "()V"⟩
abbrev cX12_word : ByteArray := prog_14_method_19_code
def yX12_word : MethodName := ⟨RX12, "word", "(IIIIII)J"⟩
abbrev cX12_wordOf : ByteArray := prog_14_method_20_code
def yX12_wordOf : MethodName := ⟨RX12, "wordOf", "(I)J"⟩
abbrev cX12_usual : ByteArray := prog_14_method_21_code
def yX12_usual : MethodName := ⟨RX12, "usual", "(I)I"⟩
abbrev cX12_lowest : ByteArray := prog_14_method_22_code
def yX12_lowest : MethodName := ⟨RX12, "lowest", "(I)I"⟩
abbrev cX12_highest : ByteArray := prog_14_method_23_code
def yX12_highest : MethodName := ⟨RX12, "highest", "(I)I"⟩
abbrev cX12_named : ByteArray := prog_14_method_24_code
def yX12_named : MethodName := ⟨RX12, "named", "()I"⟩
abbrev cX12_isNumber : ByteArray := prog_14_method_25_code
def yX12_isNumber : MethodName := ⟨RX12, "isNumber", "(II)Z"⟩
abbrev cX12_takeRule : ByteArray := prog_14_method_26_code
def yX12_takeRule : MethodName := ⟨RX12, "takeRule", "(I)Z"⟩
abbrev cX12_read : ByteArray := prog_14_method_27_code
def yX12_read : MethodName := ⟨RX12, "read", "()I"⟩
abbrev cX12_plain : ByteArray := prog_14_method_28_code
def yX12_plain : MethodName := ⟨RX12, "plain", "()I"⟩
abbrev cX12_rule : ByteArray := prog_14_method_29_code
def yX12_rule : MethodName := ⟨RX12, "rule", "(II)I"⟩
abbrev cX12_counts : ByteArray := prog_14_method_30_code
def yX12_counts : MethodName := ⟨RX12, "counts", "(II)I"⟩
abbrev cX12_number : ByteArray := prog_14_method_31_code
def yX12_number : MethodName := ⟨RX12, "number", "(II)I"⟩
abbrev cX12_value : ByteArray := prog_14_method_32_code
def yX12_value : MethodName := ⟨RX12, "value", "(II)I"⟩
abbrev cX12_why : ByteArray := prog_14_method_33_code
def yX12_why : MethodName := ⟨RX12, "why", "(II)I"⟩
abbrev cX12_has : ByteArray := prog_14_method_34_code
def yX12_has : MethodName := ⟨RX12, "has", "(II)Z"⟩
abbrev cX12_sounds : ByteArray := prog_14_method_35_code
def yX12_sounds : MethodName := ⟨RX12, "sounds", "(IIIII)V"⟩
abbrev cX12_longOf : ByteArray := prog_14_method_36_code
def yX12_longOf : MethodName := ⟨RX12, "longOf", "(I)I"⟩
abbrev cX12_loudOf : ByteArray := prog_14_method_37_code
def yX12_loudOf : MethodName := ⟨RX12, "loudOf", "(I)I"⟩
abbrev cX12_onOf : ByteArray := prog_14_method_38_code
def yX12_onOf : MethodName := ⟨RX12, "onOf", "(I)I"⟩
abbrev cX12_rolledAhead : ByteArray := prog_14_method_39_code
def yX12_rolledAhead : MethodName := ⟨RX12, "rolledAhead", "(I)I"⟩
abbrev cX12_trill : ByteArray := prog_14_method_40_code
def yX12_trill : MethodName := ⟨RX12, "trill", "(III)V"⟩
abbrev cX12_performNote : ByteArray := prog_14_method_41_code
def yX12_performNote : MethodName := ⟨RX12, "performNote", "(I)V"⟩
abbrev cX12_isAhead : ByteArray := prog_14_method_42_code
def yX12_isAhead : MethodName := ⟨RX12, "isAhead", "(II)Z"⟩
abbrev cX12_cut : ByteArray := prog_14_method_43_code
def yX12_cut : MethodName := ⟨RX12, "cut", "(I)I"⟩
abbrev cX12_perform : ByteArray := prog_14_method_44_code
def yX12_perform : MethodName := ⟨RX12, "perform", "()I"⟩
abbrev cX12_event : ByteArray := prog_14_method_45_code
def yX12_event : MethodName := ⟨RX12, "event", "(II)I"⟩
abbrev cX12_sounding : ByteArray := prog_14_method_46_code
def yX12_sounding : MethodName := ⟨RX12, "sounding", "(I)I"⟩
abbrev cX12_span : ByteArray := prog_14_method_47_code
def yX12_span : MethodName := ⟨RX12, "span", "(II)I"⟩
abbrev cX12_count : ByteArray := prog_14_method_48_code
def yX12_count : MethodName := ⟨RX12, "count", "(I)I"⟩
def RJ9 : String := "java/lang/Math"
def TJ9 : u_T := fun k => match k with
  | _ => ("", "", "", false)
def tyJ9 : Nat → FieldType := fun k => match k with
  | _ => .int
abbrev wsJ90 : List Cond := u_ws RJ9 TJ9 0
theorem nmJ9 : ∀ a, a < 0 → ∀ b, b < 0 → a ≠ b → (TJ9 a).2.1 ≠ (TJ9 b).2.1 := by decide +kernel
theorem tyJ9_ok : ∀ k, k < 0 → parseFieldDescriptor (TJ9 k).2.2.1 = some (tyJ9 k) := by decide +kernel
abbrev cJ9_floorDiv_f86c9 : ByteArray := prog_15_method_49_code
def yJ9_floorDiv_f86c9 : MethodName := ⟨RJ9, "floorDiv", "(JJ)J"⟩
abbrev cJ9_floorMod_1978a : ByteArray := prog_15_method_51_code
def yJ9_floorMod_1978a : MethodName := ⟨RJ9, "floorMod", "(JI)I"⟩
abbrev cJ9_floorMod_f86c9 : ByteArray := prog_15_method_52_code
def yJ9_floorMod_f86c9 : MethodName := ⟨RJ9, "floorMod", "(JJ)J"⟩
abbrev cJ9_max_7cf53 : ByteArray := prog_15_method_65_code
def yJ9_max_7cf53 : MethodName := ⟨RJ9, "max", "(II)I"⟩
abbrev cJ9_min_7cf53 : ByteArray := prog_15_method_69_code
def yJ9_min_7cf53 : MethodName := ⟨RJ9, "min", "(II)I"⟩
def RJ0 : String := "java/lang/String"
def TJ0 : u_T := fun k => match k with
  | _ => ("", "", "", false)
def tyJ0 : Nat → FieldType := fun k => match k with
  | _ => .int
abbrev wsJ00 : List Cond := u_ws RJ0 TJ0 0
theorem nmJ0 : ∀ a, a < 0 → ∀ b, b < 0 → a ≠ b → (TJ0 a).2.1 ≠ (TJ0 b).2.1 := by decide +kernel
theorem tyJ0_ok : ∀ k, k < 0 → parseFieldDescriptor (TJ0 k).2.2.1 = some (tyJ0 k) := by decide +kernel
abbrev cJ0_length_8abf5 : ByteArray := prog_16_method_54_code
def yJ0_length_8abf5 : MethodName := ⟨RJ0, "length", "()I"⟩
abbrev cJ0_charAt_5068e : ByteArray := prog_16_method_56_code
def yJ0_charAt_5068e : MethodName := ⟨RJ0, "charAt", "(I)C"⟩
abbrev cJ0_coder_7d493 : ByteArray := prog_16_method_152_code
def yJ0_coder_7d493 : MethodName := ⟨RJ0, "coder", "()B"⟩
abbrev cJ0_isLatin1_aae02 : ByteArray := prog_16_method_154_code
def yJ0_isLatin1_aae02 : MethodName := ⟨RJ0, "isLatin1", "()Z"⟩
abbrev cJ0_checkIndex_df160 : ByteArray := prog_16_method_155_code
def yJ0_checkIndex_df160 : MethodName := ⟨RJ0, "checkIndex", "(II)V"⟩
def RJ1 : String := "java/lang/StringLatin1"
def TJ1 : u_T := fun k => match k with
  | _ => ("", "", "", false)
def tyJ1 : Nat → FieldType := fun k => match k with
  | _ => .int
abbrev wsJ10 : List Cond := u_ws RJ1 TJ1 0
theorem nmJ1 : ∀ a, a < 0 → ∀ b, b < 0 → a ≠ b → (TJ1 a).2.1 ≠ (TJ1 b).2.1 := by decide +kernel
theorem tyJ1_ok : ∀ k, k < 0 → parseFieldDescriptor (TJ1 k).2.2.1 = some (tyJ1 k) := by decide +kernel
abbrev cJ1_charAt_3b067 : ByteArray := prog_17_method_2_code
def yJ1_charAt_3b067 : MethodName := ⟨RJ1, "charAt", "([BI)C"⟩
def RJ2 : String := "java/lang/StringUTF16"
def TJ2 : u_T := fun k => match k with
  | _ => ("", "", "", false)
def tyJ2 : Nat → FieldType := fun k => match k with
  | _ => .int
abbrev wsJ20 : List Cond := u_ws RJ2 TJ2 0
theorem nmJ2 : ∀ a, a < 0 → ∀ b, b < 0 → a ≠ b → (TJ2 a).2.1 ≠ (TJ2 b).2.1 := by decide +kernel
theorem tyJ2_ok : ∀ k, k < 0 → parseFieldDescriptor (TJ2 k).2.2.1 = some (tyJ2 k) := by decide +kernel
abbrev cJ2_getChar_3b067 : ByteArray := prog_18_method_5_code
def yJ2_getChar_3b067 : MethodName := ⟨RJ2, "getChar", "([BI)C"⟩
abbrev cJ2_length_9d52b : ByteArray := prog_18_method_6_code
def yJ2_length_9d52b : MethodName := ⟨RJ2, "length", "([B)I"⟩
abbrev cJ2_charAt_3b067 : ByteArray := prog_18_method_83_code
def yJ2_charAt_3b067 : MethodName := ⟨RJ2, "charAt", "([BI)C"⟩
abbrev cJ2_checkIndex_2214a : ByteArray := prog_18_method_91_code
def yJ2_checkIndex_2214a : MethodName := ⟨RJ2, "checkIndex", "(I[B)V"⟩
def RJ3 : String := "jdk/internal/util/Preconditions"
def TJ3 : u_T := fun k => match k with
  | _ => ("", "", "", false)
def tyJ3 : Nat → FieldType := fun k => match k with
  | _ => .int
abbrev wsJ30 : List Cond := u_ws RJ3 TJ3 0
theorem nmJ3 : ∀ a, a < 0 → ∀ b, b < 0 → a ≠ b → (TJ3 a).2.1 ≠ (TJ3 b).2.1 := by decide +kernel
theorem tyJ3_ok : ∀ k, k < 0 → parseFieldDescriptor (TJ3 k).2.2.1 = some (tyJ3 k) := by decide +kernel
abbrev cJ3_checkIndex_8e157 : ByteArray := prog_19_method_11_code
def yJ3_checkIndex_8e157 : MethodName := ⟨RJ3, "checkIndex", "(IILjava/util/function/BiFunction;)I"⟩
def RL : String := "StyleRowsLaw"
abbrev cL_cell : ByteArray := method_2_code
def yL_cell : MethodName := ⟨RL, "cell", "([II)I"⟩
abbrev cL_law : ByteArray := code
def yL_law : MethodName := ⟨RL, "law", "([I)Z"⟩
def wsX0_init : List Cond := .code yX0_init cX0_init 1 none :: ([.methodLink RX0 3 objectInit, .instanceMethod objectInit, .code objectInit ⟨#[0xb1]⟩ 1 none, .arrayClass .int, .fieldLink RX0 11 "StyleRows$Arcs" "froms" "[I", .fieldLink RX0 15 "StyleRows$Arcs" "tos" "[I", .fieldLink RX0 18 "StyleRows$Arcs" "bys" "[I"] ++ wsX00)
def wsX0_shareWith : List Cond := .code yX0_shareWith cX0_shareWith 4 (some .boolean) :: ([.fieldLink RX0 21 "StyleRows$Arcs" "howMany" "I", .fieldLink RX0 11 "StyleRows$Arcs" "froms" "[I", .methodLink RX0 25 Lib.Math.max.name, .static Lib.Math.max.name, .initialized "java/lang/Math", .code Lib.Math.max.name Lib.Math.max.code 2 (some .int), .fieldLink RX0 15 "StyleRows$Arcs" "tos" "[I", .methodLink RX0 31 Lib.Math.min.name, .static Lib.Math.min.name, .code Lib.Math.min.name Lib.Math.min.code 2 (some .int)] ++ wsX00)
def wsX0_add : List Cond := .code yX0_add cX0_add 4 (some .int) :: ([.fieldLink RX0 21 "StyleRows$Arcs" "howMany" "I", .fieldLink RX0 11 "StyleRows$Arcs" "froms" "[I", .fieldLink RX0 15 "StyleRows$Arcs" "tos" "[I", .fieldLink RX0 18 "StyleRows$Arcs" "bys" "[I"] ++ wsX00)
def wsX11_isWithin : List Cond := .code yX11_isWithin cX11_isWithin 3 (some .boolean) :: ([])
def wsJ9_floorDiv_f86c9 : List Cond := .code yJ9_floorDiv_f86c9 cJ9_floorDiv_f86c9 6 (some .long) :: ([])
def wsX11_quotient : List Cond := .code yX11_quotient cX11_quotient 4 (some .int) :: ([.methodLink RX11 202 yJ9_floorDiv_f86c9, .static yJ9_floorDiv_f86c9, .initialized RJ9, .code yJ9_floorDiv_f86c9 cJ9_floorDiv_f86c9 6 (some .long)])
def wsX0_bent : List Cond := .code yX0_bent cX0_bent 5 (some .int) :: ([.fieldLink RX0 21 "StyleRows$Arcs" "howMany" "I", .fieldLink RX0 11 "StyleRows$Arcs" "froms" "[I", .fieldLink RX0 15 "StyleRows$Arcs" "tos" "[I", .constantLong RX0 38 (4), .fieldLink RX0 18 "StyleRows$Arcs" "bys" "[I", .static yX11_isWithin, .initialized RX11, .code yX11_isWithin cX11_isWithin 3 (some .boolean), .static yX11_quotient, .code yX11_quotient cX11_quotient 4 (some .int), .methodLink RX11 202 yJ9_floorDiv_f86c9, .static yJ9_floorDiv_f86c9, .initialized RJ9, .code yJ9_floorDiv_f86c9 cJ9_floorDiv_f86c9 6 (some .long)] ++ wsX00)
def wsX1_init : List Cond := .code yX1_init cX1_init 1 none :: ([.methodLink RX1 3 objectInit, .instanceMethod objectInit, .code objectInit ⟨#[0xb1]⟩ 1 none, .classLink RX1 11 "[[I", .arrayClass .int, .fieldLink RX1 13 "StyleRows$Events" "rows" "[[I"] ++ wsX10)
def wsX1_clear : List Cond := .code yX1_clear cX1_clear 1 none :: ([.fieldLink RX1 16 "StyleRows$Events" "howMany" "I", .fieldLink RX1 20 "StyleRows$Events" "tooMany" "Z"] ++ wsX10)
def wsX1_add : List Cond := .code yX1_add cX1_add 8 none :: ([.fieldLink RX1 16 "StyleRows$Events" "howMany" "I", .fieldLink RX1 20 "StyleRows$Events" "tooMany" "Z", .fieldLink RX1 13 "StyleRows$Events" "rows" "[[I"] ++ wsX10)
def wsX1_has : List Cond := .code yX1_has cX1_has 2 (some .boolean) :: ([.fieldLink RX1 16 "StyleRows$Events" "howMany" "I", .static yX11_isWithin, .initialized RX11, .code yX11_isWithin cX11_isWithin 3 (some .boolean)] ++ wsX10)
def wsX1_bend_r1 : List Cond := [Cond.fieldLink RX1 16 "StyleRows$Events" "howMany" "I", Cond.fieldLink RX1 13 "StyleRows$Events" "rows" "[[I", Cond.methodLink RX1 34 Lib.Math.max.name, Cond.static Lib.Math.max.name, Cond.initialized "java/lang/Math", Cond.code Lib.Math.max.name Lib.Math.max.code 2 (some .int), Cond.methodLink RX1 28 yX0_bent, Cond.instanceMethod yX0_bent, Cond.selects RX0 yX0_bent yX0_bent, Cond.initialized RX0, Cond.code yX0_bent cX0_bent 5 (some .int), Cond.fieldLink RX0 21 "StyleRows$Arcs" "howMany" "I", Cond.fieldLink RX0 11 "StyleRows$Arcs" "froms" "[I", Cond.fieldLink RX0 15 "StyleRows$Arcs" "tos" "[I", Cond.constantLong RX0 38 (4), Cond.fieldLink RX0 18 "StyleRows$Arcs" "bys" "[I", Cond.static yX11_isWithin, Cond.initialized RX11, Cond.code yX11_isWithin cX11_isWithin 3 (some .boolean), Cond.static yX11_quotient, Cond.code yX11_quotient cX11_quotient 4 (some .int), Cond.methodLink RX11 202 yJ9_floorDiv_f86c9, Cond.static yJ9_floorDiv_f86c9, Cond.initialized RJ9]
def wsX1_bend_r2 : List Cond := [Cond.code yJ9_floorDiv_f86c9 cJ9_floorDiv_f86c9 6 (some .long)]
def wsX1_bend : List Cond := .code yX1_bend cX1_bend 5 none :: ((wsX1_bend_r1 ++ wsX1_bend_r2) ++ wsX10 ++ wsX00)
def wsJ9_floorMod_f86c9 : List Cond := .code yJ9_floorMod_f86c9 cJ9_floorMod_f86c9 6 (some .long) :: ([])
def wsJ9_floorMod_1978a : List Cond := .code yJ9_floorMod_1978a cJ9_floorMod_1978a 3 (some .int) :: ([.methodLink RJ9 146 yJ9_floorMod_f86c9, .static yJ9_floorMod_f86c9, .initialized RJ9, .code yJ9_floorMod_f86c9 cJ9_floorMod_f86c9 6 (some .long)])
def wsX5_partAt : List Cond := .code yX5_partAt cX5_partAt 2 (some .int) :: ([.fieldLink RX5 11 "StyleRows$Order" "keys" "[J", .methodLink RX5 48 yJ9_floorMod_1978a, .static yJ9_floorMod_1978a, .initialized RJ9, .code yJ9_floorMod_1978a cJ9_floorMod_1978a 3 (some .int), .methodLink RJ9 146 yJ9_floorMod_f86c9, .static yJ9_floorMod_f86c9, .code yJ9_floorMod_f86c9 cJ9_floorMod_f86c9 6 (some .long)] ++ wsX50)
def wsX1_takeInOrder : List Cond := .code yX1_takeInOrder cX1_takeInOrder 6 none :: ([.fieldLink RX1 16 "StyleRows$Events" "howMany" "I", .fieldLink RX1 13 "StyleRows$Events" "rows" "[[I", .methodLink RX1 40 yX5_partAt, .instanceMethod yX5_partAt, .selects RX5 yX5_partAt yX5_partAt, .initialized RX5, .code yX5_partAt cX5_partAt 2 (some .int), .fieldLink RX5 11 "StyleRows$Order" "keys" "[J", .methodLink RX5 48 yJ9_floorMod_1978a, .static yJ9_floorMod_1978a, .initialized RJ9, .code yJ9_floorMod_1978a cJ9_floorMod_1978a 3 (some .int), .methodLink RJ9 146 yJ9_floorMod_f86c9, .static yJ9_floorMod_f86c9, .code yJ9_floorMod_f86c9 cJ9_floorMod_f86c9 6 (some .long)] ++ wsX10 ++ wsX50)
def wsX1_endOf : List Cond := .code yX1_endOf cX1_endOf 2 (some .int) :: ([.fieldLink RX1 13 "StyleRows$Events" "rows" "[[I"] ++ wsX10)
def wsX1_repeats : List Cond := .code yX1_repeats cX1_repeats 4 (some .boolean) :: ([.fieldLink RX1 13 "StyleRows$Events" "rows" "[[I"] ++ wsX10)
def wsX1_endAtRepeat : List Cond := .code yX1_endAtRepeat cX1_endAtRepeat 4 none :: ([.fieldLink RX1 16 "StyleRows$Events" "howMany" "I", .fieldLink RX1 13 "StyleRows$Events" "rows" "[[I", .methodLink RX1 49 yX1_endOf, .instanceMethod yX1_endOf, .selects RX1 yX1_endOf yX1_endOf, .initialized RX1, .code yX1_endOf cX1_endOf 2 (some .int), .methodLink RX1 52 yX1_repeats, .instanceMethod yX1_repeats, .selects RX1 yX1_repeats yX1_repeats, .code yX1_repeats cX1_repeats 4 (some .boolean)] ++ wsX10)
def wsX1_endAtRepeats : List Cond := .code yX1_endAtRepeats cX1_endAtRepeats 2 none :: ([.fieldLink RX1 16 "StyleRows$Events" "howMany" "I", .methodLink RX1 45 yX1_endAtRepeat, .instanceMethod yX1_endAtRepeat, .selects RX1 yX1_endAtRepeat yX1_endAtRepeat, .initialized RX1, .code yX1_endAtRepeat cX1_endAtRepeat 4 none, .fieldLink RX1 13 "StyleRows$Events" "rows" "[[I", .methodLink RX1 49 yX1_endOf, .instanceMethod yX1_endOf, .selects RX1 yX1_endOf yX1_endOf, .code yX1_endOf cX1_endOf 2 (some .int), .methodLink RX1 52 yX1_repeats, .instanceMethod yX1_repeats, .selects RX1 yX1_repeats yX1_repeats, .code yX1_repeats cX1_repeats 4 (some .boolean)] ++ wsX10)
def wsX1_soundingAt : List Cond := .code yX1_soundingAt cX1_soundingAt 4 (some .int) :: ([.fieldLink RX1 16 "StyleRows$Events" "howMany" "I", .fieldLink RX1 13 "StyleRows$Events" "rows" "[[I", .methodLink RX1 49 yX1_endOf, .instanceMethod yX1_endOf, .selects RX1 yX1_endOf yX1_endOf, .initialized RX1, .code yX1_endOf cX1_endOf 2 (some .int)] ++ wsX10)
def wsX1_howManyOf : List Cond := .code yX1_howManyOf cX1_howManyOf 4 (some .int) :: ([.fieldLink RX1 16 "StyleRows$Events" "howMany" "I", .fieldLink RX1 13 "StyleRows$Events" "rows" "[[I"] ++ wsX10)
def wsX1_firstBeginOf : List Cond := .code yX1_firstBeginOf cX1_firstBeginOf 3 (some .int) :: ([.fieldLink RX1 16 "StyleRows$Events" "howMany" "I", .fieldLink RX1 13 "StyleRows$Events" "rows" "[[I"] ++ wsX10)
def wsX1_lastEndOf : List Cond := .code yX1_lastEndOf cX1_lastEndOf 5 (some .int) :: ([.fieldLink RX1 16 "StyleRows$Events" "howMany" "I", .fieldLink RX1 13 "StyleRows$Events" "rows" "[[I", .methodLink RX1 49 yX1_endOf, .instanceMethod yX1_endOf, .selects RX1 yX1_endOf yX1_endOf, .initialized RX1, .code yX1_endOf cX1_endOf 2 (some .int)] ++ wsX10)
def wsX2_init : List Cond := .code yX2_init cX2_init 1 none :: ([.methodLink RX2 3 objectInit, .instanceMethod objectInit, .code objectInit ⟨#[0xb1]⟩ 1 none, .arrayClass .int, .fieldLink RX2 11 "StyleRows$Levels" "ticks" "[I", .fieldLink RX2 15 "StyleRows$Levels" "heights" "[I", .arrayClass .boolean, .fieldLink RX2 18 "StyleRows$Levels" "swelling" "[Z"] ++ wsX20)
def wsX2_moveUpFrom : List Cond := .code yX2_moveUpFrom cX2_moveUpFrom 3 none :: ([.fieldLink RX2 22 "StyleRows$Levels" "howMany" "I", .fieldLink RX2 11 "StyleRows$Levels" "ticks" "[I", .fieldLink RX2 15 "StyleRows$Levels" "heights" "[I", .fieldLink RX2 18 "StyleRows$Levels" "swelling" "[Z"] ++ wsX20)
def wsX2_put : List Cond := .code yX2_put cX2_put 6 (some .int) :: ([.fieldLink RX2 22 "StyleRows$Levels" "howMany" "I", .fieldLink RX2 11 "StyleRows$Levels" "ticks" "[I", .fieldLink RX2 15 "StyleRows$Levels" "heights" "[I", .fieldLink RX2 18 "StyleRows$Levels" "swelling" "[Z", .methodLink RX2 26 yX2_moveUpFrom, .instanceMethod yX2_moveUpFrom, .selects RX2 yX2_moveUpFrom yX2_moveUpFrom, .initialized RX2, .code yX2_moveUpFrom cX2_moveUpFrom 3 none] ++ wsX20)
def wsX2_at : List Cond := .code yX2_at cX2_at 6 (some .int) :: ([.fieldLink RX2 22 "StyleRows$Levels" "howMany" "I", .fieldLink RX2 11 "StyleRows$Levels" "ticks" "[I", .fieldLink RX2 18 "StyleRows$Levels" "swelling" "[Z", .fieldLink RX2 15 "StyleRows$Levels" "heights" "[I", .static yX11_quotient, .initialized RX11, .code yX11_quotient cX11_quotient 4 (some .int), .methodLink RX11 202 yJ9_floorDiv_f86c9, .static yJ9_floorDiv_f86c9, .initialized RJ9, .code yJ9_floorDiv_f86c9 cJ9_floorDiv_f86c9 6 (some .long)] ++ wsX20)
def wsX3_has : List Cond := .code yX3_has cX3_has 1 (some .boolean) :: ([.static yX11_isWithin, .initialized RX11, .code yX11_isWithin cX11_isWithin 3 (some .boolean)])
def wsX3_wordOf : List Cond := .code yX3_wordOf cX3_wordOf 1 (some (.object "java/lang/String")) :: ([])
def wsX4_init : List Cond := .code yX4_init cX4_init 1 none :: ([.methodLink RX4 3 objectInit, .instanceMethod objectInit, .code objectInit ⟨#[0xb1]⟩ 1 none, .arrayClass .int, .fieldLink RX4 11 "StyleRows$Notes" "voices" "[I", .fieldLink RX4 15 "StyleRows$Notes" "starts" "[I", .fieldLink RX4 18 "StyleRows$Notes" "lengths" "[I", .fieldLink RX4 21 "StyleRows$Notes" "pitches" "[I", .fieldLink RX4 24 "StyleRows$Notes" "marks" "[I"] ++ wsX40)
def wsX4_has : List Cond := .code yX4_has cX4_has 2 (some .boolean) :: ([.fieldLink RX4 27 "StyleRows$Notes" "howMany" "I", .static yX11_isWithin, .initialized RX11, .code yX11_isWithin cX11_isWithin 3 (some .boolean)] ++ wsX40)
def wsX4_add : List Cond := .code yX4_add cX4_add 6 (some .int) :: ([.fieldLink RX4 27 "StyleRows$Notes" "howMany" "I", .fieldLink RX4 11 "StyleRows$Notes" "voices" "[I", .fieldLink RX4 15 "StyleRows$Notes" "starts" "[I", .fieldLink RX4 18 "StyleRows$Notes" "lengths" "[I", .fieldLink RX4 21 "StyleRows$Notes" "pitches" "[I", .fieldLink RX4 24 "StyleRows$Notes" "marks" "[I"] ++ wsX40)
def wsX4_changeMarks : List Cond := .code yX4_changeMarks cX4_changeMarks 4 (some .int) :: ([.fieldLink RX4 24 "StyleRows$Notes" "marks" "[I"] ++ wsX40)
def wsX4_isInChord : List Cond := .code yX4_isInChord cX4_isInChord 4 (some .boolean) :: ([.fieldLink RX4 24 "StyleRows$Notes" "marks" "[I", .fieldLink RX4 11 "StyleRows$Notes" "voices" "[I", .fieldLink RX4 15 "StyleRows$Notes" "starts" "[I"] ++ wsX40)
def wsX4_isLower : List Cond := .code yX4_isLower cX4_isLower 3 (some .boolean) :: ([.fieldLink RX4 21 "StyleRows$Notes" "pitches" "[I"] ++ wsX40)
def wsX4_rolledAhead : List Cond := .code yX4_rolledAhead cX4_rolledAhead 4 (some .int) :: ([.fieldLink RX4 27 "StyleRows$Notes" "howMany" "I", .methodLink RX4 35 yX4_isInChord, .instanceMethod yX4_isInChord, .selects RX4 yX4_isInChord yX4_isInChord, .initialized RX4, .code yX4_isInChord cX4_isInChord 4 (some .boolean), .fieldLink RX4 24 "StyleRows$Notes" "marks" "[I", .fieldLink RX4 11 "StyleRows$Notes" "voices" "[I", .fieldLink RX4 15 "StyleRows$Notes" "starts" "[I", .methodLink RX4 39 yX4_isLower, .instanceMethod yX4_isLower, .selects RX4 yX4_isLower yX4_isLower, .code yX4_isLower cX4_isLower 3 (some .boolean), .fieldLink RX4 21 "StyleRows$Notes" "pitches" "[I"] ++ wsX40)
def wsX5_init : List Cond := .code yX5_init cX5_init 1 none :: ([.methodLink RX5 3 objectInit, .instanceMethod objectInit, .code objectInit ⟨#[0xb1]⟩ 1 none, .arrayClass .long, .fieldLink RX5 11 "StyleRows$Order" "keys" "[J", .fieldLink RX5 17 "StyleRows$Order" "spare" "[J"] ++ wsX50)
def wsX5_keyOf : List Cond := .code yX5_keyOf cX5_keyOf 4 (some .long) :: ([.constantLong RX5 42 (4), .constantLong RX5 44 (128), .constantLong RX5 46 (400)] ++ wsX10)
def wsX5_merge : List Cond := .code yX5_merge cX5_merge 7 none :: ([.fieldLink RX5 11 "StyleRows$Order" "keys" "[J", .fieldLink RX5 17 "StyleRows$Order" "spare" "[J"] ++ wsX50)
def wsX5_sort : List Cond := .code yX5_sort cX5_sort 5 none :: ([.fieldLink RX5 11 "StyleRows$Order" "keys" "[J", .methodLink RX5 28 Lib.Math.min.name, .static Lib.Math.min.name, .initialized "java/lang/Math", .code Lib.Math.min.name Lib.Math.min.code 2 (some .int), .fieldLink RX5 17 "StyleRows$Order" "spare" "[J", .methodLink RX5 24 yX5_keyOf, .static yX5_keyOf, .initialized RX5, .code yX5_keyOf cX5_keyOf 4 (some .long), .constantLong RX5 42 (4), .constantLong RX5 44 (128), .constantLong RX5 46 (400), .methodLink RX5 34 yX5_merge, .instanceMethod yX5_merge, .selects RX5 yX5_merge yX5_merge, .code yX5_merge cX5_merge 7 none] ++ wsX10 ++ wsX50)
def wsX6_init : List Cond := .code yX6_init cX6_init 1 none :: ([.methodLink RX6 1 objectInit, .instanceMethod objectInit, .code objectInit ⟨#[0xb1]⟩ 1 none, .classLink RX6 7 RX1, .instantiable RX1 3, .initialized RX1, .fieldLink RX6 10 "StyleRows$Performer" "parts" "LStyleRows$Events;", .instanceMethod yX1_init, .code yX1_init cX1_init 1 none, .methodLink RX1 3 objectInit, .classLink RX1 11 "[[I", .arrayClass .int, .fieldLink RX1 13 "StyleRows$Events" "rows" "[[I"] ++ wsX10 ++ wsX60)
def wsX6_takeNote : List Cond := .code yX6_takeNote cX6_takeNote 3 none :: ([.fieldLink RX6 71 "StyleRows$Performer" "note" "I", .fieldLink RX6 77 "StyleRows$Performer" "voice" "I", .fieldLink RX6 83 "StyleRows$Performer" "pitch" "I", .fieldLink RX6 89 "StyleRows$Performer" "marks" "I"] ++ wsX60 ++ wsX40)
def wsX6_isMarked : List Cond := .code yX6_isMarked cX6_isMarked 2 (some .boolean) :: ([.fieldLink RX6 89 "StyleRows$Performer" "marks" "I"] ++ wsX60)
def wsX8_countingFor : List Cond := .code yX8_countingFor cX8_countingFor 3 (some .int) :: ([.fieldLink RX8 18 "StyleRows$Rules" "counting" "[I"] ++ wsX80)
def wsX8_numberFor : List Cond := .code yX8_numberFor cX8_numberFor 4 (some .int) :: ([.fieldLink RX8 13 "StyleRows$Rules" "rows" "[[I", .methodLink RX8 37 yX8_countingFor, .instanceMethod yX8_countingFor, .selects RX8 yX8_countingFor yX8_countingFor, .initialized RX8, .code yX8_countingFor cX8_countingFor 3 (some .int), .fieldLink RX8 18 "StyleRows$Rules" "counting" "[I"] ++ wsX80)
def wsX6_longOf_r1 : List Cond := [Cond.fieldLink RX6 77 "StyleRows$Performer" "voice" "I", Cond.methodLink RX6 103 Lib.Math.min.name, Cond.static Lib.Math.min.name, Cond.initialized "java/lang/Math", Cond.code Lib.Math.min.name Lib.Math.min.code 2 (some .int), Cond.methodLink RX6 108 Lib.Math.max.name, Cond.static Lib.Math.max.name, Cond.code Lib.Math.max.name Lib.Math.max.code 2 (some .int), Cond.methodLink RX6 91 yX6_isMarked, Cond.instanceMethod yX6_isMarked, Cond.selects RX6 yX6_isMarked yX6_isMarked, Cond.initialized RX6, Cond.code yX6_isMarked cX6_isMarked 2 (some .boolean), Cond.fieldLink RX6 89 "StyleRows$Performer" "marks" "I", Cond.methodLink RX6 97 yX8_numberFor, Cond.instanceMethod yX8_numberFor, Cond.selects RX8 yX8_numberFor yX8_numberFor, Cond.initialized RX8, Cond.code yX8_numberFor cX8_numberFor 4 (some .int), Cond.fieldLink RX8 13 "StyleRows$Rules" "rows" "[[I", Cond.methodLink RX8 37 yX8_countingFor, Cond.instanceMethod yX8_countingFor, Cond.selects RX8 yX8_countingFor yX8_countingFor, Cond.code yX8_countingFor cX8_countingFor 3 (some .int)]
def wsX6_longOf_r2 : List Cond := [Cond.fieldLink RX8 18 "StyleRows$Rules" "counting" "[I"]
def wsX6_longOf : List Cond := .code yX6_longOf cX6_longOf 6 (some .int) :: ((wsX6_longOf_r1 ++ wsX6_longOf_r2) ++ wsX60 ++ wsX80)
def wsX9_isMultiple : List Cond := .code yX9_isMultiple cX9_isMultiple 2 (some .boolean) :: ([])
def wsX9_beginsBar : List Cond := .code yX9_beginsBar cX9_beginsBar 2 (some .boolean) :: ([.fieldLink RX9 30 "StyleRows$Score" "beats" "I", .fieldLink RX9 34 "StyleRows$Score" "unit" "I", .methodLink RX9 37 yX9_isMultiple, .static yX9_isMultiple, .initialized RX9, .code yX9_isMultiple cX9_isMultiple 2 (some .boolean)] ++ wsX90)
def wsX9_beginsBeat : List Cond := .code yX9_beginsBeat cX9_beginsBeat 2 (some .boolean) :: ([.fieldLink RX9 34 "StyleRows$Score" "unit" "I", .methodLink RX9 37 yX9_isMultiple, .static yX9_isMultiple, .initialized RX9, .code yX9_isMultiple cX9_isMultiple 2 (some .boolean)] ++ wsX90)
def wsX6_loudOf_r1 : List Cond := [Cond.fieldLink RX6 77 "StyleRows$Performer" "voice" "I", Cond.methodLink RX6 103 Lib.Math.min.name, Cond.static Lib.Math.min.name, Cond.initialized "java/lang/Math", Cond.code Lib.Math.min.name Lib.Math.min.code 2 (some .int), Cond.methodLink RX6 108 Lib.Math.max.name, Cond.static Lib.Math.max.name, Cond.code Lib.Math.max.name Lib.Math.max.code 2 (some .int), Cond.methodLink RX6 115 yX2_at, Cond.instanceMethod yX2_at, Cond.selects RX2 yX2_at yX2_at, Cond.initialized RX2, Cond.code yX2_at cX2_at 6 (some .int), Cond.fieldLink RX2 22 "StyleRows$Levels" "howMany" "I", Cond.fieldLink RX2 11 "StyleRows$Levels" "ticks" "[I", Cond.fieldLink RX2 18 "StyleRows$Levels" "swelling" "[Z", Cond.fieldLink RX2 15 "StyleRows$Levels" "heights" "[I", Cond.static yX11_quotient, Cond.initialized RX11, Cond.code yX11_quotient cX11_quotient 4 (some .int), Cond.methodLink RX11 202 yJ9_floorDiv_f86c9, Cond.static yJ9_floorDiv_f86c9, Cond.initialized RJ9, Cond.code yJ9_floorDiv_f86c9 cJ9_floorDiv_f86c9 6 (some .long)]
def wsX6_loudOf_r2 : List Cond := [Cond.methodLink RX6 91 yX6_isMarked, Cond.instanceMethod yX6_isMarked, Cond.selects RX6 yX6_isMarked yX6_isMarked, Cond.initialized RX6, Cond.code yX6_isMarked cX6_isMarked 2 (some .boolean), Cond.fieldLink RX6 89 "StyleRows$Performer" "marks" "I", Cond.methodLink RX6 97 yX8_numberFor, Cond.instanceMethod yX8_numberFor, Cond.selects RX8 yX8_numberFor yX8_numberFor, Cond.initialized RX8, Cond.code yX8_numberFor cX8_numberFor 4 (some .int), Cond.fieldLink RX8 13 "StyleRows$Rules" "rows" "[[I", Cond.methodLink RX8 37 yX8_countingFor, Cond.instanceMethod yX8_countingFor, Cond.selects RX8 yX8_countingFor yX8_countingFor, Cond.code yX8_countingFor cX8_countingFor 3 (some .int), Cond.fieldLink RX8 18 "StyleRows$Rules" "counting" "[I", Cond.methodLink RX6 121 yX9_beginsBar, Cond.instanceMethod yX9_beginsBar, Cond.selects RX9 yX9_beginsBar yX9_beginsBar, Cond.initialized RX9, Cond.code yX9_beginsBar cX9_beginsBar 2 (some .boolean), Cond.fieldLink RX9 30 "StyleRows$Score" "beats" "I", Cond.fieldLink RX9 34 "StyleRows$Score" "unit" "I"]
def wsX6_loudOf_r3 : List Cond := [Cond.methodLink RX9 37 yX9_isMultiple, Cond.static yX9_isMultiple, Cond.code yX9_isMultiple cX9_isMultiple 2 (some .boolean), Cond.methodLink RX6 124 yX9_beginsBeat, Cond.instanceMethod yX9_beginsBeat, Cond.selects RX9 yX9_beginsBeat yX9_beginsBeat, Cond.code yX9_beginsBeat cX9_beginsBeat 2 (some .boolean)]
def wsX6_loudOf : List Cond := .code yX6_loudOf cX6_loudOf 5 (some .int) :: ((wsX6_loudOf_r1 ++ (wsX6_loudOf_r2 ++ wsX6_loudOf_r3)) ++ wsX90 ++ wsX60 ++ wsX20 ++ wsX80)
def wsX6_drawOf : List Cond := .code yX6_drawOf cX6_drawOf 6 (some .int) :: ([.fieldLink RX6 71 "StyleRows$Performer" "note" "I", .constantLong RX6 131 (-7046029254386353131), .constantLong RX6 133 (-4658895280553007687), .constantLong RX6 135 (2), .methodLink RX6 108 Lib.Math.max.name, .static Lib.Math.max.name, .initialized "java/lang/Math", .code Lib.Math.max.name Lib.Math.max.code 2 (some .int), .methodLink RX6 137 yJ9_floorMod_f86c9, .static yJ9_floorMod_f86c9, .initialized RJ9, .code yJ9_floorMod_f86c9 cJ9_floorMod_f86c9 6 (some .long)] ++ wsX60)
def wsX6_onOf_r1 : List Cond := [Cond.fieldLink RX6 77 "StyleRows$Performer" "voice" "I", Cond.methodLink RX6 108 Lib.Math.max.name, Cond.static Lib.Math.max.name, Cond.initialized "java/lang/Math", Cond.code Lib.Math.max.name Lib.Math.max.code 2 (some .int), Cond.methodLink RX6 97 yX8_numberFor, Cond.instanceMethod yX8_numberFor, Cond.selects RX8 yX8_numberFor yX8_numberFor, Cond.initialized RX8, Cond.code yX8_numberFor cX8_numberFor 4 (some .int), Cond.fieldLink RX8 13 "StyleRows$Rules" "rows" "[[I", Cond.methodLink RX8 37 yX8_countingFor, Cond.instanceMethod yX8_countingFor, Cond.selects RX8 yX8_countingFor yX8_countingFor, Cond.code yX8_countingFor cX8_countingFor 3 (some .int), Cond.fieldLink RX8 18 "StyleRows$Rules" "counting" "[I", Cond.methodLink RX6 127 yX6_drawOf, Cond.instanceMethod yX6_drawOf, Cond.selects RX6 yX6_drawOf yX6_drawOf, Cond.initialized RX6, Cond.code yX6_drawOf cX6_drawOf 6 (some .int), Cond.fieldLink RX6 71 "StyleRows$Performer" "note" "I", Cond.constantLong RX6 131 (-7046029254386353131), Cond.constantLong RX6 133 (-4658895280553007687)]
def wsX6_onOf_r2 : List Cond := [Cond.constantLong RX6 135 (2), Cond.methodLink RX6 137 yJ9_floorMod_f86c9, Cond.static yJ9_floorMod_f86c9, Cond.initialized RJ9, Cond.code yJ9_floorMod_f86c9 cJ9_floorMod_f86c9 6 (some .long)]
def wsX6_onOf : List Cond := .code yX6_onOf cX6_onOf 6 (some .int) :: ((wsX6_onOf_r1 ++ wsX6_onOf_r2) ++ wsX60 ++ wsX80)
def wsX6_roll_r1 : List Cond := [Cond.fieldLink RX6 71 "StyleRows$Performer" "note" "I", Cond.fieldLink RX6 77 "StyleRows$Performer" "voice" "I", Cond.fieldLink RX6 47 "StyleRows$Performer" "left" "I", Cond.methodLink RX6 103 Lib.Math.min.name, Cond.static Lib.Math.min.name, Cond.initialized "java/lang/Math", Cond.code Lib.Math.min.name Lib.Math.min.code 2 (some .int), Cond.fieldLink RX6 64 "StyleRows$Performer" "on" "I", Cond.methodLink RX6 159 yX4_rolledAhead, Cond.instanceMethod yX4_rolledAhead, Cond.selects RX4 yX4_rolledAhead yX4_rolledAhead, Cond.initialized RX4, Cond.code yX4_rolledAhead cX4_rolledAhead 4 (some .int), Cond.fieldLink RX4 27 "StyleRows$Notes" "howMany" "I", Cond.methodLink RX4 35 yX4_isInChord, Cond.instanceMethod yX4_isInChord, Cond.selects RX4 yX4_isInChord yX4_isInChord, Cond.code yX4_isInChord cX4_isInChord 4 (some .boolean), Cond.fieldLink RX4 24 "StyleRows$Notes" "marks" "[I", Cond.fieldLink RX4 11 "StyleRows$Notes" "voices" "[I", Cond.fieldLink RX4 15 "StyleRows$Notes" "starts" "[I", Cond.methodLink RX4 39 yX4_isLower, Cond.instanceMethod yX4_isLower, Cond.selects RX4 yX4_isLower yX4_isLower]
def wsX6_roll_r2 : List Cond := [Cond.code yX4_isLower cX4_isLower 3 (some .boolean), Cond.fieldLink RX4 21 "StyleRows$Notes" "pitches" "[I", Cond.methodLink RX6 97 yX8_numberFor, Cond.instanceMethod yX8_numberFor, Cond.selects RX8 yX8_numberFor yX8_numberFor, Cond.initialized RX8, Cond.code yX8_numberFor cX8_numberFor 4 (some .int), Cond.fieldLink RX8 13 "StyleRows$Rules" "rows" "[[I", Cond.methodLink RX8 37 yX8_countingFor, Cond.instanceMethod yX8_countingFor, Cond.selects RX8 yX8_countingFor yX8_countingFor, Cond.code yX8_countingFor cX8_countingFor 3 (some .int), Cond.fieldLink RX8 18 "StyleRows$Rules" "counting" "[I"]
def wsX6_roll : List Cond := .code yX6_roll cX6_roll 4 none :: ((wsX6_roll_r1 ++ wsX6_roll_r2) ++ wsX60 ++ wsX40 ++ wsX80)
def wsX6_addPart : List Cond := .code yX6_addPart cX6_addPart 5 none :: ([.fieldLink RX6 10 "StyleRows$Performer" "parts" "LStyleRows$Events;", .fieldLink RX6 64 "StyleRows$Performer" "on" "I", .fieldLink RX6 71 "StyleRows$Performer" "note" "I", .fieldLink RX6 77 "StyleRows$Performer" "voice" "I", .fieldLink RX6 47 "StyleRows$Performer" "left" "I", .methodLink RX6 168 yX1_add, .instanceMethod yX1_add, .selects RX1 yX1_add yX1_add, .initialized RX1, .code yX1_add cX1_add 8 none, .fieldLink RX1 16 "StyleRows$Events" "howMany" "I", .fieldLink RX1 20 "StyleRows$Events" "tooMany" "Z", .fieldLink RX1 13 "StyleRows$Events" "rows" "[[I"] ++ wsX60 ++ wsX10)
def wsX6_addLean_r1 : List Cond := [Cond.fieldLink RX6 77 "StyleRows$Performer" "voice" "I", Cond.fieldLink RX6 47 "StyleRows$Performer" "left" "I", Cond.methodLink RX6 103 Lib.Math.min.name, Cond.static Lib.Math.min.name, Cond.initialized "java/lang/Math", Cond.code Lib.Math.min.name Lib.Math.min.code 2 (some .int), Cond.fieldLink RX6 83 "StyleRows$Performer" "pitch" "I", Cond.fieldLink RX6 57 "StyleRows$Performer" "loud" "I", Cond.methodLink RX6 108 Lib.Math.max.name, Cond.static Lib.Math.max.name, Cond.code Lib.Math.max.name Lib.Math.max.code 2 (some .int), Cond.methodLink RX6 97 yX8_numberFor, Cond.instanceMethod yX8_numberFor, Cond.selects RX8 yX8_numberFor yX8_numberFor, Cond.initialized RX8, Cond.code yX8_numberFor cX8_numberFor 4 (some .int), Cond.fieldLink RX8 13 "StyleRows$Rules" "rows" "[[I", Cond.methodLink RX8 37 yX8_countingFor, Cond.instanceMethod yX8_countingFor, Cond.selects RX8 yX8_countingFor yX8_countingFor, Cond.code yX8_countingFor cX8_countingFor 3 (some .int), Cond.fieldLink RX8 18 "StyleRows$Rules" "counting" "[I", Cond.methodLink RX6 155 yX6_addPart, Cond.instanceMethod yX6_addPart]
def wsX6_addLean_r2 : List Cond := [Cond.selects RX6 yX6_addPart yX6_addPart, Cond.initialized RX6, Cond.code yX6_addPart cX6_addPart 5 none, Cond.fieldLink RX6 10 "StyleRows$Performer" "parts" "LStyleRows$Events;", Cond.fieldLink RX6 64 "StyleRows$Performer" "on" "I", Cond.fieldLink RX6 71 "StyleRows$Performer" "note" "I", Cond.methodLink RX6 168 yX1_add, Cond.instanceMethod yX1_add, Cond.selects RX1 yX1_add yX1_add, Cond.initialized RX1, Cond.code yX1_add cX1_add 8 none, Cond.fieldLink RX1 16 "StyleRows$Events" "howMany" "I", Cond.fieldLink RX1 20 "StyleRows$Events" "tooMany" "Z", Cond.fieldLink RX1 13 "StyleRows$Events" "rows" "[[I"]
def wsX6_addLean : List Cond := .code yX6_addLean cX6_addLean 3 none :: ((wsX6_addLean_r1 ++ wsX6_addLean_r2) ++ wsX60 ++ wsX80 ++ wsX10)
def wsX6_addTrill_r1 : List Cond := [Cond.fieldLink RX6 77 "StyleRows$Performer" "voice" "I", Cond.fieldLink RX6 47 "StyleRows$Performer" "left" "I", Cond.fieldLink RX6 83 "StyleRows$Performer" "pitch" "I", Cond.fieldLink RX6 57 "StyleRows$Performer" "loud" "I", Cond.methodLink RX6 97 yX8_numberFor, Cond.instanceMethod yX8_numberFor, Cond.selects RX8 yX8_numberFor yX8_numberFor, Cond.initialized RX8, Cond.code yX8_numberFor cX8_numberFor 4 (some .int), Cond.fieldLink RX8 13 "StyleRows$Rules" "rows" "[[I", Cond.methodLink RX8 37 yX8_countingFor, Cond.instanceMethod yX8_countingFor, Cond.selects RX8 yX8_countingFor yX8_countingFor, Cond.code yX8_countingFor cX8_countingFor 3 (some .int), Cond.fieldLink RX8 18 "StyleRows$Rules" "counting" "[I", Cond.static yX11_quotient, Cond.initialized RX11, Cond.code yX11_quotient cX11_quotient 4 (some .int), Cond.methodLink RX11 202 yJ9_floorDiv_f86c9, Cond.static yJ9_floorDiv_f86c9, Cond.initialized RJ9, Cond.code yJ9_floorDiv_f86c9 cJ9_floorDiv_f86c9 6 (some .long), Cond.methodLink RX6 155 yX6_addPart, Cond.instanceMethod yX6_addPart]
def wsX6_addTrill_r2 : List Cond := [Cond.selects RX6 yX6_addPart yX6_addPart, Cond.initialized RX6, Cond.code yX6_addPart cX6_addPart 5 none, Cond.fieldLink RX6 10 "StyleRows$Performer" "parts" "LStyleRows$Events;", Cond.fieldLink RX6 64 "StyleRows$Performer" "on" "I", Cond.fieldLink RX6 71 "StyleRows$Performer" "note" "I", Cond.methodLink RX6 168 yX1_add, Cond.instanceMethod yX1_add, Cond.selects RX1 yX1_add yX1_add, Cond.initialized RX1, Cond.code yX1_add cX1_add 8 none, Cond.fieldLink RX1 16 "StyleRows$Events" "howMany" "I", Cond.fieldLink RX1 20 "StyleRows$Events" "tooMany" "Z", Cond.fieldLink RX1 13 "StyleRows$Events" "rows" "[[I"]
def wsX6_addTrill : List Cond := .code yX6_addTrill cX6_addTrill 7 (some .boolean) :: ((wsX6_addTrill_r1 ++ wsX6_addTrill_r2) ++ wsX60 ++ wsX80 ++ wsX10)
def wsX6_addTurn_r1 : List Cond := [Cond.fieldLink RX6 47 "StyleRows$Performer" "left" "I", Cond.fieldLink RX6 77 "StyleRows$Performer" "voice" "I", Cond.methodLink RX6 103 Lib.Math.min.name, Cond.static Lib.Math.min.name, Cond.initialized "java/lang/Math", Cond.code Lib.Math.min.name Lib.Math.min.code 2 (some .int), Cond.fieldLink RX6 83 "StyleRows$Performer" "pitch" "I", Cond.fieldLink RX6 57 "StyleRows$Performer" "loud" "I", Cond.methodLink RX6 97 yX8_numberFor, Cond.instanceMethod yX8_numberFor, Cond.selects RX8 yX8_numberFor yX8_numberFor, Cond.initialized RX8, Cond.code yX8_numberFor cX8_numberFor 4 (some .int), Cond.fieldLink RX8 13 "StyleRows$Rules" "rows" "[[I", Cond.methodLink RX8 37 yX8_countingFor, Cond.instanceMethod yX8_countingFor, Cond.selects RX8 yX8_countingFor yX8_countingFor, Cond.code yX8_countingFor cX8_countingFor 3 (some .int), Cond.fieldLink RX8 18 "StyleRows$Rules" "counting" "[I", Cond.methodLink RX6 155 yX6_addPart, Cond.instanceMethod yX6_addPart, Cond.selects RX6 yX6_addPart yX6_addPart, Cond.initialized RX6, Cond.code yX6_addPart cX6_addPart 5 none]
def wsX6_addTurn_r2 : List Cond := [Cond.fieldLink RX6 10 "StyleRows$Performer" "parts" "LStyleRows$Events;", Cond.fieldLink RX6 64 "StyleRows$Performer" "on" "I", Cond.fieldLink RX6 71 "StyleRows$Performer" "note" "I", Cond.methodLink RX6 168 yX1_add, Cond.instanceMethod yX1_add, Cond.selects RX1 yX1_add yX1_add, Cond.initialized RX1, Cond.code yX1_add cX1_add 8 none, Cond.fieldLink RX1 16 "StyleRows$Events" "howMany" "I", Cond.fieldLink RX1 20 "StyleRows$Events" "tooMany" "Z", Cond.fieldLink RX1 13 "StyleRows$Events" "rows" "[[I"]
def wsX6_addTurn : List Cond := .code yX6_addTurn cX6_addTurn 3 (some .boolean) :: ((wsX6_addTurn_r1 ++ wsX6_addTurn_r2) ++ wsX60 ++ wsX80 ++ wsX10)
def wsX6_addParts_r1 : List Cond := [Cond.fieldLink RX6 83 "StyleRows$Performer" "pitch" "I", Cond.fieldLink RX6 57 "StyleRows$Performer" "loud" "I", Cond.fieldLink RX6 47 "StyleRows$Performer" "left" "I", Cond.methodLink RX6 91 yX6_isMarked, Cond.instanceMethod yX6_isMarked, Cond.selects RX6 yX6_isMarked yX6_isMarked, Cond.initialized RX6, Cond.code yX6_isMarked cX6_isMarked 2 (some .boolean), Cond.fieldLink RX6 89 "StyleRows$Performer" "marks" "I", Cond.methodLink RX6 141 yX6_roll, Cond.instanceMethod yX6_roll, Cond.selects RX6 yX6_roll yX6_roll, Cond.code yX6_roll cX6_roll 4 none, Cond.fieldLink RX6 71 "StyleRows$Performer" "note" "I", Cond.fieldLink RX6 77 "StyleRows$Performer" "voice" "I", Cond.methodLink RX6 103 Lib.Math.min.name, Cond.static Lib.Math.min.name, Cond.initialized "java/lang/Math", Cond.code Lib.Math.min.name Lib.Math.min.code 2 (some .int), Cond.fieldLink RX6 64 "StyleRows$Performer" "on" "I", Cond.methodLink RX6 159 yX4_rolledAhead, Cond.instanceMethod yX4_rolledAhead, Cond.selects RX4 yX4_rolledAhead yX4_rolledAhead, Cond.initialized RX4]
def wsX6_addParts_r2 : List Cond := [Cond.code yX4_rolledAhead cX4_rolledAhead 4 (some .int), Cond.fieldLink RX4 27 "StyleRows$Notes" "howMany" "I", Cond.methodLink RX4 35 yX4_isInChord, Cond.instanceMethod yX4_isInChord, Cond.selects RX4 yX4_isInChord yX4_isInChord, Cond.code yX4_isInChord cX4_isInChord 4 (some .boolean), Cond.fieldLink RX4 24 "StyleRows$Notes" "marks" "[I", Cond.fieldLink RX4 11 "StyleRows$Notes" "voices" "[I", Cond.fieldLink RX4 15 "StyleRows$Notes" "starts" "[I", Cond.methodLink RX4 39 yX4_isLower, Cond.instanceMethod yX4_isLower, Cond.selects RX4 yX4_isLower yX4_isLower, Cond.code yX4_isLower cX4_isLower 3 (some .boolean), Cond.fieldLink RX4 21 "StyleRows$Notes" "pitches" "[I", Cond.methodLink RX6 97 yX8_numberFor, Cond.instanceMethod yX8_numberFor, Cond.selects RX8 yX8_numberFor yX8_numberFor, Cond.initialized RX8, Cond.code yX8_numberFor cX8_numberFor 4 (some .int), Cond.fieldLink RX8 13 "StyleRows$Rules" "rows" "[[I", Cond.methodLink RX8 37 yX8_countingFor, Cond.instanceMethod yX8_countingFor, Cond.selects RX8 yX8_countingFor yX8_countingFor, Cond.code yX8_countingFor cX8_countingFor 3 (some .int)]
def wsX6_addParts_r3 : List Cond := [Cond.fieldLink RX8 18 "StyleRows$Rules" "counting" "[I", Cond.methodLink RX6 144 yX6_addLean, Cond.instanceMethod yX6_addLean, Cond.selects RX6 yX6_addLean yX6_addLean, Cond.code yX6_addLean cX6_addLean 3 none, Cond.methodLink RX6 108 Lib.Math.max.name, Cond.static Lib.Math.max.name, Cond.code Lib.Math.max.name Lib.Math.max.code 2 (some .int), Cond.methodLink RX6 155 yX6_addPart, Cond.instanceMethod yX6_addPart, Cond.selects RX6 yX6_addPart yX6_addPart, Cond.code yX6_addPart cX6_addPart 5 none, Cond.fieldLink RX6 10 "StyleRows$Performer" "parts" "LStyleRows$Events;", Cond.methodLink RX6 168 yX1_add, Cond.instanceMethod yX1_add, Cond.selects RX1 yX1_add yX1_add, Cond.initialized RX1, Cond.code yX1_add cX1_add 8 none, Cond.fieldLink RX1 16 "StyleRows$Events" "howMany" "I", Cond.fieldLink RX1 20 "StyleRows$Events" "tooMany" "Z", Cond.fieldLink RX1 13 "StyleRows$Events" "rows" "[[I", Cond.methodLink RX6 148 yX6_addTrill, Cond.instanceMethod yX6_addTrill, Cond.selects RX6 yX6_addTrill yX6_addTrill]
def wsX6_addParts_r4 : List Cond := [Cond.code yX6_addTrill cX6_addTrill 7 (some .boolean), Cond.static yX11_quotient, Cond.initialized RX11, Cond.code yX11_quotient cX11_quotient 4 (some .int), Cond.methodLink RX11 202 yJ9_floorDiv_f86c9, Cond.static yJ9_floorDiv_f86c9, Cond.initialized RJ9, Cond.code yJ9_floorDiv_f86c9 cJ9_floorDiv_f86c9 6 (some .long), Cond.methodLink RX6 152 yX6_addTurn, Cond.instanceMethod yX6_addTurn, Cond.selects RX6 yX6_addTurn yX6_addTurn, Cond.code yX6_addTurn cX6_addTurn 3 (some .boolean)]
def wsX6_addParts : List Cond := .code yX6_addParts cX6_addParts 3 none :: ((wsX6_addParts_r1 ++ (wsX6_addParts_r2 ++ (wsX6_addParts_r3 ++ wsX6_addParts_r4))) ++ wsX60 ++ wsX40 ++ wsX80 ++ wsX10)
def wsX6_makeParts_r1 : List Cond := [Cond.fieldLink RX6 10 "StyleRows$Performer" "parts" "LStyleRows$Events;", Cond.fieldLink RX6 47 "StyleRows$Performer" "left" "I", Cond.fieldLink RX6 57 "StyleRows$Performer" "loud" "I", Cond.fieldLink RX6 64 "StyleRows$Performer" "on" "I", Cond.methodLink RX6 16 yX1_clear, Cond.instanceMethod yX1_clear, Cond.selects RX1 yX1_clear yX1_clear, Cond.initialized RX1, Cond.code yX1_clear cX1_clear 1 none, Cond.fieldLink RX1 16 "StyleRows$Events" "howMany" "I", Cond.fieldLink RX1 20 "StyleRows$Events" "tooMany" "Z", Cond.methodLink RX6 35 yX6_takeNote, Cond.instanceMethod yX6_takeNote, Cond.selects RX6 yX6_takeNote yX6_takeNote, Cond.initialized RX6, Cond.code yX6_takeNote cX6_takeNote 3 none, Cond.fieldLink RX6 71 "StyleRows$Performer" "note" "I", Cond.fieldLink RX6 77 "StyleRows$Performer" "voice" "I", Cond.fieldLink RX6 83 "StyleRows$Performer" "pitch" "I", Cond.fieldLink RX6 89 "StyleRows$Performer" "marks" "I", Cond.methodLink RX6 43 yX6_longOf, Cond.instanceMethod yX6_longOf, Cond.selects RX6 yX6_longOf yX6_longOf, Cond.code yX6_longOf cX6_longOf 6 (some .int)]
def wsX6_makeParts_r2 : List Cond := [Cond.methodLink RX6 103 Lib.Math.min.name, Cond.static Lib.Math.min.name, Cond.initialized "java/lang/Math", Cond.code Lib.Math.min.name Lib.Math.min.code 2 (some .int), Cond.methodLink RX6 108 Lib.Math.max.name, Cond.static Lib.Math.max.name, Cond.code Lib.Math.max.name Lib.Math.max.code 2 (some .int), Cond.methodLink RX6 91 yX6_isMarked, Cond.instanceMethod yX6_isMarked, Cond.selects RX6 yX6_isMarked yX6_isMarked, Cond.code yX6_isMarked cX6_isMarked 2 (some .boolean), Cond.methodLink RX6 97 yX8_numberFor, Cond.instanceMethod yX8_numberFor, Cond.selects RX8 yX8_numberFor yX8_numberFor, Cond.initialized RX8, Cond.code yX8_numberFor cX8_numberFor 4 (some .int), Cond.fieldLink RX8 13 "StyleRows$Rules" "rows" "[[I", Cond.methodLink RX8 37 yX8_countingFor, Cond.instanceMethod yX8_countingFor, Cond.selects RX8 yX8_countingFor yX8_countingFor, Cond.code yX8_countingFor cX8_countingFor 3 (some .int), Cond.fieldLink RX8 18 "StyleRows$Rules" "counting" "[I", Cond.methodLink RX6 53 yX6_loudOf, Cond.instanceMethod yX6_loudOf]
def wsX6_makeParts_r3 : List Cond := [Cond.selects RX6 yX6_loudOf yX6_loudOf, Cond.code yX6_loudOf cX6_loudOf 5 (some .int), Cond.methodLink RX6 115 yX2_at, Cond.instanceMethod yX2_at, Cond.selects RX2 yX2_at yX2_at, Cond.initialized RX2, Cond.code yX2_at cX2_at 6 (some .int), Cond.fieldLink RX2 22 "StyleRows$Levels" "howMany" "I", Cond.fieldLink RX2 11 "StyleRows$Levels" "ticks" "[I", Cond.fieldLink RX2 18 "StyleRows$Levels" "swelling" "[Z", Cond.fieldLink RX2 15 "StyleRows$Levels" "heights" "[I", Cond.static yX11_quotient, Cond.initialized RX11, Cond.code yX11_quotient cX11_quotient 4 (some .int), Cond.methodLink RX11 202 yJ9_floorDiv_f86c9, Cond.static yJ9_floorDiv_f86c9, Cond.initialized RJ9, Cond.code yJ9_floorDiv_f86c9 cJ9_floorDiv_f86c9 6 (some .long), Cond.methodLink RX6 121 yX9_beginsBar, Cond.instanceMethod yX9_beginsBar, Cond.selects RX9 yX9_beginsBar yX9_beginsBar, Cond.initialized RX9, Cond.code yX9_beginsBar cX9_beginsBar 2 (some .boolean), Cond.fieldLink RX9 30 "StyleRows$Score" "beats" "I"]
def wsX6_makeParts_r4 : List Cond := [Cond.fieldLink RX9 34 "StyleRows$Score" "unit" "I", Cond.methodLink RX9 37 yX9_isMultiple, Cond.static yX9_isMultiple, Cond.code yX9_isMultiple cX9_isMultiple 2 (some .boolean), Cond.methodLink RX6 124 yX9_beginsBeat, Cond.instanceMethod yX9_beginsBeat, Cond.selects RX9 yX9_beginsBeat yX9_beginsBeat, Cond.code yX9_beginsBeat cX9_beginsBeat 2 (some .boolean), Cond.methodLink RX6 60 yX6_onOf, Cond.instanceMethod yX6_onOf, Cond.selects RX6 yX6_onOf yX6_onOf, Cond.code yX6_onOf cX6_onOf 6 (some .int), Cond.methodLink RX6 127 yX6_drawOf, Cond.instanceMethod yX6_drawOf, Cond.selects RX6 yX6_drawOf yX6_drawOf, Cond.code yX6_drawOf cX6_drawOf 6 (some .int), Cond.constantLong RX6 131 (-7046029254386353131), Cond.constantLong RX6 133 (-4658895280553007687), Cond.constantLong RX6 135 (2), Cond.methodLink RX6 137 yJ9_floorMod_f86c9, Cond.static yJ9_floorMod_f86c9, Cond.code yJ9_floorMod_f86c9 cJ9_floorMod_f86c9 6 (some .long), Cond.methodLink RX6 67 yX6_addParts, Cond.instanceMethod yX6_addParts]
def wsX6_makeParts_r5 : List Cond := [Cond.selects RX6 yX6_addParts yX6_addParts, Cond.code yX6_addParts cX6_addParts 3 none, Cond.methodLink RX6 141 yX6_roll, Cond.instanceMethod yX6_roll, Cond.selects RX6 yX6_roll yX6_roll, Cond.code yX6_roll cX6_roll 4 none, Cond.methodLink RX6 159 yX4_rolledAhead, Cond.instanceMethod yX4_rolledAhead, Cond.selects RX4 yX4_rolledAhead yX4_rolledAhead, Cond.initialized RX4, Cond.code yX4_rolledAhead cX4_rolledAhead 4 (some .int), Cond.fieldLink RX4 27 "StyleRows$Notes" "howMany" "I", Cond.methodLink RX4 35 yX4_isInChord, Cond.instanceMethod yX4_isInChord, Cond.selects RX4 yX4_isInChord yX4_isInChord, Cond.code yX4_isInChord cX4_isInChord 4 (some .boolean), Cond.fieldLink RX4 24 "StyleRows$Notes" "marks" "[I", Cond.fieldLink RX4 11 "StyleRows$Notes" "voices" "[I", Cond.fieldLink RX4 15 "StyleRows$Notes" "starts" "[I", Cond.methodLink RX4 39 yX4_isLower, Cond.instanceMethod yX4_isLower, Cond.selects RX4 yX4_isLower yX4_isLower, Cond.code yX4_isLower cX4_isLower 3 (some .boolean), Cond.fieldLink RX4 21 "StyleRows$Notes" "pitches" "[I"]
def wsX6_makeParts_r6 : List Cond := [Cond.methodLink RX6 144 yX6_addLean, Cond.instanceMethod yX6_addLean, Cond.selects RX6 yX6_addLean yX6_addLean, Cond.code yX6_addLean cX6_addLean 3 none, Cond.methodLink RX6 155 yX6_addPart, Cond.instanceMethod yX6_addPart, Cond.selects RX6 yX6_addPart yX6_addPart, Cond.code yX6_addPart cX6_addPart 5 none, Cond.methodLink RX6 168 yX1_add, Cond.instanceMethod yX1_add, Cond.selects RX1 yX1_add yX1_add, Cond.code yX1_add cX1_add 8 none, Cond.fieldLink RX1 13 "StyleRows$Events" "rows" "[[I", Cond.methodLink RX6 148 yX6_addTrill, Cond.instanceMethod yX6_addTrill, Cond.selects RX6 yX6_addTrill yX6_addTrill, Cond.code yX6_addTrill cX6_addTrill 7 (some .boolean), Cond.methodLink RX6 152 yX6_addTurn, Cond.instanceMethod yX6_addTurn, Cond.selects RX6 yX6_addTurn yX6_addTurn, Cond.code yX6_addTurn cX6_addTurn 3 (some .boolean)]
def wsX6_makeParts : List Cond := .code yX6_makeParts cX6_makeParts 6 (some .boolean) :: ((wsX6_makeParts_r1 ++ (wsX6_makeParts_r2 ++ (wsX6_makeParts_r3 ++ (wsX6_makeParts_r4 ++ (wsX6_makeParts_r5 ++ wsX6_makeParts_r6))))) ++ wsX60 ++ wsX90 ++ wsX40 ++ wsX10 ++ wsX80 ++ wsX20)
def wsX7_init : List Cond := .code yX7_init cX7_init 1 none :: ([.methodLink RX7 3 objectInit, .instanceMethod objectInit, .code objectInit ⟨#[0xb1]⟩ 1 none])
def wsX8_dropStaged : List Cond := .code yX8_dropStaged cX8_dropStaged 1 none :: ([.fieldLink RX8 26 "StyleRows$Rules" "howMany" "I", .fieldLink RX8 30 "StyleRows$Rules" "withStaged" "I"] ++ wsX80)
def wsX10_at : List Cond := .code yX10_at cX10_at 2 (some .int) :: ([.fieldLink RX10 15 "StyleRows$Tape" "length" "I", .fieldLink RX10 11 "StyleRows$Tape" "bytes" "[B"] ++ wsX100)
def wsX7_kindAt : List Cond := .code yX7_kindAt cX7_kindAt 3 (some .int) :: ([.methodLink RX7 66 yX10_at, .instanceMethod yX10_at, .selects RX10 yX10_at yX10_at, .initialized RX10, .code yX10_at cX10_at 2 (some .int), .fieldLink RX10 15 "StyleRows$Tape" "length" "I", .fieldLink RX10 11 "StyleRows$Tape" "bytes" "[B", .static yX11_isWithin, .initialized RX11, .code yX11_isWithin cX11_isWithin 3 (some .boolean)] ++ wsX100)
def wsX7_takePiece : List Cond := .code yX7_takePiece cX7_takePiece 2 none :: ([.fieldLink RX7 14 "StyleRows$Reader" "to" "I", .fieldLink RX7 31 "StyleRows$Reader" "from" "I", .fieldLink RX7 24 "StyleRows$Reader" "kind" "I", .methodLink RX7 103 yX7_kindAt, .static yX7_kindAt, .initialized RX7, .code yX7_kindAt cX7_kindAt 3 (some .int), .methodLink RX7 66 yX10_at, .instanceMethod yX10_at, .selects RX10 yX10_at yX10_at, .initialized RX10, .code yX10_at cX10_at 2 (some .int), .fieldLink RX10 15 "StyleRows$Tape" "length" "I", .fieldLink RX10 11 "StyleRows$Tape" "bytes" "[B", .static yX11_isWithin, .initialized RX11, .code yX11_isWithin cX11_isWithin 3 (some .boolean)] ++ wsX70 ++ wsX100)
def wsX8_areFull : List Cond := .code yX8_areFull cX8_areFull 1 (some .boolean) :: ([.fieldLink RX8 30 "StyleRows$Rules" "withStaged" "I"] ++ wsX80)
def wsJ0_coder_7d493 : List Cond := .code yJ0_coder_7d493 cJ0_coder_7d493 1 (some .byte) :: ([.fieldLink RJ0 38 "java/lang/String" "COMPACT_STRINGS" "Z", .fieldLink RJ0 15 "java/lang/String" "coder" "B"])
def wsJ0_length_8abf5 : List Cond := .code yJ0_length_8abf5 cJ0_length_8abf5 1 (some .int) :: ([.fieldLink RJ0 9 "java/lang/String" "value" "[B", .methodLink RJ0 335 yJ0_coder_7d493, .instanceMethod yJ0_coder_7d493, .selects RJ0 yJ0_coder_7d493 yJ0_coder_7d493, .initialized RJ0, .code yJ0_coder_7d493 cJ0_coder_7d493 1 (some .byte), .fieldLink RJ0 38 "java/lang/String" "COMPACT_STRINGS" "Z", .fieldLink RJ0 15 "java/lang/String" "coder" "B"])
def wsJ0_isLatin1_aae02 : List Cond := .code yJ0_isLatin1_aae02 cJ0_isLatin1_aae02 1 (some .boolean) :: ([.fieldLink RJ0 38 "java/lang/String" "COMPACT_STRINGS" "Z", .fieldLink RJ0 15 "java/lang/String" "coder" "B"])
def wsJ3_checkIndex_8e157 : List Cond := .code yJ3_checkIndex_8e157 cJ3_checkIndex_8e157 3 (some .int) :: ([])
def wsJ0_checkIndex_df160 : List Cond := .code yJ0_checkIndex_df160 cJ0_checkIndex_df160 2 none :: ([.fieldLink RJ0 1053 "jdk/internal/util/Preconditions" "SIOOBE_FORMATTER" "Ljava/util/function/BiFunction;", .methodLink RJ0 1059 yJ3_checkIndex_8e157, .static yJ3_checkIndex_8e157, .initialized RJ3, .code yJ3_checkIndex_8e157 cJ3_checkIndex_8e157 3 (some .int)])
def wsJ1_charAt_3b067 : List Cond := .code yJ1_charAt_3b067 cJ1_charAt_3b067 2 (some .char) :: ([.methodLink RJ1 9 yJ0_checkIndex_df160, .static yJ0_checkIndex_df160, .initialized RJ0, .code yJ0_checkIndex_df160 cJ0_checkIndex_df160 2 none, .fieldLink RJ0 1053 "jdk/internal/util/Preconditions" "SIOOBE_FORMATTER" "Ljava/util/function/BiFunction;", .methodLink RJ0 1059 yJ3_checkIndex_8e157, .static yJ3_checkIndex_8e157, .initialized RJ3, .code yJ3_checkIndex_8e157 cJ3_checkIndex_8e157 3 (some .int)])
def wsJ2_length_9d52b : List Cond := .code yJ2_length_9d52b cJ2_length_9d52b 1 (some .int) :: ([])
def wsJ2_checkIndex_2214a : List Cond := .code yJ2_checkIndex_2214a cJ2_checkIndex_2214a 2 none :: ([.methodLink RJ2 48 yJ2_length_9d52b, .static yJ2_length_9d52b, .initialized RJ2, .code yJ2_length_9d52b cJ2_length_9d52b 1 (some .int), .methodLink RJ2 414 yJ0_checkIndex_df160, .static yJ0_checkIndex_df160, .initialized RJ0, .code yJ0_checkIndex_df160 cJ0_checkIndex_df160 2 none, .fieldLink RJ0 1053 "jdk/internal/util/Preconditions" "SIOOBE_FORMATTER" "Ljava/util/function/BiFunction;", .methodLink RJ0 1059 yJ3_checkIndex_8e157, .static yJ3_checkIndex_8e157, .initialized RJ3, .code yJ3_checkIndex_8e157 cJ3_checkIndex_8e157 3 (some .int)])
def wsJ2_getChar_3b067 : List Cond := .code yJ2_getChar_3b067 cJ2_getChar_3b067 2 (some .char) :: ([.fieldLink RJ2 44 "java/lang/StringUTF16" "$assertionsDisabled" "Z", .fieldLink RJ2 59 "java/lang/StringUTF16" "HI_BYTE_SHIFT" "I", .fieldLink RJ2 63 "java/lang/StringUTF16" "LO_BYTE_SHIFT" "I", .methodLink RJ2 48 yJ2_length_9d52b, .static yJ2_length_9d52b, .initialized RJ2, .code yJ2_length_9d52b cJ2_length_9d52b 1 (some .int)])
def wsJ2_charAt_3b067 : List Cond := .code yJ2_charAt_3b067 cJ2_charAt_3b067 2 (some .char) :: ([.methodLink RJ2 67 yJ2_checkIndex_2214a, .static yJ2_checkIndex_2214a, .initialized RJ2, .code yJ2_checkIndex_2214a cJ2_checkIndex_2214a 2 none, .methodLink RJ2 48 yJ2_length_9d52b, .static yJ2_length_9d52b, .code yJ2_length_9d52b cJ2_length_9d52b 1 (some .int), .methodLink RJ2 414 yJ0_checkIndex_df160, .static yJ0_checkIndex_df160, .initialized RJ0, .code yJ0_checkIndex_df160 cJ0_checkIndex_df160 2 none, .fieldLink RJ0 1053 "jdk/internal/util/Preconditions" "SIOOBE_FORMATTER" "Ljava/util/function/BiFunction;", .methodLink RJ0 1059 yJ3_checkIndex_8e157, .static yJ3_checkIndex_8e157, .initialized RJ3, .code yJ3_checkIndex_8e157 cJ3_checkIndex_8e157 3 (some .int), .methodLink RJ2 71 yJ2_getChar_3b067, .static yJ2_getChar_3b067, .code yJ2_getChar_3b067 cJ2_getChar_3b067 2 (some .char), .fieldLink RJ2 44 "java/lang/StringUTF16" "$assertionsDisabled" "Z", .fieldLink RJ2 59 "java/lang/StringUTF16" "HI_BYTE_SHIFT" "I", .fieldLink RJ2 63 "java/lang/StringUTF16" "LO_BYTE_SHIFT" "I"])
def wsJ0_charAt_5068e_r1 : List Cond := [Cond.fieldLink RJ0 9 "java/lang/String" "value" "[B", Cond.methodLink RJ0 492 yJ0_isLatin1_aae02, Cond.instanceMethod yJ0_isLatin1_aae02, Cond.selects RJ0 yJ0_isLatin1_aae02 yJ0_isLatin1_aae02, Cond.initialized RJ0, Cond.code yJ0_isLatin1_aae02 cJ0_isLatin1_aae02 1 (some .boolean), Cond.fieldLink RJ0 38 "java/lang/String" "COMPACT_STRINGS" "Z", Cond.fieldLink RJ0 15 "java/lang/String" "coder" "B", Cond.methodLink RJ0 495 yJ1_charAt_3b067, Cond.static yJ1_charAt_3b067, Cond.initialized RJ1, Cond.code yJ1_charAt_3b067 cJ1_charAt_3b067 2 (some .char), Cond.methodLink RJ1 9 yJ0_checkIndex_df160, Cond.static yJ0_checkIndex_df160, Cond.code yJ0_checkIndex_df160 cJ0_checkIndex_df160 2 none, Cond.fieldLink RJ0 1053 "jdk/internal/util/Preconditions" "SIOOBE_FORMATTER" "Ljava/util/function/BiFunction;", Cond.methodLink RJ0 1059 yJ3_checkIndex_8e157, Cond.static yJ3_checkIndex_8e157, Cond.initialized RJ3, Cond.code yJ3_checkIndex_8e157 cJ3_checkIndex_8e157 3 (some .int), Cond.methodLink RJ0 498 yJ2_charAt_3b067, Cond.static yJ2_charAt_3b067, Cond.initialized RJ2, Cond.code yJ2_charAt_3b067 cJ2_charAt_3b067 2 (some .char)]
def wsJ0_charAt_5068e_r2 : List Cond := [Cond.methodLink RJ2 67 yJ2_checkIndex_2214a, Cond.static yJ2_checkIndex_2214a, Cond.code yJ2_checkIndex_2214a cJ2_checkIndex_2214a 2 none, Cond.methodLink RJ2 48 yJ2_length_9d52b, Cond.static yJ2_length_9d52b, Cond.code yJ2_length_9d52b cJ2_length_9d52b 1 (some .int), Cond.methodLink RJ2 414 yJ0_checkIndex_df160, Cond.methodLink RJ2 71 yJ2_getChar_3b067, Cond.static yJ2_getChar_3b067, Cond.code yJ2_getChar_3b067 cJ2_getChar_3b067 2 (some .char), Cond.fieldLink RJ2 44 "java/lang/StringUTF16" "$assertionsDisabled" "Z", Cond.fieldLink RJ2 59 "java/lang/StringUTF16" "HI_BYTE_SHIFT" "I", Cond.fieldLink RJ2 63 "java/lang/StringUTF16" "LO_BYTE_SHIFT" "I"]
def wsJ0_charAt_5068e : List Cond := .code yJ0_charAt_5068e cJ0_charAt_5068e 2 (some .char) :: ((wsJ0_charAt_5068e_r1 ++ wsJ0_charAt_5068e_r2))
def wsX7_isWord_r1 : List Cond := [Cond.fieldLink RX7 24 "StyleRows$Reader" "kind" "I", Cond.fieldLink RX7 14 "StyleRows$Reader" "to" "I", Cond.fieldLink RX7 31 "StyleRows$Reader" "from" "I", Cond.methodLink RX7 91 yJ0_length_8abf5, Cond.instanceMethod yJ0_length_8abf5, Cond.selects RJ0 yJ0_length_8abf5 yJ0_length_8abf5, Cond.initialized RJ0, Cond.code yJ0_length_8abf5 cJ0_length_8abf5 1 (some .int), Cond.fieldLink RJ0 9 "java/lang/String" "value" "[B", Cond.methodLink RJ0 335 yJ0_coder_7d493, Cond.instanceMethod yJ0_coder_7d493, Cond.selects RJ0 yJ0_coder_7d493 yJ0_coder_7d493, Cond.code yJ0_coder_7d493 cJ0_coder_7d493 1 (some .byte), Cond.fieldLink RJ0 38 "java/lang/String" "COMPACT_STRINGS" "Z", Cond.fieldLink RJ0 15 "java/lang/String" "coder" "B", Cond.methodLink RX7 66 yX10_at, Cond.instanceMethod yX10_at, Cond.selects RX10 yX10_at yX10_at, Cond.initialized RX10, Cond.code yX10_at cX10_at 2 (some .int), Cond.fieldLink RX10 15 "StyleRows$Tape" "length" "I", Cond.fieldLink RX10 11 "StyleRows$Tape" "bytes" "[B", Cond.methodLink RX7 97 yJ0_charAt_5068e, Cond.instanceMethod yJ0_charAt_5068e]
def wsX7_isWord_r2 : List Cond := [Cond.selects RJ0 yJ0_charAt_5068e yJ0_charAt_5068e, Cond.code yJ0_charAt_5068e cJ0_charAt_5068e 2 (some .char), Cond.methodLink RJ0 492 yJ0_isLatin1_aae02, Cond.instanceMethod yJ0_isLatin1_aae02, Cond.selects RJ0 yJ0_isLatin1_aae02 yJ0_isLatin1_aae02, Cond.code yJ0_isLatin1_aae02 cJ0_isLatin1_aae02 1 (some .boolean), Cond.methodLink RJ0 495 yJ1_charAt_3b067, Cond.static yJ1_charAt_3b067, Cond.initialized RJ1, Cond.code yJ1_charAt_3b067 cJ1_charAt_3b067 2 (some .char), Cond.methodLink RJ1 9 yJ0_checkIndex_df160, Cond.static yJ0_checkIndex_df160, Cond.code yJ0_checkIndex_df160 cJ0_checkIndex_df160 2 none, Cond.fieldLink RJ0 1053 "jdk/internal/util/Preconditions" "SIOOBE_FORMATTER" "Ljava/util/function/BiFunction;", Cond.methodLink RJ0 1059 yJ3_checkIndex_8e157, Cond.static yJ3_checkIndex_8e157, Cond.initialized RJ3, Cond.code yJ3_checkIndex_8e157 cJ3_checkIndex_8e157 3 (some .int), Cond.methodLink RJ0 498 yJ2_charAt_3b067, Cond.static yJ2_charAt_3b067, Cond.initialized RJ2, Cond.code yJ2_charAt_3b067 cJ2_charAt_3b067 2 (some .char), Cond.methodLink RJ2 67 yJ2_checkIndex_2214a, Cond.static yJ2_checkIndex_2214a]
def wsX7_isWord_r3 : List Cond := [Cond.code yJ2_checkIndex_2214a cJ2_checkIndex_2214a 2 none, Cond.methodLink RJ2 48 yJ2_length_9d52b, Cond.static yJ2_length_9d52b, Cond.code yJ2_length_9d52b cJ2_length_9d52b 1 (some .int), Cond.methodLink RJ2 414 yJ0_checkIndex_df160, Cond.methodLink RJ2 71 yJ2_getChar_3b067, Cond.static yJ2_getChar_3b067, Cond.code yJ2_getChar_3b067 cJ2_getChar_3b067 2 (some .char), Cond.fieldLink RJ2 44 "java/lang/StringUTF16" "$assertionsDisabled" "Z", Cond.fieldLink RJ2 59 "java/lang/StringUTF16" "HI_BYTE_SHIFT" "I", Cond.fieldLink RJ2 63 "java/lang/StringUTF16" "LO_BYTE_SHIFT" "I"]
def wsX7_isWord : List Cond := .code yX7_isWord cX7_isWord 4 (some .boolean) :: ((wsX7_isWord_r1 ++ (wsX7_isWord_r2 ++ wsX7_isWord_r3)) ++ wsX70 ++ wsX100)
def wsX7_takeNumber_r1 : List Cond := [Cond.fieldLink RX7 24 "StyleRows$Reader" "kind" "I", Cond.fieldLink RX7 48 "StyleRows$Reader" "number" "I", Cond.fieldLink RX7 31 "StyleRows$Reader" "from" "I", Cond.fieldLink RX7 14 "StyleRows$Reader" "to" "I", Cond.constant RX7 76 (1000000), Cond.methodLink RX7 77 Lib.Math.min.name, Cond.static Lib.Math.min.name, Cond.initialized "java/lang/Math", Cond.code Lib.Math.min.name Lib.Math.min.code 2 (some .int), Cond.methodLink RX7 66 yX10_at, Cond.instanceMethod yX10_at, Cond.selects RX10 yX10_at yX10_at, Cond.initialized RX10, Cond.code yX10_at cX10_at 2 (some .int), Cond.fieldLink RX10 15 "StyleRows$Tape" "length" "I", Cond.fieldLink RX10 11 "StyleRows$Tape" "bytes" "[B", Cond.static yX11_isWithin, Cond.initialized RX11, Cond.code yX11_isWithin cX11_isWithin 3 (some .boolean), Cond.methodLink RX7 20 yX7_takePiece, Cond.instanceMethod yX7_takePiece, Cond.selects RX7 yX7_takePiece yX7_takePiece, Cond.initialized RX7, Cond.code yX7_takePiece cX7_takePiece 2 none]
def wsX7_takeNumber_r2 : List Cond := [Cond.methodLink RX7 103 yX7_kindAt, Cond.static yX7_kindAt, Cond.code yX7_kindAt cX7_kindAt 3 (some .int)]
def wsX7_takeNumber : List Cond := .code yX7_takeNumber cX7_takeNumber 5 (some .boolean) :: ((wsX7_takeNumber_r1 ++ wsX7_takeNumber_r2) ++ wsX70 ++ wsX100)
def wsX7_nameThere_r1 : List Cond := [Cond.methodLink RX7 87 yX3_wordOf, Cond.static yX3_wordOf, Cond.initialized RX3, Cond.code yX3_wordOf cX3_wordOf 1 (some (.object "java/lang/String")), Cond.methodLink RX7 40 yX7_isWord, Cond.instanceMethod yX7_isWord, Cond.selects RX7 yX7_isWord yX7_isWord, Cond.initialized RX7, Cond.code yX7_isWord cX7_isWord 4 (some .boolean), Cond.fieldLink RX7 24 "StyleRows$Reader" "kind" "I", Cond.fieldLink RX7 14 "StyleRows$Reader" "to" "I", Cond.fieldLink RX7 31 "StyleRows$Reader" "from" "I", Cond.methodLink RX7 91 yJ0_length_8abf5, Cond.instanceMethod yJ0_length_8abf5, Cond.selects RJ0 yJ0_length_8abf5 yJ0_length_8abf5, Cond.initialized RJ0, Cond.code yJ0_length_8abf5 cJ0_length_8abf5 1 (some .int), Cond.fieldLink RJ0 9 "java/lang/String" "value" "[B", Cond.methodLink RJ0 335 yJ0_coder_7d493, Cond.instanceMethod yJ0_coder_7d493, Cond.selects RJ0 yJ0_coder_7d493 yJ0_coder_7d493, Cond.code yJ0_coder_7d493 cJ0_coder_7d493 1 (some .byte), Cond.fieldLink RJ0 38 "java/lang/String" "COMPACT_STRINGS" "Z", Cond.fieldLink RJ0 15 "java/lang/String" "coder" "B"]
def wsX7_nameThere_r2 : List Cond := [Cond.methodLink RX7 66 yX10_at, Cond.instanceMethod yX10_at, Cond.selects RX10 yX10_at yX10_at, Cond.initialized RX10, Cond.code yX10_at cX10_at 2 (some .int), Cond.fieldLink RX10 15 "StyleRows$Tape" "length" "I", Cond.fieldLink RX10 11 "StyleRows$Tape" "bytes" "[B", Cond.methodLink RX7 97 yJ0_charAt_5068e, Cond.instanceMethod yJ0_charAt_5068e, Cond.selects RJ0 yJ0_charAt_5068e yJ0_charAt_5068e, Cond.code yJ0_charAt_5068e cJ0_charAt_5068e 2 (some .char), Cond.methodLink RJ0 492 yJ0_isLatin1_aae02, Cond.instanceMethod yJ0_isLatin1_aae02, Cond.selects RJ0 yJ0_isLatin1_aae02 yJ0_isLatin1_aae02, Cond.code yJ0_isLatin1_aae02 cJ0_isLatin1_aae02 1 (some .boolean), Cond.methodLink RJ0 495 yJ1_charAt_3b067, Cond.static yJ1_charAt_3b067, Cond.initialized RJ1, Cond.code yJ1_charAt_3b067 cJ1_charAt_3b067 2 (some .char), Cond.methodLink RJ1 9 yJ0_checkIndex_df160, Cond.static yJ0_checkIndex_df160, Cond.code yJ0_checkIndex_df160 cJ0_checkIndex_df160 2 none, Cond.fieldLink RJ0 1053 "jdk/internal/util/Preconditions" "SIOOBE_FORMATTER" "Ljava/util/function/BiFunction;", Cond.methodLink RJ0 1059 yJ3_checkIndex_8e157]
def wsX7_nameThere_r3 : List Cond := [Cond.static yJ3_checkIndex_8e157, Cond.initialized RJ3, Cond.code yJ3_checkIndex_8e157 cJ3_checkIndex_8e157 3 (some .int), Cond.methodLink RJ0 498 yJ2_charAt_3b067, Cond.static yJ2_charAt_3b067, Cond.initialized RJ2, Cond.code yJ2_charAt_3b067 cJ2_charAt_3b067 2 (some .char), Cond.methodLink RJ2 67 yJ2_checkIndex_2214a, Cond.static yJ2_checkIndex_2214a, Cond.code yJ2_checkIndex_2214a cJ2_checkIndex_2214a 2 none, Cond.methodLink RJ2 48 yJ2_length_9d52b, Cond.static yJ2_length_9d52b, Cond.code yJ2_length_9d52b cJ2_length_9d52b 1 (some .int), Cond.methodLink RJ2 414 yJ0_checkIndex_df160, Cond.methodLink RJ2 71 yJ2_getChar_3b067, Cond.static yJ2_getChar_3b067, Cond.code yJ2_getChar_3b067 cJ2_getChar_3b067 2 (some .char), Cond.fieldLink RJ2 44 "java/lang/StringUTF16" "$assertionsDisabled" "Z", Cond.fieldLink RJ2 59 "java/lang/StringUTF16" "HI_BYTE_SHIFT" "I", Cond.fieldLink RJ2 63 "java/lang/StringUTF16" "LO_BYTE_SHIFT" "I"]
def wsX7_nameThere : List Cond := .code yX7_nameThere cX7_nameThere 3 (some .int) :: ((wsX7_nameThere_r1 ++ (wsX7_nameThere_r2 ++ wsX7_nameThere_r3)) ++ wsX70 ++ wsX100)
def wsX8_stage : List Cond := .code yX8_stage cX8_stage 5 none :: ([.fieldLink RX8 13 "StyleRows$Rules" "rows" "[[I", .fieldLink RX8 30 "StyleRows$Rules" "withStaged" "I", .methodLink RX8 44 yX8_areFull, .instanceMethod yX8_areFull, .selects RX8 yX8_areFull yX8_areFull, .initialized RX8, .code yX8_areFull cX8_areFull 1 (some .boolean)] ++ wsX80)
def wsX7_takeRule_r1 : List Cond := [Cond.fieldLink RX7 48 "StyleRows$Reader" "number" "I", Cond.fieldLink RX7 31 "StyleRows$Reader" "from" "I", Cond.methodLink RX7 34 yX8_areFull, Cond.instanceMethod yX8_areFull, Cond.selects RX8 yX8_areFull yX8_areFull, Cond.initialized RX8, Cond.code yX8_areFull cX8_areFull 1 (some .boolean), Cond.fieldLink RX8 30 "StyleRows$Rules" "withStaged" "I", Cond.methodLink RX7 40 yX7_isWord, Cond.instanceMethod yX7_isWord, Cond.selects RX7 yX7_isWord yX7_isWord, Cond.initialized RX7, Cond.code yX7_isWord cX7_isWord 4 (some .boolean), Cond.fieldLink RX7 24 "StyleRows$Reader" "kind" "I", Cond.fieldLink RX7 14 "StyleRows$Reader" "to" "I", Cond.methodLink RX7 91 yJ0_length_8abf5, Cond.instanceMethod yJ0_length_8abf5, Cond.selects RJ0 yJ0_length_8abf5 yJ0_length_8abf5, Cond.initialized RJ0, Cond.code yJ0_length_8abf5 cJ0_length_8abf5 1 (some .int), Cond.fieldLink RJ0 9 "java/lang/String" "value" "[B", Cond.methodLink RJ0 335 yJ0_coder_7d493, Cond.instanceMethod yJ0_coder_7d493, Cond.selects RJ0 yJ0_coder_7d493 yJ0_coder_7d493]
def wsX7_takeRule_r2 : List Cond := [Cond.code yJ0_coder_7d493 cJ0_coder_7d493 1 (some .byte), Cond.fieldLink RJ0 38 "java/lang/String" "COMPACT_STRINGS" "Z", Cond.fieldLink RJ0 15 "java/lang/String" "coder" "B", Cond.methodLink RX7 66 yX10_at, Cond.instanceMethod yX10_at, Cond.selects RX10 yX10_at yX10_at, Cond.initialized RX10, Cond.code yX10_at cX10_at 2 (some .int), Cond.fieldLink RX10 15 "StyleRows$Tape" "length" "I", Cond.fieldLink RX10 11 "StyleRows$Tape" "bytes" "[B", Cond.methodLink RX7 97 yJ0_charAt_5068e, Cond.instanceMethod yJ0_charAt_5068e, Cond.selects RJ0 yJ0_charAt_5068e yJ0_charAt_5068e, Cond.code yJ0_charAt_5068e cJ0_charAt_5068e 2 (some .char), Cond.methodLink RJ0 492 yJ0_isLatin1_aae02, Cond.instanceMethod yJ0_isLatin1_aae02, Cond.selects RJ0 yJ0_isLatin1_aae02 yJ0_isLatin1_aae02, Cond.code yJ0_isLatin1_aae02 cJ0_isLatin1_aae02 1 (some .boolean), Cond.methodLink RJ0 495 yJ1_charAt_3b067, Cond.static yJ1_charAt_3b067, Cond.initialized RJ1, Cond.code yJ1_charAt_3b067 cJ1_charAt_3b067 2 (some .char), Cond.methodLink RJ1 9 yJ0_checkIndex_df160, Cond.static yJ0_checkIndex_df160]
def wsX7_takeRule_r3 : List Cond := [Cond.code yJ0_checkIndex_df160 cJ0_checkIndex_df160 2 none, Cond.fieldLink RJ0 1053 "jdk/internal/util/Preconditions" "SIOOBE_FORMATTER" "Ljava/util/function/BiFunction;", Cond.methodLink RJ0 1059 yJ3_checkIndex_8e157, Cond.static yJ3_checkIndex_8e157, Cond.initialized RJ3, Cond.code yJ3_checkIndex_8e157 cJ3_checkIndex_8e157 3 (some .int), Cond.methodLink RJ0 498 yJ2_charAt_3b067, Cond.static yJ2_charAt_3b067, Cond.initialized RJ2, Cond.code yJ2_charAt_3b067 cJ2_charAt_3b067 2 (some .char), Cond.methodLink RJ2 67 yJ2_checkIndex_2214a, Cond.static yJ2_checkIndex_2214a, Cond.code yJ2_checkIndex_2214a cJ2_checkIndex_2214a 2 none, Cond.methodLink RJ2 48 yJ2_length_9d52b, Cond.static yJ2_length_9d52b, Cond.code yJ2_length_9d52b cJ2_length_9d52b 1 (some .int), Cond.methodLink RJ2 414 yJ0_checkIndex_df160, Cond.methodLink RJ2 71 yJ2_getChar_3b067, Cond.static yJ2_getChar_3b067, Cond.code yJ2_getChar_3b067 cJ2_getChar_3b067 2 (some .char), Cond.fieldLink RJ2 44 "java/lang/StringUTF16" "$assertionsDisabled" "Z", Cond.fieldLink RJ2 59 "java/lang/StringUTF16" "HI_BYTE_SHIFT" "I", Cond.fieldLink RJ2 63 "java/lang/StringUTF16" "LO_BYTE_SHIFT" "I", Cond.methodLink RX7 20 yX7_takePiece]
def wsX7_takeRule_r4 : List Cond := [Cond.instanceMethod yX7_takePiece, Cond.selects RX7 yX7_takePiece yX7_takePiece, Cond.code yX7_takePiece cX7_takePiece 2 none, Cond.methodLink RX7 103 yX7_kindAt, Cond.static yX7_kindAt, Cond.code yX7_kindAt cX7_kindAt 3 (some .int), Cond.static yX11_isWithin, Cond.initialized RX11, Cond.code yX11_isWithin cX11_isWithin 3 (some .boolean), Cond.methodLink RX7 44 yX7_takeNumber, Cond.instanceMethod yX7_takeNumber, Cond.selects RX7 yX7_takeNumber yX7_takeNumber, Cond.code yX7_takeNumber cX7_takeNumber 5 (some .boolean), Cond.constant RX7 76 (1000000), Cond.methodLink RX7 77 Lib.Math.min.name, Cond.static Lib.Math.min.name, Cond.initialized "java/lang/Math", Cond.code Lib.Math.min.name Lib.Math.min.code 2 (some .int), Cond.methodLink RX7 51 yX7_nameThere, Cond.instanceMethod yX7_nameThere, Cond.selects RX7 yX7_nameThere yX7_nameThere, Cond.code yX7_nameThere cX7_nameThere 3 (some .int), Cond.methodLink RX7 87 yX3_wordOf, Cond.static yX3_wordOf]
def wsX7_takeRule_r5 : List Cond := [Cond.initialized RX3, Cond.code yX3_wordOf cX3_wordOf 1 (some (.object "java/lang/String")), Cond.methodLink RX7 72 yX8_stage, Cond.instanceMethod yX8_stage, Cond.selects RX8 yX8_stage yX8_stage, Cond.code yX8_stage cX8_stage 5 none, Cond.fieldLink RX8 13 "StyleRows$Rules" "rows" "[[I", Cond.methodLink RX8 44 yX8_areFull]
def wsX7_takeRule : List Cond := .code yX7_takeRule cX7_takeRule 7 (some .boolean) :: ((wsX7_takeRule_r1 ++ (wsX7_takeRule_r2 ++ (wsX7_takeRule_r3 ++ (wsX7_takeRule_r4 ++ wsX7_takeRule_r5)))) ++ wsX70 ++ wsX80 ++ wsX100)
def wsX7_findFault_r1 : List Cond := [Cond.fieldLink RX7 14 "StyleRows$Reader" "to" "I", Cond.fieldLink RX7 24 "StyleRows$Reader" "kind" "I", Cond.fieldLink RX7 31 "StyleRows$Reader" "from" "I", Cond.methodLink RX7 9 yX8_dropStaged, Cond.instanceMethod yX8_dropStaged, Cond.selects RX8 yX8_dropStaged yX8_dropStaged, Cond.initialized RX8, Cond.code yX8_dropStaged cX8_dropStaged 1 none, Cond.fieldLink RX8 26 "StyleRows$Rules" "howMany" "I", Cond.fieldLink RX8 30 "StyleRows$Rules" "withStaged" "I", Cond.methodLink RX7 20 yX7_takePiece, Cond.instanceMethod yX7_takePiece, Cond.selects RX7 yX7_takePiece yX7_takePiece, Cond.initialized RX7, Cond.code yX7_takePiece cX7_takePiece 2 none, Cond.methodLink RX7 103 yX7_kindAt, Cond.static yX7_kindAt, Cond.code yX7_kindAt cX7_kindAt 3 (some .int), Cond.methodLink RX7 66 yX10_at, Cond.instanceMethod yX10_at, Cond.selects RX10 yX10_at yX10_at, Cond.initialized RX10, Cond.code yX10_at cX10_at 2 (some .int), Cond.fieldLink RX10 15 "StyleRows$Tape" "length" "I"]
def wsX7_findFault_r2 : List Cond := [Cond.fieldLink RX10 11 "StyleRows$Tape" "bytes" "[B", Cond.static yX11_isWithin, Cond.initialized RX11, Cond.code yX11_isWithin cX11_isWithin 3 (some .boolean), Cond.methodLink RX7 27 yX7_takeRule, Cond.instanceMethod yX7_takeRule, Cond.selects RX7 yX7_takeRule yX7_takeRule, Cond.code yX7_takeRule cX7_takeRule 7 (some .boolean), Cond.fieldLink RX7 48 "StyleRows$Reader" "number" "I", Cond.methodLink RX7 34 yX8_areFull, Cond.instanceMethod yX8_areFull, Cond.selects RX8 yX8_areFull yX8_areFull, Cond.code yX8_areFull cX8_areFull 1 (some .boolean), Cond.methodLink RX7 40 yX7_isWord, Cond.instanceMethod yX7_isWord, Cond.selects RX7 yX7_isWord yX7_isWord, Cond.code yX7_isWord cX7_isWord 4 (some .boolean), Cond.methodLink RX7 91 yJ0_length_8abf5, Cond.instanceMethod yJ0_length_8abf5, Cond.selects RJ0 yJ0_length_8abf5 yJ0_length_8abf5, Cond.initialized RJ0, Cond.code yJ0_length_8abf5 cJ0_length_8abf5 1 (some .int), Cond.fieldLink RJ0 9 "java/lang/String" "value" "[B", Cond.methodLink RJ0 335 yJ0_coder_7d493]
def wsX7_findFault_r3 : List Cond := [Cond.instanceMethod yJ0_coder_7d493, Cond.selects RJ0 yJ0_coder_7d493 yJ0_coder_7d493, Cond.code yJ0_coder_7d493 cJ0_coder_7d493 1 (some .byte), Cond.fieldLink RJ0 38 "java/lang/String" "COMPACT_STRINGS" "Z", Cond.fieldLink RJ0 15 "java/lang/String" "coder" "B", Cond.methodLink RX7 97 yJ0_charAt_5068e, Cond.instanceMethod yJ0_charAt_5068e, Cond.selects RJ0 yJ0_charAt_5068e yJ0_charAt_5068e, Cond.code yJ0_charAt_5068e cJ0_charAt_5068e 2 (some .char), Cond.methodLink RJ0 492 yJ0_isLatin1_aae02, Cond.instanceMethod yJ0_isLatin1_aae02, Cond.selects RJ0 yJ0_isLatin1_aae02 yJ0_isLatin1_aae02, Cond.code yJ0_isLatin1_aae02 cJ0_isLatin1_aae02 1 (some .boolean), Cond.methodLink RJ0 495 yJ1_charAt_3b067, Cond.static yJ1_charAt_3b067, Cond.initialized RJ1, Cond.code yJ1_charAt_3b067 cJ1_charAt_3b067 2 (some .char), Cond.methodLink RJ1 9 yJ0_checkIndex_df160, Cond.static yJ0_checkIndex_df160, Cond.code yJ0_checkIndex_df160 cJ0_checkIndex_df160 2 none, Cond.fieldLink RJ0 1053 "jdk/internal/util/Preconditions" "SIOOBE_FORMATTER" "Ljava/util/function/BiFunction;", Cond.methodLink RJ0 1059 yJ3_checkIndex_8e157, Cond.static yJ3_checkIndex_8e157, Cond.initialized RJ3]
def wsX7_findFault_r4 : List Cond := [Cond.code yJ3_checkIndex_8e157 cJ3_checkIndex_8e157 3 (some .int), Cond.methodLink RJ0 498 yJ2_charAt_3b067, Cond.static yJ2_charAt_3b067, Cond.initialized RJ2, Cond.code yJ2_charAt_3b067 cJ2_charAt_3b067 2 (some .char), Cond.methodLink RJ2 67 yJ2_checkIndex_2214a, Cond.static yJ2_checkIndex_2214a, Cond.code yJ2_checkIndex_2214a cJ2_checkIndex_2214a 2 none, Cond.methodLink RJ2 48 yJ2_length_9d52b, Cond.static yJ2_length_9d52b, Cond.code yJ2_length_9d52b cJ2_length_9d52b 1 (some .int), Cond.methodLink RJ2 414 yJ0_checkIndex_df160, Cond.methodLink RJ2 71 yJ2_getChar_3b067, Cond.static yJ2_getChar_3b067, Cond.code yJ2_getChar_3b067 cJ2_getChar_3b067 2 (some .char), Cond.fieldLink RJ2 44 "java/lang/StringUTF16" "$assertionsDisabled" "Z", Cond.fieldLink RJ2 59 "java/lang/StringUTF16" "HI_BYTE_SHIFT" "I", Cond.fieldLink RJ2 63 "java/lang/StringUTF16" "LO_BYTE_SHIFT" "I", Cond.methodLink RX7 44 yX7_takeNumber, Cond.instanceMethod yX7_takeNumber, Cond.selects RX7 yX7_takeNumber yX7_takeNumber, Cond.code yX7_takeNumber cX7_takeNumber 5 (some .boolean), Cond.constant RX7 76 (1000000), Cond.methodLink RX7 77 Lib.Math.min.name]
def wsX7_findFault_r5 : List Cond := [Cond.static Lib.Math.min.name, Cond.initialized "java/lang/Math", Cond.code Lib.Math.min.name Lib.Math.min.code 2 (some .int), Cond.methodLink RX7 51 yX7_nameThere, Cond.instanceMethod yX7_nameThere, Cond.selects RX7 yX7_nameThere yX7_nameThere, Cond.code yX7_nameThere cX7_nameThere 3 (some .int), Cond.methodLink RX7 87 yX3_wordOf, Cond.static yX3_wordOf, Cond.initialized RX3, Cond.code yX3_wordOf cX3_wordOf 1 (some (.object "java/lang/String")), Cond.methodLink RX7 72 yX8_stage, Cond.instanceMethod yX8_stage, Cond.selects RX8 yX8_stage yX8_stage, Cond.code yX8_stage cX8_stage 5 none, Cond.fieldLink RX8 13 "StyleRows$Rules" "rows" "[[I", Cond.methodLink RX8 44 yX8_areFull]
def wsX7_findFault : List Cond := .code yX7_findFault cX7_findFault 4 (some .int) :: ((wsX7_findFault_r1 ++ (wsX7_findFault_r2 ++ (wsX7_findFault_r3 ++ (wsX7_findFault_r4 ++ wsX7_findFault_r5)))) ++ wsX70 ++ wsX80 ++ wsX100)
def wsX8_clear : List Cond := .code yX8_clear cX8_clear 3 (some .int) :: ([.fieldLink RX8 26 "StyleRows$Rules" "howMany" "I", .fieldLink RX8 30 "StyleRows$Rules" "withStaged" "I", .fieldLink RX8 18 "StyleRows$Rules" "counting" "[I"] ++ wsX80)
def wsX8_init : List Cond := .code yX8_init cX8_init 1 none :: ([.methodLink RX8 3 objectInit, .instanceMethod objectInit, .code objectInit ⟨#[0xb1]⟩ 1 none, .classLink RX8 11 "[[I", .arrayClass .int, .fieldLink RX8 13 "StyleRows$Rules" "rows" "[[I", .fieldLink RX8 18 "StyleRows$Rules" "counting" "[I", .methodLink RX8 22 yX8_clear, .instanceMethod yX8_clear, .selects RX8 yX8_clear yX8_clear, .initialized RX8, .code yX8_clear cX8_clear 3 (some .int), .fieldLink RX8 26 "StyleRows$Rules" "howMany" "I", .fieldLink RX8 30 "StyleRows$Rules" "withStaged" "I"] ++ wsX80)
def wsX8_has : List Cond := .code yX8_has cX8_has 2 (some .boolean) :: ([.fieldLink RX8 26 "StyleRows$Rules" "howMany" "I", .static yX11_isWithin, .initialized RX11, .code yX11_isWithin cX11_isWithin 3 (some .boolean)] ++ wsX80)
def wsX8_isOutrankedBy : List Cond := .code yX8_isOutrankedBy cX8_isOutrankedBy 3 (some .boolean) :: ([.fieldLink RX8 13 "StyleRows$Rules" "rows" "[[I"] ++ wsX80)
def wsX8_letCount : List Cond := .code yX8_letCount cX8_letCount 5 none :: ([.fieldLink RX8 13 "StyleRows$Rules" "rows" "[[I", .fieldLink RX8 18 "StyleRows$Rules" "counting" "[I", .methodLink RX8 52 yX8_isOutrankedBy, .instanceMethod yX8_isOutrankedBy, .selects RX8 yX8_isOutrankedBy yX8_isOutrankedBy, .initialized RX8, .code yX8_isOutrankedBy cX8_isOutrankedBy 3 (some .boolean)] ++ wsX80)
def wsX8_keepStaged : List Cond := .code yX8_keepStaged cX8_keepStaged 2 (some .int) :: ([.fieldLink RX8 26 "StyleRows$Rules" "howMany" "I", .fieldLink RX8 30 "StyleRows$Rules" "withStaged" "I", .methodLink RX8 48 yX8_letCount, .instanceMethod yX8_letCount, .selects RX8 yX8_letCount yX8_letCount, .initialized RX8, .code yX8_letCount cX8_letCount 5 none, .fieldLink RX8 13 "StyleRows$Rules" "rows" "[[I", .fieldLink RX8 18 "StyleRows$Rules" "counting" "[I", .methodLink RX8 52 yX8_isOutrankedBy, .instanceMethod yX8_isOutrankedBy, .selects RX8 yX8_isOutrankedBy yX8_isOutrankedBy, .code yX8_isOutrankedBy cX8_isOutrankedBy 3 (some .boolean)] ++ wsX80)
def wsX9_init_r1 : List Cond := [Cond.methodLink RX9 1 objectInit, Cond.instanceMethod objectInit, Cond.code objectInit ⟨#[0xb1]⟩ 1 none, Cond.classLink RX9 7 RX4, Cond.instantiable RX4 6, Cond.initialized RX4, Cond.fieldLink RX9 10 "StyleRows$Score" "notes" "LStyleRows$Notes;", Cond.classLink RX9 16 RX2, Cond.instantiable RX2 4, Cond.initialized RX2, Cond.fieldLink RX9 19 "StyleRows$Score" "levels" "LStyleRows$Levels;", Cond.classLink RX9 23 RX0, Cond.instantiable RX0 4, Cond.initialized RX0, Cond.fieldLink RX9 26 "StyleRows$Score" "arcs" "LStyleRows$Arcs;", Cond.fieldLink RX9 30 "StyleRows$Score" "beats" "I", Cond.fieldLink RX9 34 "StyleRows$Score" "unit" "I", Cond.instanceMethod yX4_init, Cond.code yX4_init cX4_init 1 none, Cond.methodLink RX4 3 objectInit, Cond.arrayClass .int, Cond.fieldLink RX4 11 "StyleRows$Notes" "voices" "[I", Cond.fieldLink RX4 15 "StyleRows$Notes" "starts" "[I", Cond.fieldLink RX4 18 "StyleRows$Notes" "lengths" "[I"]
def wsX9_init_r2 : List Cond := [Cond.fieldLink RX4 21 "StyleRows$Notes" "pitches" "[I", Cond.fieldLink RX4 24 "StyleRows$Notes" "marks" "[I", Cond.instanceMethod yX2_init, Cond.code yX2_init cX2_init 1 none, Cond.methodLink RX2 3 objectInit, Cond.fieldLink RX2 11 "StyleRows$Levels" "ticks" "[I", Cond.fieldLink RX2 15 "StyleRows$Levels" "heights" "[I", Cond.arrayClass .boolean, Cond.fieldLink RX2 18 "StyleRows$Levels" "swelling" "[Z", Cond.instanceMethod yX0_init, Cond.code yX0_init cX0_init 1 none, Cond.methodLink RX0 3 objectInit, Cond.fieldLink RX0 11 "StyleRows$Arcs" "froms" "[I", Cond.fieldLink RX0 15 "StyleRows$Arcs" "tos" "[I", Cond.fieldLink RX0 18 "StyleRows$Arcs" "bys" "[I"]
def wsX9_init : List Cond := .code yX9_init cX9_init 1 none :: ((wsX9_init_r1 ++ wsX9_init_r2) ++ wsX40 ++ wsX90 ++ wsX20 ++ wsX00)
def wsX9_beat : List Cond := .code yX9_beat cX9_beat 3 none :: ([.fieldLink RX9 30 "StyleRows$Score" "beats" "I", .fieldLink RX9 34 "StyleRows$Score" "unit" "I"] ++ wsX90)
def wsX10_init : List Cond := .code yX10_init cX10_init 1 none :: ([.methodLink RX10 3 objectInit, .instanceMethod objectInit, .code objectInit ⟨#[0xb1]⟩ 1 none, .arrayClass .byte, .fieldLink RX10 11 "StyleRows$Tape" "bytes" "[B"] ++ wsX100)
def wsX10_append : List Cond := .code yX10_append cX10_append 5 (some .int) :: ([.fieldLink RX10 15 "StyleRows$Tape" "length" "I", .fieldLink RX10 11 "StyleRows$Tape" "bytes" "[B"] ++ wsX100)
def wsX10_clear : List Cond := .code yX10_clear cX10_clear 1 none :: ([.fieldLink RX10 15 "StyleRows$Tape" "length" "I"] ++ wsX100)
def wsX11_init_r1 : List Cond := [Cond.methodLink RX11 1 objectInit, Cond.instanceMethod objectInit, Cond.code objectInit ⟨#[0xb1]⟩ 1 none, Cond.fieldLink RX11 7 "StyleRows" "seed" "J", Cond.classLink RX11 13 RX9, Cond.instantiable RX9 5, Cond.initialized RX9, Cond.fieldLink RX11 16 "StyleRows" "score" "LStyleRows$Score;", Cond.classLink RX11 20 RX10, Cond.instantiable RX10 2, Cond.initialized RX10, Cond.fieldLink RX11 23 "StyleRows" "tape" "LStyleRows$Tape;", Cond.classLink RX11 27 RX8, Cond.instantiable RX8 4, Cond.initialized RX8, Cond.fieldLink RX11 30 "StyleRows" "rules" "LStyleRows$Rules;", Cond.classLink RX11 34 RX7, Cond.instantiable RX7 4, Cond.initialized RX7, Cond.fieldLink RX11 37 "StyleRows" "reader" "LStyleRows$Reader;", Cond.classLink RX11 41 RX6, Cond.instantiable RX6 8, Cond.initialized RX6, Cond.fieldLink RX11 44 "StyleRows" "performer" "LStyleRows$Performer;"]
def wsX11_init_r2 : List Cond := [Cond.classLink RX11 48 RX5, Cond.instantiable RX5 2, Cond.initialized RX5, Cond.fieldLink RX11 51 "StyleRows" "order" "LStyleRows$Order;", Cond.classLink RX11 55 RX1, Cond.instantiable RX1 3, Cond.initialized RX1, Cond.fieldLink RX11 58 "StyleRows" "events" "LStyleRows$Events;", Cond.instanceMethod yX9_init, Cond.code yX9_init cX9_init 1 none, Cond.methodLink RX9 1 objectInit, Cond.classLink RX9 7 RX4, Cond.instantiable RX4 6, Cond.initialized RX4, Cond.fieldLink RX9 10 "StyleRows$Score" "notes" "LStyleRows$Notes;", Cond.classLink RX9 16 RX2, Cond.instantiable RX2 4, Cond.initialized RX2, Cond.fieldLink RX9 19 "StyleRows$Score" "levels" "LStyleRows$Levels;", Cond.classLink RX9 23 RX0, Cond.instantiable RX0 4, Cond.initialized RX0, Cond.fieldLink RX9 26 "StyleRows$Score" "arcs" "LStyleRows$Arcs;", Cond.fieldLink RX9 30 "StyleRows$Score" "beats" "I"]
def wsX11_init_r3 : List Cond := [Cond.fieldLink RX9 34 "StyleRows$Score" "unit" "I", Cond.instanceMethod yX4_init, Cond.code yX4_init cX4_init 1 none, Cond.methodLink RX4 3 objectInit, Cond.arrayClass .int, Cond.fieldLink RX4 11 "StyleRows$Notes" "voices" "[I", Cond.fieldLink RX4 15 "StyleRows$Notes" "starts" "[I", Cond.fieldLink RX4 18 "StyleRows$Notes" "lengths" "[I", Cond.fieldLink RX4 21 "StyleRows$Notes" "pitches" "[I", Cond.fieldLink RX4 24 "StyleRows$Notes" "marks" "[I", Cond.instanceMethod yX2_init, Cond.code yX2_init cX2_init 1 none, Cond.methodLink RX2 3 objectInit, Cond.fieldLink RX2 11 "StyleRows$Levels" "ticks" "[I", Cond.fieldLink RX2 15 "StyleRows$Levels" "heights" "[I", Cond.arrayClass .boolean, Cond.fieldLink RX2 18 "StyleRows$Levels" "swelling" "[Z", Cond.instanceMethod yX0_init, Cond.code yX0_init cX0_init 1 none, Cond.methodLink RX0 3 objectInit, Cond.fieldLink RX0 11 "StyleRows$Arcs" "froms" "[I", Cond.fieldLink RX0 15 "StyleRows$Arcs" "tos" "[I", Cond.fieldLink RX0 18 "StyleRows$Arcs" "bys" "[I", Cond.instanceMethod yX10_init]
def wsX11_init_r4 : List Cond := [Cond.code yX10_init cX10_init 1 none, Cond.methodLink RX10 3 objectInit, Cond.arrayClass .byte, Cond.fieldLink RX10 11 "StyleRows$Tape" "bytes" "[B", Cond.methodLink RX11 29 yX8_init, Cond.instanceMethod yX8_init, Cond.code yX8_init cX8_init 1 none, Cond.methodLink RX8 3 objectInit, Cond.classLink RX8 11 "[[I", Cond.fieldLink RX8 13 "StyleRows$Rules" "rows" "[[I", Cond.fieldLink RX8 18 "StyleRows$Rules" "counting" "[I", Cond.methodLink RX8 22 yX8_clear, Cond.instanceMethod yX8_clear, Cond.selects RX8 yX8_clear yX8_clear, Cond.code yX8_clear cX8_clear 3 (some .int), Cond.fieldLink RX8 26 "StyleRows$Rules" "howMany" "I", Cond.fieldLink RX8 30 "StyleRows$Rules" "withStaged" "I", Cond.instanceMethod yX7_init, Cond.code yX7_init cX7_init 1 none, Cond.methodLink RX7 3 objectInit, Cond.instanceMethod yX6_init, Cond.code yX6_init cX6_init 1 none, Cond.methodLink RX6 1 objectInit, Cond.classLink RX6 7 RX1]
def wsX11_init_r5 : List Cond := [Cond.fieldLink RX6 10 "StyleRows$Performer" "parts" "LStyleRows$Events;", Cond.instanceMethod yX1_init, Cond.code yX1_init cX1_init 1 none, Cond.methodLink RX1 3 objectInit, Cond.classLink RX1 11 "[[I", Cond.fieldLink RX1 13 "StyleRows$Events" "rows" "[[I", Cond.instanceMethod yX5_init, Cond.code yX5_init cX5_init 1 none, Cond.methodLink RX5 3 objectInit, Cond.arrayClass .long, Cond.fieldLink RX5 11 "StyleRows$Order" "keys" "[J", Cond.fieldLink RX5 17 "StyleRows$Order" "spare" "[J"]
def wsX11_init : List Cond := .code yX11_init cX11_init 3 none :: ((wsX11_init_r1 ++ (wsX11_init_r2 ++ (wsX11_init_r3 ++ (wsX11_init_r4 ++ wsX11_init_r5)))) ++ wsX110 ++ wsX90 ++ wsX100 ++ wsX80 ++ wsX70 ++ wsX60 ++ wsX50 ++ wsX10 ++ wsX40 ++ wsX20 ++ wsX00)
def wsX11_isVoice : List Cond := .code yX11_isVoice cX11_isVoice 1 (some .boolean) :: ([.methodLink RX11 66 yX11_isWithin, .static yX11_isWithin, .initialized RX11, .code yX11_isWithin cX11_isWithin 3 (some .boolean)])
def wsX11_note : List Cond := .code yX11_note cX11_note 6 (some .int) :: ([.fieldLink RX11 16 "StyleRows" "score" "LStyleRows$Score;", .methodLink RX11 62 yX11_isVoice, .static yX11_isVoice, .initialized RX11, .code yX11_isVoice cX11_isVoice 1 (some .boolean), .methodLink RX11 66 yX11_isWithin, .static yX11_isWithin, .code yX11_isWithin cX11_isWithin 3 (some .boolean), .methodLink RX11 76 yX4_add, .instanceMethod yX4_add, .selects RX4 yX4_add yX4_add, .initialized RX4, .code yX4_add cX4_add 6 (some .int), .fieldLink RX4 27 "StyleRows$Notes" "howMany" "I", .fieldLink RX4 11 "StyleRows$Notes" "voices" "[I", .fieldLink RX4 15 "StyleRows$Notes" "starts" "[I", .fieldLink RX4 18 "StyleRows$Notes" "lengths" "[I", .fieldLink RX4 21 "StyleRows$Notes" "pitches" "[I", .fieldLink RX4 24 "StyleRows$Notes" "marks" "[I"] ++ wsX110 ++ wsX90 ++ wsX40)
def wsX11_mark : List Cond := .code yX11_mark cX11_mark 3 (some .int) :: ([.fieldLink RX11 16 "StyleRows" "score" "LStyleRows$Score;", .methodLink RX11 80 yX4_has, .instanceMethod yX4_has, .selects RX4 yX4_has yX4_has, .initialized RX4, .code yX4_has cX4_has 2 (some .boolean), .fieldLink RX4 27 "StyleRows$Notes" "howMany" "I", .static yX11_isWithin, .initialized RX11, .code yX11_isWithin cX11_isWithin 3 (some .boolean), .methodLink RX11 66 yX11_isWithin, .methodLink RX11 83 yX4_changeMarks, .instanceMethod yX4_changeMarks, .selects RX4 yX4_changeMarks yX4_changeMarks, .code yX4_changeMarks cX4_changeMarks 4 (some .int), .fieldLink RX4 24 "StyleRows$Notes" "marks" "[I"] ++ wsX110 ++ wsX90 ++ wsX40)
def wsX11_isTick : List Cond := .code yX11_isTick cX11_isTick 1 (some .boolean) :: ([.methodLink RX11 66 yX11_isWithin, .static yX11_isWithin, .initialized RX11, .code yX11_isWithin cX11_isWithin 3 (some .boolean)])
def wsX11_level : List Cond := .code yX11_level cX11_level 4 (some .int) :: ([.fieldLink RX11 16 "StyleRows" "score" "LStyleRows$Score;", .methodLink RX11 87 yX11_isTick, .static yX11_isTick, .initialized RX11, .code yX11_isTick cX11_isTick 1 (some .boolean), .methodLink RX11 66 yX11_isWithin, .static yX11_isWithin, .code yX11_isWithin cX11_isWithin 3 (some .boolean), .methodLink RX11 94 yX2_put, .instanceMethod yX2_put, .selects RX2 yX2_put yX2_put, .initialized RX2, .code yX2_put cX2_put 6 (some .int), .fieldLink RX2 22 "StyleRows$Levels" "howMany" "I", .fieldLink RX2 11 "StyleRows$Levels" "ticks" "[I", .fieldLink RX2 15 "StyleRows$Levels" "heights" "[I", .fieldLink RX2 18 "StyleRows$Levels" "swelling" "[Z", .methodLink RX2 26 yX2_moveUpFrom, .instanceMethod yX2_moveUpFrom, .selects RX2 yX2_moveUpFrom yX2_moveUpFrom, .code yX2_moveUpFrom cX2_moveUpFrom 3 none] ++ wsX110 ++ wsX90 ++ wsX20)
def wsX11_meter : List Cond := .code yX11_meter cX11_meter 3 (some .int) :: ([.fieldLink RX11 16 "StyleRows" "score" "LStyleRows$Score;", .methodLink RX11 66 yX11_isWithin, .static yX11_isWithin, .initialized RX11, .code yX11_isWithin cX11_isWithin 3 (some .boolean), .methodLink RX11 100 yX9_beat, .instanceMethod yX9_beat, .selects RX9 yX9_beat yX9_beat, .initialized RX9, .code yX9_beat cX9_beat 3 none, .fieldLink RX9 30 "StyleRows$Score" "beats" "I", .fieldLink RX9 34 "StyleRows$Score" "unit" "I"] ++ wsX110 ++ wsX90)
def wsX11_arc_r1 : List Cond := [Cond.fieldLink RX11 16 "StyleRows" "score" "LStyleRows$Score;", Cond.methodLink RX11 87 yX11_isTick, Cond.static yX11_isTick, Cond.initialized RX11, Cond.code yX11_isTick cX11_isTick 1 (some .boolean), Cond.methodLink RX11 66 yX11_isWithin, Cond.static yX11_isWithin, Cond.code yX11_isWithin cX11_isWithin 3 (some .boolean), Cond.methodLink RX11 108 yX0_shareWith, Cond.instanceMethod yX0_shareWith, Cond.selects RX0 yX0_shareWith yX0_shareWith, Cond.initialized RX0, Cond.code yX0_shareWith cX0_shareWith 4 (some .boolean), Cond.fieldLink RX0 21 "StyleRows$Arcs" "howMany" "I", Cond.fieldLink RX0 11 "StyleRows$Arcs" "froms" "[I", Cond.methodLink RX0 25 Lib.Math.max.name, Cond.static Lib.Math.max.name, Cond.initialized "java/lang/Math", Cond.code Lib.Math.max.name Lib.Math.max.code 2 (some .int), Cond.fieldLink RX0 15 "StyleRows$Arcs" "tos" "[I", Cond.methodLink RX0 31 Lib.Math.min.name, Cond.static Lib.Math.min.name, Cond.code Lib.Math.min.name Lib.Math.min.code 2 (some .int), Cond.methodLink RX11 114 yX0_add]
def wsX11_arc_r2 : List Cond := [Cond.instanceMethod yX0_add, Cond.selects RX0 yX0_add yX0_add, Cond.code yX0_add cX0_add 4 (some .int), Cond.fieldLink RX0 18 "StyleRows$Arcs" "bys" "[I"]
def wsX11_arc : List Cond := .code yX11_arc cX11_arc 4 (some .int) :: ((wsX11_arc_r1 ++ wsX11_arc_r2) ++ wsX110 ++ wsX90 ++ wsX00)
def wsX11_levelAt : List Cond := .code yX11_levelAt cX11_levelAt 2 (some .int) :: ([.fieldLink RX11 16 "StyleRows" "score" "LStyleRows$Score;", .methodLink RX11 87 yX11_isTick, .static yX11_isTick, .initialized RX11, .code yX11_isTick cX11_isTick 1 (some .boolean), .methodLink RX11 66 yX11_isWithin, .static yX11_isWithin, .code yX11_isWithin cX11_isWithin 3 (some .boolean), .methodLink RX11 117 yX2_at, .instanceMethod yX2_at, .selects RX2 yX2_at yX2_at, .initialized RX2, .code yX2_at cX2_at 6 (some .int), .fieldLink RX2 22 "StyleRows$Levels" "howMany" "I", .fieldLink RX2 11 "StyleRows$Levels" "ticks" "[I", .fieldLink RX2 18 "StyleRows$Levels" "swelling" "[Z", .fieldLink RX2 15 "StyleRows$Levels" "heights" "[I", .static yX11_quotient, .code yX11_quotient cX11_quotient 4 (some .int), .methodLink RX11 202 yJ9_floorDiv_f86c9, .static yJ9_floorDiv_f86c9, .initialized RJ9, .code yJ9_floorDiv_f86c9 cJ9_floorDiv_f86c9 6 (some .long)] ++ wsX110 ++ wsX90 ++ wsX20)
def wsX11_timeOf : List Cond := .code yX11_timeOf cX11_timeOf 2 (some .int) :: ([.fieldLink RX11 16 "StyleRows" "score" "LStyleRows$Score;", .methodLink RX11 87 yX11_isTick, .static yX11_isTick, .initialized RX11, .code yX11_isTick cX11_isTick 1 (some .boolean), .methodLink RX11 66 yX11_isWithin, .static yX11_isWithin, .code yX11_isWithin cX11_isWithin 3 (some .boolean), .methodLink RX11 121 yX0_bent, .instanceMethod yX0_bent, .selects RX0 yX0_bent yX0_bent, .initialized RX0, .code yX0_bent cX0_bent 5 (some .int), .fieldLink RX0 21 "StyleRows$Arcs" "howMany" "I", .fieldLink RX0 11 "StyleRows$Arcs" "froms" "[I", .fieldLink RX0 15 "StyleRows$Arcs" "tos" "[I", .constantLong RX0 38 (4), .fieldLink RX0 18 "StyleRows$Arcs" "bys" "[I", .static yX11_quotient, .code yX11_quotient cX11_quotient 4 (some .int), .methodLink RX11 202 yJ9_floorDiv_f86c9, .static yJ9_floorDiv_f86c9, .initialized RJ9, .code yJ9_floorDiv_f86c9 cJ9_floorDiv_f86c9 6 (some .long)] ++ wsX110 ++ wsX90 ++ wsX00)
def wsX11_feed : List Cond := .code yX11_feed cX11_feed 4 (some .int) :: ([.fieldLink RX11 23 "StyleRows" "tape" "LStyleRows$Tape;", .methodLink RX11 66 yX11_isWithin, .static yX11_isWithin, .initialized RX11, .code yX11_isWithin cX11_isWithin 3 (some .boolean), .methodLink RX11 124 yX10_append, .instanceMethod yX10_append, .selects RX10 yX10_append yX10_append, .initialized RX10, .code yX10_append cX10_append 5 (some .int), .fieldLink RX10 15 "StyleRows$Tape" "length" "I", .fieldLink RX10 11 "StyleRows$Tape" "bytes" "[B"] ++ wsX110 ++ wsX100)
def wsX11_read_r1 : List Cond := [Cond.fieldLink RX11 37 "StyleRows" "reader" "LStyleRows$Reader;", Cond.fieldLink RX11 23 "StyleRows" "tape" "LStyleRows$Tape;", Cond.fieldLink RX11 30 "StyleRows" "rules" "LStyleRows$Rules;", Cond.methodLink RX11 128 yX7_findFault, Cond.instanceMethod yX7_findFault, Cond.selects RX7 yX7_findFault yX7_findFault, Cond.initialized RX7, Cond.code yX7_findFault cX7_findFault 4 (some .int), Cond.fieldLink RX7 14 "StyleRows$Reader" "to" "I", Cond.fieldLink RX7 24 "StyleRows$Reader" "kind" "I", Cond.fieldLink RX7 31 "StyleRows$Reader" "from" "I", Cond.methodLink RX7 9 yX8_dropStaged, Cond.instanceMethod yX8_dropStaged, Cond.selects RX8 yX8_dropStaged yX8_dropStaged, Cond.initialized RX8, Cond.code yX8_dropStaged cX8_dropStaged 1 none, Cond.fieldLink RX8 26 "StyleRows$Rules" "howMany" "I", Cond.fieldLink RX8 30 "StyleRows$Rules" "withStaged" "I", Cond.methodLink RX7 20 yX7_takePiece, Cond.instanceMethod yX7_takePiece, Cond.selects RX7 yX7_takePiece yX7_takePiece, Cond.code yX7_takePiece cX7_takePiece 2 none, Cond.methodLink RX7 103 yX7_kindAt, Cond.static yX7_kindAt]
def wsX11_read_r2 : List Cond := [Cond.code yX7_kindAt cX7_kindAt 3 (some .int), Cond.methodLink RX7 66 yX10_at, Cond.instanceMethod yX10_at, Cond.selects RX10 yX10_at yX10_at, Cond.initialized RX10, Cond.code yX10_at cX10_at 2 (some .int), Cond.fieldLink RX10 15 "StyleRows$Tape" "length" "I", Cond.fieldLink RX10 11 "StyleRows$Tape" "bytes" "[B", Cond.static yX11_isWithin, Cond.initialized RX11, Cond.code yX11_isWithin cX11_isWithin 3 (some .boolean), Cond.methodLink RX7 27 yX7_takeRule, Cond.instanceMethod yX7_takeRule, Cond.selects RX7 yX7_takeRule yX7_takeRule, Cond.code yX7_takeRule cX7_takeRule 7 (some .boolean), Cond.fieldLink RX7 48 "StyleRows$Reader" "number" "I", Cond.methodLink RX7 34 yX8_areFull, Cond.instanceMethod yX8_areFull, Cond.selects RX8 yX8_areFull yX8_areFull, Cond.code yX8_areFull cX8_areFull 1 (some .boolean), Cond.methodLink RX7 40 yX7_isWord, Cond.instanceMethod yX7_isWord, Cond.selects RX7 yX7_isWord yX7_isWord, Cond.code yX7_isWord cX7_isWord 4 (some .boolean)]
def wsX11_read_r3 : List Cond := [Cond.methodLink RX7 91 yJ0_length_8abf5, Cond.instanceMethod yJ0_length_8abf5, Cond.selects RJ0 yJ0_length_8abf5 yJ0_length_8abf5, Cond.initialized RJ0, Cond.code yJ0_length_8abf5 cJ0_length_8abf5 1 (some .int), Cond.fieldLink RJ0 9 "java/lang/String" "value" "[B", Cond.methodLink RJ0 335 yJ0_coder_7d493, Cond.instanceMethod yJ0_coder_7d493, Cond.selects RJ0 yJ0_coder_7d493 yJ0_coder_7d493, Cond.code yJ0_coder_7d493 cJ0_coder_7d493 1 (some .byte), Cond.fieldLink RJ0 38 "java/lang/String" "COMPACT_STRINGS" "Z", Cond.fieldLink RJ0 15 "java/lang/String" "coder" "B", Cond.methodLink RX7 97 yJ0_charAt_5068e, Cond.instanceMethod yJ0_charAt_5068e, Cond.selects RJ0 yJ0_charAt_5068e yJ0_charAt_5068e, Cond.code yJ0_charAt_5068e cJ0_charAt_5068e 2 (some .char), Cond.methodLink RJ0 492 yJ0_isLatin1_aae02, Cond.instanceMethod yJ0_isLatin1_aae02, Cond.selects RJ0 yJ0_isLatin1_aae02 yJ0_isLatin1_aae02, Cond.code yJ0_isLatin1_aae02 cJ0_isLatin1_aae02 1 (some .boolean), Cond.methodLink RJ0 495 yJ1_charAt_3b067, Cond.static yJ1_charAt_3b067, Cond.initialized RJ1, Cond.code yJ1_charAt_3b067 cJ1_charAt_3b067 2 (some .char)]
def wsX11_read_r4 : List Cond := [Cond.methodLink RJ1 9 yJ0_checkIndex_df160, Cond.static yJ0_checkIndex_df160, Cond.code yJ0_checkIndex_df160 cJ0_checkIndex_df160 2 none, Cond.fieldLink RJ0 1053 "jdk/internal/util/Preconditions" "SIOOBE_FORMATTER" "Ljava/util/function/BiFunction;", Cond.methodLink RJ0 1059 yJ3_checkIndex_8e157, Cond.static yJ3_checkIndex_8e157, Cond.initialized RJ3, Cond.code yJ3_checkIndex_8e157 cJ3_checkIndex_8e157 3 (some .int), Cond.methodLink RJ0 498 yJ2_charAt_3b067, Cond.static yJ2_charAt_3b067, Cond.initialized RJ2, Cond.code yJ2_charAt_3b067 cJ2_charAt_3b067 2 (some .char), Cond.methodLink RJ2 67 yJ2_checkIndex_2214a, Cond.static yJ2_checkIndex_2214a, Cond.code yJ2_checkIndex_2214a cJ2_checkIndex_2214a 2 none, Cond.methodLink RJ2 48 yJ2_length_9d52b, Cond.static yJ2_length_9d52b, Cond.code yJ2_length_9d52b cJ2_length_9d52b 1 (some .int), Cond.methodLink RJ2 414 yJ0_checkIndex_df160, Cond.methodLink RJ2 71 yJ2_getChar_3b067, Cond.static yJ2_getChar_3b067, Cond.code yJ2_getChar_3b067 cJ2_getChar_3b067 2 (some .char), Cond.fieldLink RJ2 44 "java/lang/StringUTF16" "$assertionsDisabled" "Z", Cond.fieldLink RJ2 59 "java/lang/StringUTF16" "HI_BYTE_SHIFT" "I"]
def wsX11_read_r5 : List Cond := [Cond.fieldLink RJ2 63 "java/lang/StringUTF16" "LO_BYTE_SHIFT" "I", Cond.methodLink RX7 44 yX7_takeNumber, Cond.instanceMethod yX7_takeNumber, Cond.selects RX7 yX7_takeNumber yX7_takeNumber, Cond.code yX7_takeNumber cX7_takeNumber 5 (some .boolean), Cond.constant RX7 76 (1000000), Cond.methodLink RX7 77 Lib.Math.min.name, Cond.static Lib.Math.min.name, Cond.initialized "java/lang/Math", Cond.code Lib.Math.min.name Lib.Math.min.code 2 (some .int), Cond.methodLink RX7 51 yX7_nameThere, Cond.instanceMethod yX7_nameThere, Cond.selects RX7 yX7_nameThere yX7_nameThere, Cond.code yX7_nameThere cX7_nameThere 3 (some .int), Cond.methodLink RX7 87 yX3_wordOf, Cond.static yX3_wordOf, Cond.initialized RX3, Cond.code yX3_wordOf cX3_wordOf 1 (some (.object "java/lang/String")), Cond.methodLink RX7 72 yX8_stage, Cond.instanceMethod yX8_stage, Cond.selects RX8 yX8_stage yX8_stage, Cond.code yX8_stage cX8_stage 5 none, Cond.fieldLink RX8 13 "StyleRows$Rules" "rows" "[[I", Cond.methodLink RX8 44 yX8_areFull]
def wsX11_read_r6 : List Cond := [Cond.methodLink RX11 132 yX10_clear, Cond.instanceMethod yX10_clear, Cond.selects RX10 yX10_clear yX10_clear, Cond.code yX10_clear cX10_clear 1 none, Cond.methodLink RX11 135 yX8_keepStaged, Cond.instanceMethod yX8_keepStaged, Cond.selects RX8 yX8_keepStaged yX8_keepStaged, Cond.code yX8_keepStaged cX8_keepStaged 2 (some .int), Cond.methodLink RX8 48 yX8_letCount, Cond.instanceMethod yX8_letCount, Cond.selects RX8 yX8_letCount yX8_letCount, Cond.code yX8_letCount cX8_letCount 5 none, Cond.fieldLink RX8 18 "StyleRows$Rules" "counting" "[I", Cond.methodLink RX8 52 yX8_isOutrankedBy, Cond.instanceMethod yX8_isOutrankedBy, Cond.selects RX8 yX8_isOutrankedBy yX8_isOutrankedBy, Cond.code yX8_isOutrankedBy cX8_isOutrankedBy 3 (some .boolean)]
def wsX11_read : List Cond := .code yX11_read cX11_read 2 (some .int) :: ((wsX11_read_r1 ++ (wsX11_read_r2 ++ (wsX11_read_r3 ++ (wsX11_read_r4 ++ (wsX11_read_r5 ++ wsX11_read_r6))))) ++ wsX110 ++ wsX70 ++ wsX80 ++ wsX100)
def wsX11_plain : List Cond := .code yX11_plain cX11_plain 1 (some .int) :: ([.fieldLink RX11 30 "StyleRows" "rules" "LStyleRows$Rules;", .methodLink RX11 139 yX8_clear, .instanceMethod yX8_clear, .selects RX8 yX8_clear yX8_clear, .initialized RX8, .code yX8_clear cX8_clear 3 (some .int), .fieldLink RX8 26 "StyleRows$Rules" "howMany" "I", .fieldLink RX8 30 "StyleRows$Rules" "withStaged" "I", .fieldLink RX8 18 "StyleRows$Rules" "counting" "[I"] ++ wsX110 ++ wsX80)
def wsX11_rule : List Cond := .code yX11_rule cX11_rule 3 (some .int) :: ([.fieldLink RX11 30 "StyleRows" "rules" "LStyleRows$Rules;", .methodLink RX11 141 yX8_has, .instanceMethod yX8_has, .selects RX8 yX8_has yX8_has, .initialized RX8, .code yX8_has cX8_has 2 (some .boolean), .fieldLink RX8 26 "StyleRows$Rules" "howMany" "I", .static yX11_isWithin, .initialized RX11, .code yX11_isWithin cX11_isWithin 3 (some .boolean), .methodLink RX11 66 yX11_isWithin] ++ wsX110 ++ wsX80)
def wsX11_value : List Cond := .code yX11_value cX11_value 3 (some .int) :: ([.fieldLink RX11 30 "StyleRows" "rules" "LStyleRows$Rules;", .methodLink RX11 62 yX11_isVoice, .static yX11_isVoice, .initialized RX11, .code yX11_isVoice cX11_isVoice 1 (some .boolean), .methodLink RX11 66 yX11_isWithin, .static yX11_isWithin, .code yX11_isWithin cX11_isWithin 3 (some .boolean), .methodLink RX11 146 yX3_has, .static yX3_has, .initialized RX3, .code yX3_has cX3_has 1 (some .boolean), .methodLink RX11 149 yX8_numberFor, .instanceMethod yX8_numberFor, .selects RX8 yX8_numberFor yX8_numberFor, .initialized RX8, .code yX8_numberFor cX8_numberFor 4 (some .int), .fieldLink RX8 13 "StyleRows$Rules" "rows" "[[I", .methodLink RX8 37 yX8_countingFor, .instanceMethod yX8_countingFor, .selects RX8 yX8_countingFor yX8_countingFor, .code yX8_countingFor cX8_countingFor 3 (some .int), .fieldLink RX8 18 "StyleRows$Rules" "counting" "[I"] ++ wsX110 ++ wsX80)
def wsX11_why : List Cond := .code yX11_why cX11_why 3 (some .int) :: ([.fieldLink RX11 30 "StyleRows" "rules" "LStyleRows$Rules;", .methodLink RX11 62 yX11_isVoice, .static yX11_isVoice, .initialized RX11, .code yX11_isVoice cX11_isVoice 1 (some .boolean), .methodLink RX11 66 yX11_isWithin, .static yX11_isWithin, .code yX11_isWithin cX11_isWithin 3 (some .boolean), .methodLink RX11 146 yX3_has, .static yX3_has, .initialized RX3, .code yX3_has cX3_has 1 (some .boolean), .methodLink RX11 152 yX8_countingFor, .instanceMethod yX8_countingFor, .selects RX8 yX8_countingFor yX8_countingFor, .initialized RX8, .code yX8_countingFor cX8_countingFor 3 (some .int), .fieldLink RX8 18 "StyleRows$Rules" "counting" "[I"] ++ wsX110 ++ wsX80)
def wsX11_perform_r1 : List Cond := [Cond.fieldLink RX11 44 "StyleRows" "performer" "LStyleRows$Performer;", Cond.fieldLink RX11 16 "StyleRows" "score" "LStyleRows$Score;", Cond.fieldLink RX11 30 "StyleRows" "rules" "LStyleRows$Rules;", Cond.fieldLink RX11 7 "StyleRows" "seed" "J", Cond.fieldLink RX11 51 "StyleRows" "order" "LStyleRows$Order;", Cond.fieldLink RX11 58 "StyleRows" "events" "LStyleRows$Events;", Cond.methodLink RX11 155 yX6_makeParts, Cond.instanceMethod yX6_makeParts, Cond.selects RX6 yX6_makeParts yX6_makeParts, Cond.initialized RX6, Cond.code yX6_makeParts cX6_makeParts 6 (some .boolean), Cond.fieldLink RX6 10 "StyleRows$Performer" "parts" "LStyleRows$Events;", Cond.fieldLink RX6 47 "StyleRows$Performer" "left" "I", Cond.fieldLink RX6 57 "StyleRows$Performer" "loud" "I", Cond.fieldLink RX6 64 "StyleRows$Performer" "on" "I", Cond.methodLink RX6 16 yX1_clear, Cond.instanceMethod yX1_clear, Cond.selects RX1 yX1_clear yX1_clear, Cond.initialized RX1, Cond.code yX1_clear cX1_clear 1 none, Cond.fieldLink RX1 16 "StyleRows$Events" "howMany" "I", Cond.fieldLink RX1 20 "StyleRows$Events" "tooMany" "Z", Cond.methodLink RX6 35 yX6_takeNote, Cond.instanceMethod yX6_takeNote]
def wsX11_perform_r2 : List Cond := [Cond.selects RX6 yX6_takeNote yX6_takeNote, Cond.code yX6_takeNote cX6_takeNote 3 none, Cond.fieldLink RX6 71 "StyleRows$Performer" "note" "I", Cond.fieldLink RX6 77 "StyleRows$Performer" "voice" "I", Cond.fieldLink RX6 83 "StyleRows$Performer" "pitch" "I", Cond.fieldLink RX6 89 "StyleRows$Performer" "marks" "I", Cond.methodLink RX6 43 yX6_longOf, Cond.instanceMethod yX6_longOf, Cond.selects RX6 yX6_longOf yX6_longOf, Cond.code yX6_longOf cX6_longOf 6 (some .int), Cond.methodLink RX6 103 Lib.Math.min.name, Cond.static Lib.Math.min.name, Cond.initialized "java/lang/Math", Cond.code Lib.Math.min.name Lib.Math.min.code 2 (some .int), Cond.methodLink RX6 108 Lib.Math.max.name, Cond.static Lib.Math.max.name, Cond.code Lib.Math.max.name Lib.Math.max.code 2 (some .int), Cond.methodLink RX6 91 yX6_isMarked, Cond.instanceMethod yX6_isMarked, Cond.selects RX6 yX6_isMarked yX6_isMarked, Cond.code yX6_isMarked cX6_isMarked 2 (some .boolean), Cond.methodLink RX6 97 yX8_numberFor, Cond.instanceMethod yX8_numberFor, Cond.selects RX8 yX8_numberFor yX8_numberFor]
def wsX11_perform_r3 : List Cond := [Cond.initialized RX8, Cond.code yX8_numberFor cX8_numberFor 4 (some .int), Cond.fieldLink RX8 13 "StyleRows$Rules" "rows" "[[I", Cond.methodLink RX8 37 yX8_countingFor, Cond.instanceMethod yX8_countingFor, Cond.selects RX8 yX8_countingFor yX8_countingFor, Cond.code yX8_countingFor cX8_countingFor 3 (some .int), Cond.fieldLink RX8 18 "StyleRows$Rules" "counting" "[I", Cond.methodLink RX6 53 yX6_loudOf, Cond.instanceMethod yX6_loudOf, Cond.selects RX6 yX6_loudOf yX6_loudOf, Cond.code yX6_loudOf cX6_loudOf 5 (some .int), Cond.methodLink RX6 115 yX2_at, Cond.instanceMethod yX2_at, Cond.selects RX2 yX2_at yX2_at, Cond.initialized RX2, Cond.code yX2_at cX2_at 6 (some .int), Cond.fieldLink RX2 22 "StyleRows$Levels" "howMany" "I", Cond.fieldLink RX2 11 "StyleRows$Levels" "ticks" "[I", Cond.fieldLink RX2 18 "StyleRows$Levels" "swelling" "[Z", Cond.fieldLink RX2 15 "StyleRows$Levels" "heights" "[I", Cond.static yX11_quotient, Cond.initialized RX11, Cond.code yX11_quotient cX11_quotient 4 (some .int)]
def wsX11_perform_r4 : List Cond := [Cond.methodLink RX11 202 yJ9_floorDiv_f86c9, Cond.static yJ9_floorDiv_f86c9, Cond.initialized RJ9, Cond.code yJ9_floorDiv_f86c9 cJ9_floorDiv_f86c9 6 (some .long), Cond.methodLink RX6 121 yX9_beginsBar, Cond.instanceMethod yX9_beginsBar, Cond.selects RX9 yX9_beginsBar yX9_beginsBar, Cond.initialized RX9, Cond.code yX9_beginsBar cX9_beginsBar 2 (some .boolean), Cond.fieldLink RX9 30 "StyleRows$Score" "beats" "I", Cond.fieldLink RX9 34 "StyleRows$Score" "unit" "I", Cond.methodLink RX9 37 yX9_isMultiple, Cond.static yX9_isMultiple, Cond.code yX9_isMultiple cX9_isMultiple 2 (some .boolean), Cond.methodLink RX6 124 yX9_beginsBeat, Cond.instanceMethod yX9_beginsBeat, Cond.selects RX9 yX9_beginsBeat yX9_beginsBeat, Cond.code yX9_beginsBeat cX9_beginsBeat 2 (some .boolean), Cond.methodLink RX6 60 yX6_onOf, Cond.instanceMethod yX6_onOf, Cond.selects RX6 yX6_onOf yX6_onOf, Cond.code yX6_onOf cX6_onOf 6 (some .int), Cond.methodLink RX6 127 yX6_drawOf, Cond.instanceMethod yX6_drawOf]
def wsX11_perform_r5 : List Cond := [Cond.selects RX6 yX6_drawOf yX6_drawOf, Cond.code yX6_drawOf cX6_drawOf 6 (some .int), Cond.constantLong RX6 131 (-7046029254386353131), Cond.constantLong RX6 133 (-4658895280553007687), Cond.constantLong RX6 135 (2), Cond.methodLink RX6 137 yJ9_floorMod_f86c9, Cond.static yJ9_floorMod_f86c9, Cond.code yJ9_floorMod_f86c9 cJ9_floorMod_f86c9 6 (some .long), Cond.methodLink RX6 67 yX6_addParts, Cond.instanceMethod yX6_addParts, Cond.selects RX6 yX6_addParts yX6_addParts, Cond.code yX6_addParts cX6_addParts 3 none, Cond.methodLink RX6 141 yX6_roll, Cond.instanceMethod yX6_roll, Cond.selects RX6 yX6_roll yX6_roll, Cond.code yX6_roll cX6_roll 4 none, Cond.methodLink RX6 159 yX4_rolledAhead, Cond.instanceMethod yX4_rolledAhead, Cond.selects RX4 yX4_rolledAhead yX4_rolledAhead, Cond.initialized RX4, Cond.code yX4_rolledAhead cX4_rolledAhead 4 (some .int), Cond.fieldLink RX4 27 "StyleRows$Notes" "howMany" "I", Cond.methodLink RX4 35 yX4_isInChord, Cond.instanceMethod yX4_isInChord]
def wsX11_perform_r6 : List Cond := [Cond.selects RX4 yX4_isInChord yX4_isInChord, Cond.code yX4_isInChord cX4_isInChord 4 (some .boolean), Cond.fieldLink RX4 24 "StyleRows$Notes" "marks" "[I", Cond.fieldLink RX4 11 "StyleRows$Notes" "voices" "[I", Cond.fieldLink RX4 15 "StyleRows$Notes" "starts" "[I", Cond.methodLink RX4 39 yX4_isLower, Cond.instanceMethod yX4_isLower, Cond.selects RX4 yX4_isLower yX4_isLower, Cond.code yX4_isLower cX4_isLower 3 (some .boolean), Cond.fieldLink RX4 21 "StyleRows$Notes" "pitches" "[I", Cond.methodLink RX6 144 yX6_addLean, Cond.instanceMethod yX6_addLean, Cond.selects RX6 yX6_addLean yX6_addLean, Cond.code yX6_addLean cX6_addLean 3 none, Cond.methodLink RX6 155 yX6_addPart, Cond.instanceMethod yX6_addPart, Cond.selects RX6 yX6_addPart yX6_addPart, Cond.code yX6_addPart cX6_addPart 5 none, Cond.methodLink RX6 168 yX1_add, Cond.instanceMethod yX1_add, Cond.selects RX1 yX1_add yX1_add, Cond.code yX1_add cX1_add 8 none, Cond.fieldLink RX1 13 "StyleRows$Events" "rows" "[[I", Cond.methodLink RX6 148 yX6_addTrill]
def wsX11_perform_r7 : List Cond := [Cond.instanceMethod yX6_addTrill, Cond.selects RX6 yX6_addTrill yX6_addTrill, Cond.code yX6_addTrill cX6_addTrill 7 (some .boolean), Cond.methodLink RX6 152 yX6_addTurn, Cond.instanceMethod yX6_addTurn, Cond.selects RX6 yX6_addTurn yX6_addTurn, Cond.code yX6_addTurn cX6_addTurn 3 (some .boolean), Cond.methodLink RX11 162 yX1_bend, Cond.instanceMethod yX1_bend, Cond.selects RX1 yX1_bend yX1_bend, Cond.code yX1_bend cX1_bend 5 none, Cond.methodLink RX1 34 Lib.Math.max.name, Cond.methodLink RX1 28 yX0_bent, Cond.instanceMethod yX0_bent, Cond.selects RX0 yX0_bent yX0_bent, Cond.initialized RX0, Cond.code yX0_bent cX0_bent 5 (some .int), Cond.fieldLink RX0 21 "StyleRows$Arcs" "howMany" "I", Cond.fieldLink RX0 11 "StyleRows$Arcs" "froms" "[I", Cond.fieldLink RX0 15 "StyleRows$Arcs" "tos" "[I", Cond.constantLong RX0 38 (4), Cond.fieldLink RX0 18 "StyleRows$Arcs" "bys" "[I", Cond.static yX11_isWithin, Cond.code yX11_isWithin cX11_isWithin 3 (some .boolean)]
def wsX11_perform_r8 : List Cond := [Cond.methodLink RX11 166 yX5_sort, Cond.instanceMethod yX5_sort, Cond.selects RX5 yX5_sort yX5_sort, Cond.initialized RX5, Cond.code yX5_sort cX5_sort 5 none, Cond.fieldLink RX5 11 "StyleRows$Order" "keys" "[J", Cond.methodLink RX5 28 Lib.Math.min.name, Cond.fieldLink RX5 17 "StyleRows$Order" "spare" "[J", Cond.methodLink RX5 24 yX5_keyOf, Cond.static yX5_keyOf, Cond.code yX5_keyOf cX5_keyOf 4 (some .long), Cond.constantLong RX5 42 (4), Cond.constantLong RX5 44 (128), Cond.constantLong RX5 46 (400), Cond.methodLink RX5 34 yX5_merge, Cond.instanceMethod yX5_merge, Cond.selects RX5 yX5_merge yX5_merge, Cond.code yX5_merge cX5_merge 7 none, Cond.methodLink RX11 170 yX1_takeInOrder, Cond.instanceMethod yX1_takeInOrder, Cond.selects RX1 yX1_takeInOrder yX1_takeInOrder, Cond.code yX1_takeInOrder cX1_takeInOrder 6 none, Cond.methodLink RX1 40 yX5_partAt, Cond.instanceMethod yX5_partAt]
def wsX11_perform_r9 : List Cond := [Cond.selects RX5 yX5_partAt yX5_partAt, Cond.code yX5_partAt cX5_partAt 2 (some .int), Cond.methodLink RX5 48 yJ9_floorMod_1978a, Cond.static yJ9_floorMod_1978a, Cond.code yJ9_floorMod_1978a cJ9_floorMod_1978a 3 (some .int), Cond.methodLink RJ9 146 yJ9_floorMod_f86c9, Cond.methodLink RX11 174 yX1_endAtRepeats, Cond.instanceMethod yX1_endAtRepeats, Cond.selects RX1 yX1_endAtRepeats yX1_endAtRepeats, Cond.code yX1_endAtRepeats cX1_endAtRepeats 2 none, Cond.methodLink RX1 45 yX1_endAtRepeat, Cond.instanceMethod yX1_endAtRepeat, Cond.selects RX1 yX1_endAtRepeat yX1_endAtRepeat, Cond.code yX1_endAtRepeat cX1_endAtRepeat 4 none, Cond.methodLink RX1 49 yX1_endOf, Cond.instanceMethod yX1_endOf, Cond.selects RX1 yX1_endOf yX1_endOf, Cond.code yX1_endOf cX1_endOf 2 (some .int), Cond.methodLink RX1 52 yX1_repeats, Cond.instanceMethod yX1_repeats, Cond.selects RX1 yX1_repeats yX1_repeats, Cond.code yX1_repeats cX1_repeats 4 (some .boolean)]
def wsX11_perform : List Cond := .code yX11_perform cX11_perform 2 (some .int) :: ((wsX11_perform_r1 ++ (wsX11_perform_r2 ++ (wsX11_perform_r3 ++ (wsX11_perform_r4 ++ (wsX11_perform_r5 ++ (wsX11_perform_r6 ++ (wsX11_perform_r7 ++ (wsX11_perform_r8 ++ wsX11_perform_r9)))))))) ++ wsX110 ++ wsX60 ++ wsX90 ++ wsX10 ++ wsX40 ++ wsX80 ++ wsX20 ++ wsX00 ++ wsX50)
def wsX11_event : List Cond := .code yX11_event cX11_event 3 (some .int) :: ([.fieldLink RX11 58 "StyleRows" "events" "LStyleRows$Events;", .methodLink RX11 181 yX1_has, .instanceMethod yX1_has, .selects RX1 yX1_has yX1_has, .initialized RX1, .code yX1_has cX1_has 2 (some .boolean), .fieldLink RX1 16 "StyleRows$Events" "howMany" "I", .static yX11_isWithin, .initialized RX11, .code yX11_isWithin cX11_isWithin 3 (some .boolean), .methodLink RX11 66 yX11_isWithin] ++ wsX110 ++ wsX10)
def wsX11_sounding : List Cond := .code yX11_sounding cX11_sounding 2 (some .int) :: ([.fieldLink RX11 58 "StyleRows" "events" "LStyleRows$Events;", .methodLink RX11 183 yX1_soundingAt, .instanceMethod yX1_soundingAt, .selects RX1 yX1_soundingAt yX1_soundingAt, .initialized RX1, .code yX1_soundingAt cX1_soundingAt 4 (some .int), .fieldLink RX1 16 "StyleRows$Events" "howMany" "I", .fieldLink RX1 13 "StyleRows$Events" "rows" "[[I", .methodLink RX1 49 yX1_endOf, .instanceMethod yX1_endOf, .selects RX1 yX1_endOf yX1_endOf, .code yX1_endOf cX1_endOf 2 (some .int)] ++ wsX110 ++ wsX10)
def wsX11_span_r1 : List Cond := [Cond.fieldLink RX11 16 "StyleRows" "score" "LStyleRows$Score;", Cond.fieldLink RX11 58 "StyleRows" "events" "LStyleRows$Events;", Cond.methodLink RX11 80 yX4_has, Cond.instanceMethod yX4_has, Cond.selects RX4 yX4_has yX4_has, Cond.initialized RX4, Cond.code yX4_has cX4_has 2 (some .boolean), Cond.fieldLink RX4 27 "StyleRows$Notes" "howMany" "I", Cond.static yX11_isWithin, Cond.initialized RX11, Cond.code yX11_isWithin cX11_isWithin 3 (some .boolean), Cond.methodLink RX11 186 yX1_howManyOf, Cond.instanceMethod yX1_howManyOf, Cond.selects RX1 yX1_howManyOf yX1_howManyOf, Cond.initialized RX1, Cond.code yX1_howManyOf cX1_howManyOf 4 (some .int), Cond.fieldLink RX1 16 "StyleRows$Events" "howMany" "I", Cond.fieldLink RX1 13 "StyleRows$Events" "rows" "[[I", Cond.methodLink RX11 189 yX1_firstBeginOf, Cond.instanceMethod yX1_firstBeginOf, Cond.selects RX1 yX1_firstBeginOf yX1_firstBeginOf, Cond.code yX1_firstBeginOf cX1_firstBeginOf 3 (some .int), Cond.methodLink RX11 192 yX1_lastEndOf, Cond.instanceMethod yX1_lastEndOf]
def wsX11_span_r2 : List Cond := [Cond.selects RX1 yX1_lastEndOf yX1_lastEndOf, Cond.code yX1_lastEndOf cX1_lastEndOf 5 (some .int), Cond.methodLink RX1 49 yX1_endOf, Cond.instanceMethod yX1_endOf, Cond.selects RX1 yX1_endOf yX1_endOf, Cond.code yX1_endOf cX1_endOf 2 (some .int)]
def wsX11_span : List Cond := .code yX11_span cX11_span 3 (some .int) :: ((wsX11_span_r1 ++ wsX11_span_r2) ++ wsX110 ++ wsX90 ++ wsX40 ++ wsX10)
def wsX11_count : List Cond := .code yX11_count cX11_count 2 (some .int) :: ([.fieldLink RX11 16 "StyleRows" "score" "LStyleRows$Score;", .fieldLink RX11 30 "StyleRows" "rules" "LStyleRows$Rules;", .fieldLink RX11 58 "StyleRows" "events" "LStyleRows$Events;", .fieldLink RX11 23 "StyleRows" "tape" "LStyleRows$Tape;"] ++ wsX110 ++ wsX90 ++ wsX40 ++ wsX20 ++ wsX00 ++ wsX80 ++ wsX10 ++ wsX100)
def wsX12_init_r1 : List Cond := [Cond.methodLink RX12 1 objectInit, Cond.instanceMethod objectInit, Cond.code objectInit ⟨#[0xb1]⟩ 1 none, Cond.arrayClass .int, Cond.fieldLink RX12 7 "StyleRowsModel" "voice" "[I", Cond.fieldLink RX12 13 "StyleRowsModel" "start" "[I", Cond.fieldLink RX12 16 "StyleRowsModel" "length" "[I", Cond.fieldLink RX12 19 "StyleRowsModel" "pitch" "[I", Cond.fieldLink RX12 22 "StyleRowsModel" "marks" "[I", Cond.fieldLink RX12 25 "StyleRowsModel" "levelTick" "[I", Cond.fieldLink RX12 28 "StyleRowsModel" "levelHigh" "[I", Cond.arrayClass .boolean, Cond.fieldLink RX12 31 "StyleRowsModel" "levelSwells" "[Z", Cond.fieldLink RX12 35 "StyleRowsModel" "beats" "I", Cond.fieldLink RX12 39 "StyleRowsModel" "unit" "I", Cond.fieldLink RX12 42 "StyleRowsModel" "arcFrom" "[I", Cond.fieldLink RX12 45 "StyleRowsModel" "arcTo" "[I", Cond.fieldLink RX12 48 "StyleRowsModel" "arcBy" "[I", Cond.fieldLink RX12 51 "StyleRowsModel" "ruleVoice" "[I", Cond.fieldLink RX12 54 "StyleRowsModel" "ruleName" "[I", Cond.fieldLink RX12 57 "StyleRowsModel" "ruleNumber" "[I", Cond.fieldLink RX12 60 "StyleRowsModel" "ruleRank" "[I", Cond.fieldLink RX12 63 "StyleRowsModel" "tape" "[I", Cond.fieldLink RX12 66 "StyleRowsModel" "part" "[I"]
def wsX12_init_r2 : List Cond := [Cond.fieldLink RX12 69 "StyleRowsModel" "event" "[I", Cond.fieldLink RX12 72 "StyleRowsModel" "seed" "J"]
def wsX12_init : List Cond := .code yX12_init cX12_init 3 none :: ((wsX12_init_r1 ++ wsX12_init_r2) ++ wsX120)
def wsX12_in : List Cond := .code yX12_in cX12_in 6 (some .boolean) :: ([])
def wsX12_floor : List Cond := .code yX12_floor cX12_floor 6 (some .long) :: ([])
def wsX12_lesser : List Cond := .code yX12_lesser cX12_lesser 2 (some .int) :: ([])
def wsX12_note : List Cond := .code yX12_note cX12_note 6 (some .int) :: ([.constantLong RX12 76 (3), .constantLong RX12 82 (9600), .constantLong RX12 84 (960), .constantLong RX12 86 (12), .constantLong RX12 88 (115), .constantLong RX12 90 (127), .fieldLink RX12 92 "StyleRowsModel" "notes" "I", .fieldLink RX12 7 "StyleRowsModel" "voice" "[I", .fieldLink RX12 13 "StyleRowsModel" "start" "[I", .fieldLink RX12 16 "StyleRowsModel" "length" "[I", .fieldLink RX12 19 "StyleRowsModel" "pitch" "[I", .fieldLink RX12 22 "StyleRowsModel" "marks" "[I", .methodLink RX12 78 yX12_in, .static yX12_in, .initialized RX12, .code yX12_in cX12_in 6 (some .boolean)] ++ wsX120)
def wsX12_isNote : List Cond := .code yX12_isNote cX12_isNote 2 (some .boolean) :: ([.fieldLink RX12 92 "StyleRowsModel" "notes" "I", .methodLink RX12 78 yX12_in, .static yX12_in, .initialized RX12, .code yX12_in cX12_in 6 (some .boolean)] ++ wsX120)
def wsX12_mark : List Cond := .code yX12_mark cX12_mark 4 (some .int) :: ([.constantLong RX12 90 (127), .fieldLink RX12 22 "StyleRowsModel" "marks" "[I", .methodLink RX12 95 yX12_isNote, .instanceMethod yX12_isNote, .selects RX12 yX12_isNote yX12_isNote, .initialized RX12, .code yX12_isNote cX12_isNote 2 (some .boolean), .fieldLink RX12 92 "StyleRowsModel" "notes" "I", .methodLink RX12 78 yX12_in, .static yX12_in, .code yX12_in cX12_in 6 (some .boolean)] ++ wsX120)
def wsX12_level : List Cond := .code yX12_level cX12_level 6 (some .int) :: ([.constantLong RX12 99 (20000), .constantLong RX12 90 (127), .fieldLink RX12 101 "StyleRowsModel" "levels" "I", .fieldLink RX12 25 "StyleRowsModel" "levelTick" "[I", .fieldLink RX12 28 "StyleRowsModel" "levelHigh" "[I", .fieldLink RX12 31 "StyleRowsModel" "levelSwells" "[Z", .methodLink RX12 78 yX12_in, .static yX12_in, .initialized RX12, .code yX12_in cX12_in 6 (some .boolean)] ++ wsX120)
def wsX12_meter : List Cond := .code yX12_meter cX12_meter 3 (some .int) :: ([.constantLong RX12 86 (12), .constantLong RX12 84 (960), .fieldLink RX12 35 "StyleRowsModel" "beats" "I", .fieldLink RX12 39 "StyleRowsModel" "unit" "I", .methodLink RX12 78 yX12_in, .static yX12_in, .initialized RX12, .code yX12_in cX12_in 6 (some .boolean)] ++ wsX120)
def wsX12_arc : List Cond := .code yX12_arc cX12_arc 5 (some .int) :: ([.constantLong RX12 104 (-400), .constantLong RX12 106 (400), .fieldLink RX12 108 "StyleRowsModel" "arcs" "I", .fieldLink RX12 45 "StyleRowsModel" "arcTo" "[I", .fieldLink RX12 42 "StyleRowsModel" "arcFrom" "[I", .fieldLink RX12 48 "StyleRowsModel" "arcBy" "[I", .methodLink RX12 78 yX12_in, .static yX12_in, .initialized RX12, .code yX12_in cX12_in 6 (some .boolean)] ++ wsX120)
def wsX12_levelBy : List Cond := .code yX12_levelBy cX12_levelBy 6 (some .int) :: ([.fieldLink RX12 101 "StyleRowsModel" "levels" "I", .fieldLink RX12 25 "StyleRowsModel" "levelTick" "[I"] ++ wsX120)
def wsX12_highAt : List Cond := .code yX12_highAt cX12_highAt 4 (some .int) :: ([.fieldLink RX12 31 "StyleRowsModel" "levelSwells" "[Z", .fieldLink RX12 28 "StyleRowsModel" "levelHigh" "[I", .fieldLink RX12 25 "StyleRowsModel" "levelTick" "[I", .methodLink RX12 111 yX12_levelBy, .instanceMethod yX12_levelBy, .selects RX12 yX12_levelBy yX12_levelBy, .initialized RX12, .code yX12_levelBy cX12_levelBy 6 (some .int), .fieldLink RX12 101 "StyleRowsModel" "levels" "I", .methodLink RX12 115 yX12_floor, .static yX12_floor, .code yX12_floor cX12_floor 6 (some .long)] ++ wsX120)
def wsX12_levelAt : List Cond := .code yX12_levelAt cX12_levelAt 2 (some .int) :: ([.constantLong RX12 99 (20000), .methodLink RX12 78 yX12_in, .static yX12_in, .initialized RX12, .code yX12_in cX12_in 6 (some .boolean), .methodLink RX12 119 yX12_highAt, .instanceMethod yX12_highAt, .selects RX12 yX12_highAt yX12_highAt, .code yX12_highAt cX12_highAt 4 (some .int), .fieldLink RX12 31 "StyleRowsModel" "levelSwells" "[Z", .fieldLink RX12 28 "StyleRowsModel" "levelHigh" "[I", .fieldLink RX12 25 "StyleRowsModel" "levelTick" "[I", .methodLink RX12 111 yX12_levelBy, .instanceMethod yX12_levelBy, .selects RX12 yX12_levelBy yX12_levelBy, .code yX12_levelBy cX12_levelBy 6 (some .int), .fieldLink RX12 101 "StyleRowsModel" "levels" "I", .methodLink RX12 115 yX12_floor, .static yX12_floor, .code yX12_floor cX12_floor 6 (some .long)] ++ wsX120)
def wsX12_time : List Cond := .code yX12_time cX12_time 6 (some .int) :: ([.fieldLink RX12 108 "StyleRowsModel" "arcs" "I", .fieldLink RX12 42 "StyleRowsModel" "arcFrom" "[I", .fieldLink RX12 45 "StyleRowsModel" "arcTo" "[I", .constantLong RX12 123 (4), .fieldLink RX12 48 "StyleRowsModel" "arcBy" "[I", .methodLink RX12 115 yX12_floor, .static yX12_floor, .initialized RX12, .code yX12_floor cX12_floor 6 (some .long)] ++ wsX120)
def wsX12_timeOf : List Cond := .code yX12_timeOf cX12_timeOf 2 (some .int) :: ([.constantLong RX12 99 (20000), .methodLink RX12 78 yX12_in, .static yX12_in, .initialized RX12, .code yX12_in cX12_in 6 (some .boolean), .methodLink RX12 125 yX12_time, .instanceMethod yX12_time, .selects RX12 yX12_time yX12_time, .code yX12_time cX12_time 6 (some .int), .fieldLink RX12 108 "StyleRowsModel" "arcs" "I", .fieldLink RX12 42 "StyleRowsModel" "arcFrom" "[I", .fieldLink RX12 45 "StyleRowsModel" "arcTo" "[I", .constantLong RX12 123 (4), .fieldLink RX12 48 "StyleRowsModel" "arcBy" "[I", .methodLink RX12 115 yX12_floor, .static yX12_floor, .code yX12_floor cX12_floor 6 (some .long)] ++ wsX120)
def wsX12_feed : List Cond := .code yX12_feed cX12_feed 5 (some .int) :: ([.constantLong RX12 128 (8), .fieldLink RX12 130 "StyleRowsModel" "size" "I", .fieldLink RX12 63 "StyleRowsModel" "tape" "[I", .constantLong RX12 133 (255), .methodLink RX12 78 yX12_in, .static yX12_in, .initialized RX12, .code yX12_in cX12_in 6 (some .boolean)] ++ wsX120)
def wsX12_at : List Cond := .code yX12_at cX12_at 2 (some .int) :: ([.fieldLink RX12 130 "StyleRowsModel" "size" "I", .fieldLink RX12 63 "StyleRowsModel" "tape" "[I"] ++ wsX120)
def wsX12_take : List Cond := .code yX12_take cX12_take 1 none :: ([.fieldLink RX12 135 "StyleRowsModel" "next" "I", .fieldLink RX12 141 "StyleRowsModel" "first" "I", .fieldLink RX12 144 "StyleRowsModel" "told" "J", .constantLong RX12 147 (97), .constantLong RX12 149 (122), .fieldLink RX12 151 "StyleRowsModel" "sort" "I", .constantLong RX12 154 (32), .constantLong RX12 156 (96), .constantLong RX12 158 (-1), .constantLong RX12 160 (48), .constantLong RX12 162 (57), .constantLong RX12 164 (100000), .constantLong RX12 166 (10), .methodLink RX12 138 yX12_at, .instanceMethod yX12_at, .selects RX12 yX12_at yX12_at, .initialized RX12, .code yX12_at cX12_at 2 (some .int), .fieldLink RX12 130 "StyleRowsModel" "size" "I", .fieldLink RX12 63 "StyleRowsModel" "tape" "[I", .methodLink RX12 78 yX12_in, .static yX12_in, .code yX12_in cX12_in 6 (some .boolean)] ++ wsX120)
def wsX12_word : List Cond := .code yX12_word cX12_word 8 (some .long) :: ([.constantLong RX12 156 (96), .constantLong RX12 154 (32)])
def wsX12_wordOf : List Cond := .code yX12_wordOf cX12_wordOf 1 (some .long) :: ([.methodLink RX12 168 yX12_word, .static yX12_word, .initialized RX12, .code yX12_word cX12_word 8 (some .long), .constantLong RX12 156 (96), .constantLong RX12 154 (32)])
def wsX12_usual : List Cond := .code yX12_usual cX12_usual 1 (some .int) :: ([])
def wsX12_lowest : List Cond := .code yX12_lowest cX12_lowest 1 (some .int) :: ([])
def wsX12_highest : List Cond := .code yX12_highest cX12_highest 1 (some .int) :: ([])
def wsX12_named : List Cond := .code yX12_named cX12_named 2 (some .int) :: ([.fieldLink RX12 144 "StyleRowsModel" "told" "J", .methodLink RX12 172 yX12_wordOf, .static yX12_wordOf, .initialized RX12, .code yX12_wordOf cX12_wordOf 1 (some .long), .methodLink RX12 168 yX12_word, .static yX12_word, .code yX12_word cX12_word 8 (some .long), .constantLong RX12 156 (96), .constantLong RX12 154 (32)] ++ wsX120)
def wsX12_isNumber : List Cond := .code yX12_isNumber cX12_isNumber 3 (some .boolean) :: ([.fieldLink RX12 151 "StyleRowsModel" "sort" "I", .fieldLink RX12 144 "StyleRowsModel" "told" "J", .methodLink RX12 78 yX12_in, .static yX12_in, .initialized RX12, .code yX12_in cX12_in 6 (some .boolean)] ++ wsX120)
def wsX12_takeRule_r1 : List Cond := [Cond.fieldLink RX12 151 "StyleRowsModel" "sort" "I", Cond.fieldLink RX12 51 "StyleRowsModel" "ruleVoice" "[I", Cond.fieldLink RX12 60 "StyleRowsModel" "ruleRank" "[I", Cond.fieldLink RX12 144 "StyleRowsModel" "told" "J", Cond.fieldLink RX12 54 "StyleRowsModel" "ruleName" "[I", Cond.fieldLink RX12 57 "StyleRowsModel" "ruleNumber" "[I", Cond.methodLink RX12 168 yX12_word, Cond.static yX12_word, Cond.initialized RX12, Cond.code yX12_word cX12_word 8 (some .long), Cond.constantLong RX12 156 (96), Cond.constantLong RX12 154 (32), Cond.methodLink RX12 176 yX12_take, Cond.instanceMethod yX12_take, Cond.selects RX12 yX12_take yX12_take, Cond.code yX12_take cX12_take 1 none, Cond.fieldLink RX12 135 "StyleRowsModel" "next" "I", Cond.fieldLink RX12 141 "StyleRowsModel" "first" "I", Cond.constantLong RX12 147 (97), Cond.constantLong RX12 149 (122), Cond.constantLong RX12 158 (-1), Cond.constantLong RX12 160 (48), Cond.constantLong RX12 162 (57), Cond.constantLong RX12 164 (100000)]
def wsX12_takeRule_r2 : List Cond := [Cond.constantLong RX12 166 (10), Cond.methodLink RX12 138 yX12_at, Cond.instanceMethod yX12_at, Cond.selects RX12 yX12_at yX12_at, Cond.code yX12_at cX12_at 2 (some .int), Cond.fieldLink RX12 130 "StyleRowsModel" "size" "I", Cond.fieldLink RX12 63 "StyleRowsModel" "tape" "[I", Cond.methodLink RX12 78 yX12_in, Cond.static yX12_in, Cond.code yX12_in cX12_in 6 (some .boolean), Cond.methodLink RX12 179 yX12_isNumber, Cond.instanceMethod yX12_isNumber, Cond.selects RX12 yX12_isNumber yX12_isNumber, Cond.code yX12_isNumber cX12_isNumber 3 (some .boolean), Cond.methodLink RX12 183 yX12_named, Cond.instanceMethod yX12_named, Cond.selects RX12 yX12_named yX12_named, Cond.code yX12_named cX12_named 2 (some .int), Cond.methodLink RX12 172 yX12_wordOf, Cond.static yX12_wordOf, Cond.code yX12_wordOf cX12_wordOf 1 (some .long), Cond.methodLink RX12 187 yX12_lowest, Cond.static yX12_lowest, Cond.code yX12_lowest cX12_lowest 1 (some .int)]
def wsX12_takeRule_r3 : List Cond := [Cond.methodLink RX12 190 yX12_highest, Cond.static yX12_highest, Cond.code yX12_highest cX12_highest 1 (some .int)]
def wsX12_takeRule : List Cond := .code yX12_takeRule cX12_takeRule 3 (some .boolean) :: ((wsX12_takeRule_r1 ++ (wsX12_takeRule_r2 ++ wsX12_takeRule_r3)) ++ wsX120)
def wsX12_read_r1 : List Cond := [Cond.fieldLink RX12 193 "StyleRowsModel" "rules" "I", Cond.fieldLink RX12 135 "StyleRowsModel" "next" "I", Cond.fieldLink RX12 151 "StyleRowsModel" "sort" "I", Cond.fieldLink RX12 141 "StyleRowsModel" "first" "I", Cond.fieldLink RX12 130 "StyleRowsModel" "size" "I", Cond.methodLink RX12 176 yX12_take, Cond.instanceMethod yX12_take, Cond.selects RX12 yX12_take yX12_take, Cond.initialized RX12, Cond.code yX12_take cX12_take 1 none, Cond.fieldLink RX12 144 "StyleRowsModel" "told" "J", Cond.constantLong RX12 147 (97), Cond.constantLong RX12 149 (122), Cond.constantLong RX12 154 (32), Cond.constantLong RX12 156 (96), Cond.constantLong RX12 158 (-1), Cond.constantLong RX12 160 (48), Cond.constantLong RX12 162 (57), Cond.constantLong RX12 164 (100000), Cond.constantLong RX12 166 (10), Cond.methodLink RX12 138 yX12_at, Cond.instanceMethod yX12_at, Cond.selects RX12 yX12_at yX12_at, Cond.code yX12_at cX12_at 2 (some .int)]
def wsX12_read_r2 : List Cond := [Cond.fieldLink RX12 63 "StyleRowsModel" "tape" "[I", Cond.methodLink RX12 78 yX12_in, Cond.static yX12_in, Cond.code yX12_in cX12_in 6 (some .boolean), Cond.methodLink RX12 196 yX12_takeRule, Cond.instanceMethod yX12_takeRule, Cond.selects RX12 yX12_takeRule yX12_takeRule, Cond.code yX12_takeRule cX12_takeRule 3 (some .boolean), Cond.fieldLink RX12 51 "StyleRowsModel" "ruleVoice" "[I", Cond.fieldLink RX12 60 "StyleRowsModel" "ruleRank" "[I", Cond.fieldLink RX12 54 "StyleRowsModel" "ruleName" "[I", Cond.fieldLink RX12 57 "StyleRowsModel" "ruleNumber" "[I", Cond.methodLink RX12 168 yX12_word, Cond.static yX12_word, Cond.code yX12_word cX12_word 8 (some .long), Cond.methodLink RX12 179 yX12_isNumber, Cond.instanceMethod yX12_isNumber, Cond.selects RX12 yX12_isNumber yX12_isNumber, Cond.code yX12_isNumber cX12_isNumber 3 (some .boolean), Cond.methodLink RX12 183 yX12_named, Cond.instanceMethod yX12_named, Cond.selects RX12 yX12_named yX12_named, Cond.code yX12_named cX12_named 2 (some .int), Cond.methodLink RX12 172 yX12_wordOf]
def wsX12_read_r3 : List Cond := [Cond.static yX12_wordOf, Cond.code yX12_wordOf cX12_wordOf 1 (some .long), Cond.methodLink RX12 187 yX12_lowest, Cond.static yX12_lowest, Cond.code yX12_lowest cX12_lowest 1 (some .int), Cond.methodLink RX12 190 yX12_highest, Cond.static yX12_highest, Cond.code yX12_highest cX12_highest 1 (some .int)]
def wsX12_read : List Cond := .code yX12_read cX12_read 4 (some .int) :: ((wsX12_read_r1 ++ (wsX12_read_r2 ++ wsX12_read_r3)) ++ wsX120)
def wsX12_plain : List Cond := .code yX12_plain cX12_plain 2 (some .int) :: ([.fieldLink RX12 193 "StyleRowsModel" "rules" "I"] ++ wsX120)
def wsX12_rule : List Cond := .code yX12_rule cX12_rule 3 (some .int) :: ([.fieldLink RX12 193 "StyleRowsModel" "rules" "I", .fieldLink RX12 51 "StyleRowsModel" "ruleVoice" "[I", .fieldLink RX12 54 "StyleRowsModel" "ruleName" "[I", .fieldLink RX12 57 "StyleRowsModel" "ruleNumber" "[I", .fieldLink RX12 60 "StyleRowsModel" "ruleRank" "[I", .methodLink RX12 78 yX12_in, .static yX12_in, .initialized RX12, .code yX12_in cX12_in 6 (some .boolean)] ++ wsX120)
def wsX12_counts : List Cond := .code yX12_counts cX12_counts 6 (some .int) :: ([.fieldLink RX12 193 "StyleRowsModel" "rules" "I", .fieldLink RX12 54 "StyleRowsModel" "ruleName" "[I", .fieldLink RX12 51 "StyleRowsModel" "ruleVoice" "[I", .fieldLink RX12 60 "StyleRowsModel" "ruleRank" "[I"] ++ wsX120)
def wsX12_number : List Cond := .code yX12_number cX12_number 4 (some .int) :: ([.fieldLink RX12 57 "StyleRowsModel" "ruleNumber" "[I", .methodLink RX12 199 yX12_counts, .instanceMethod yX12_counts, .selects RX12 yX12_counts yX12_counts, .initialized RX12, .code yX12_counts cX12_counts 6 (some .int), .fieldLink RX12 193 "StyleRowsModel" "rules" "I", .fieldLink RX12 54 "StyleRowsModel" "ruleName" "[I", .fieldLink RX12 51 "StyleRowsModel" "ruleVoice" "[I", .fieldLink RX12 60 "StyleRowsModel" "ruleRank" "[I", .methodLink RX12 203 yX12_usual, .static yX12_usual, .code yX12_usual cX12_usual 1 (some .int)] ++ wsX120)
def wsX12_value : List Cond := .code yX12_value cX12_value 3 (some .int) :: ([.constantLong RX12 76 (3), .constantLong RX12 86 (12), .methodLink RX12 78 yX12_in, .static yX12_in, .initialized RX12, .code yX12_in cX12_in 6 (some .boolean), .methodLink RX12 206 yX12_number, .instanceMethod yX12_number, .selects RX12 yX12_number yX12_number, .code yX12_number cX12_number 4 (some .int), .fieldLink RX12 57 "StyleRowsModel" "ruleNumber" "[I", .methodLink RX12 199 yX12_counts, .instanceMethod yX12_counts, .selects RX12 yX12_counts yX12_counts, .code yX12_counts cX12_counts 6 (some .int), .fieldLink RX12 193 "StyleRowsModel" "rules" "I", .fieldLink RX12 54 "StyleRowsModel" "ruleName" "[I", .fieldLink RX12 51 "StyleRowsModel" "ruleVoice" "[I", .fieldLink RX12 60 "StyleRowsModel" "ruleRank" "[I", .methodLink RX12 203 yX12_usual, .static yX12_usual, .code yX12_usual cX12_usual 1 (some .int)] ++ wsX120)
def wsX12_why : List Cond := .code yX12_why cX12_why 3 (some .int) :: ([.constantLong RX12 76 (3), .constantLong RX12 86 (12), .methodLink RX12 78 yX12_in, .static yX12_in, .initialized RX12, .code yX12_in cX12_in 6 (some .boolean), .methodLink RX12 199 yX12_counts, .instanceMethod yX12_counts, .selects RX12 yX12_counts yX12_counts, .code yX12_counts cX12_counts 6 (some .int), .fieldLink RX12 193 "StyleRowsModel" "rules" "I", .fieldLink RX12 54 "StyleRowsModel" "ruleName" "[I", .fieldLink RX12 51 "StyleRowsModel" "ruleVoice" "[I", .fieldLink RX12 60 "StyleRowsModel" "ruleRank" "[I"] ++ wsX120)
def wsX12_has : List Cond := .code yX12_has cX12_has 3 (some .boolean) :: ([.fieldLink RX12 22 "StyleRowsModel" "marks" "[I"] ++ wsX120)
def wsX12_sounds : List Cond := .code yX12_sounds cX12_sounds 8 none :: ([.fieldLink RX12 209 "StyleRowsModel" "parts" "I", .fieldLink RX12 212 "StyleRowsModel" "on" "I", .fieldLink RX12 66 "StyleRowsModel" "part" "[I", .fieldLink RX12 19 "StyleRowsModel" "pitch" "[I", .fieldLink RX12 215 "StyleRowsModel" "left" "I", .methodLink RX12 125 yX12_time, .instanceMethod yX12_time, .selects RX12 yX12_time yX12_time, .initialized RX12, .code yX12_time cX12_time 6 (some .int), .fieldLink RX12 108 "StyleRowsModel" "arcs" "I", .fieldLink RX12 42 "StyleRowsModel" "arcFrom" "[I", .fieldLink RX12 45 "StyleRowsModel" "arcTo" "[I", .constantLong RX12 123 (4), .fieldLink RX12 48 "StyleRowsModel" "arcBy" "[I", .methodLink RX12 115 yX12_floor, .static yX12_floor, .code yX12_floor cX12_floor 6 (some .long)] ++ wsX120)
def wsX12_longOf_r1 : List Cond := [Cond.fieldLink RX12 7 "StyleRowsModel" "voice" "[I", Cond.fieldLink RX12 16 "StyleRowsModel" "length" "[I", Cond.methodLink RX12 218 yX12_has, Cond.instanceMethod yX12_has, Cond.selects RX12 yX12_has yX12_has, Cond.initialized RX12, Cond.code yX12_has cX12_has 3 (some .boolean), Cond.fieldLink RX12 22 "StyleRowsModel" "marks" "[I", Cond.methodLink RX12 206 yX12_number, Cond.instanceMethod yX12_number, Cond.selects RX12 yX12_number yX12_number, Cond.code yX12_number cX12_number 4 (some .int), Cond.fieldLink RX12 57 "StyleRowsModel" "ruleNumber" "[I", Cond.methodLink RX12 199 yX12_counts, Cond.instanceMethod yX12_counts, Cond.selects RX12 yX12_counts yX12_counts, Cond.code yX12_counts cX12_counts 6 (some .int), Cond.fieldLink RX12 193 "StyleRowsModel" "rules" "I", Cond.fieldLink RX12 54 "StyleRowsModel" "ruleName" "[I", Cond.fieldLink RX12 51 "StyleRowsModel" "ruleVoice" "[I", Cond.fieldLink RX12 60 "StyleRowsModel" "ruleRank" "[I", Cond.methodLink RX12 203 yX12_usual, Cond.static yX12_usual, Cond.code yX12_usual cX12_usual 1 (some .int)]
def wsX12_longOf_r2 : List Cond := [Cond.methodLink RX12 221 yX12_lesser, Cond.static yX12_lesser, Cond.code yX12_lesser cX12_lesser 2 (some .int)]
def wsX12_longOf : List Cond := .code yX12_longOf cX12_longOf 5 (some .int) :: ((wsX12_longOf_r1 ++ wsX12_longOf_r2) ++ wsX120)
def wsX12_loudOf_r1 : List Cond := [Cond.fieldLink RX12 13 "StyleRowsModel" "start" "[I", Cond.fieldLink RX12 7 "StyleRowsModel" "voice" "[I", Cond.fieldLink RX12 35 "StyleRowsModel" "beats" "I", Cond.fieldLink RX12 39 "StyleRowsModel" "unit" "I", Cond.methodLink RX12 119 yX12_highAt, Cond.instanceMethod yX12_highAt, Cond.selects RX12 yX12_highAt yX12_highAt, Cond.initialized RX12, Cond.code yX12_highAt cX12_highAt 4 (some .int), Cond.fieldLink RX12 31 "StyleRowsModel" "levelSwells" "[Z", Cond.fieldLink RX12 28 "StyleRowsModel" "levelHigh" "[I", Cond.fieldLink RX12 25 "StyleRowsModel" "levelTick" "[I", Cond.methodLink RX12 111 yX12_levelBy, Cond.instanceMethod yX12_levelBy, Cond.selects RX12 yX12_levelBy yX12_levelBy, Cond.code yX12_levelBy cX12_levelBy 6 (some .int), Cond.fieldLink RX12 101 "StyleRowsModel" "levels" "I", Cond.methodLink RX12 115 yX12_floor, Cond.static yX12_floor, Cond.code yX12_floor cX12_floor 6 (some .long), Cond.methodLink RX12 218 yX12_has, Cond.instanceMethod yX12_has, Cond.selects RX12 yX12_has yX12_has, Cond.code yX12_has cX12_has 3 (some .boolean)]
def wsX12_loudOf_r2 : List Cond := [Cond.fieldLink RX12 22 "StyleRowsModel" "marks" "[I", Cond.methodLink RX12 206 yX12_number, Cond.instanceMethod yX12_number, Cond.selects RX12 yX12_number yX12_number, Cond.code yX12_number cX12_number 4 (some .int), Cond.fieldLink RX12 57 "StyleRowsModel" "ruleNumber" "[I", Cond.methodLink RX12 199 yX12_counts, Cond.instanceMethod yX12_counts, Cond.selects RX12 yX12_counts yX12_counts, Cond.code yX12_counts cX12_counts 6 (some .int), Cond.fieldLink RX12 193 "StyleRowsModel" "rules" "I", Cond.fieldLink RX12 54 "StyleRowsModel" "ruleName" "[I", Cond.fieldLink RX12 51 "StyleRowsModel" "ruleVoice" "[I", Cond.fieldLink RX12 60 "StyleRowsModel" "ruleRank" "[I", Cond.methodLink RX12 203 yX12_usual, Cond.static yX12_usual, Cond.code yX12_usual cX12_usual 1 (some .int), Cond.methodLink RX12 221 yX12_lesser, Cond.static yX12_lesser, Cond.code yX12_lesser cX12_lesser 2 (some .int)]
def wsX12_loudOf : List Cond := .code yX12_loudOf cX12_loudOf 3 (some .int) :: ((wsX12_loudOf_r1 ++ wsX12_loudOf_r2) ++ wsX120)
def wsX12_onOf : List Cond := .code yX12_onOf cX12_onOf 6 (some .int) :: ([.fieldLink RX12 7 "StyleRowsModel" "voice" "[I", .fieldLink RX12 13 "StyleRowsModel" "start" "[I", .fieldLink RX12 72 "StyleRowsModel" "seed" "J", .constantLong RX12 224 (-7046029254386353131), .constantLong RX12 226 (-4658895280553007687), .constantLong RX12 228 (2), .methodLink RX12 206 yX12_number, .instanceMethod yX12_number, .selects RX12 yX12_number yX12_number, .initialized RX12, .code yX12_number cX12_number 4 (some .int), .fieldLink RX12 57 "StyleRowsModel" "ruleNumber" "[I", .methodLink RX12 199 yX12_counts, .instanceMethod yX12_counts, .selects RX12 yX12_counts yX12_counts, .code yX12_counts cX12_counts 6 (some .int), .fieldLink RX12 193 "StyleRowsModel" "rules" "I", .fieldLink RX12 54 "StyleRowsModel" "ruleName" "[I", .fieldLink RX12 51 "StyleRowsModel" "ruleVoice" "[I", .fieldLink RX12 60 "StyleRowsModel" "ruleRank" "[I", .methodLink RX12 203 yX12_usual, .static yX12_usual, .code yX12_usual cX12_usual 1 (some .int)] ++ wsX120)
def wsX12_rolledAhead : List Cond := .code yX12_rolledAhead cX12_rolledAhead 5 (some .int) :: ([.fieldLink RX12 92 "StyleRowsModel" "notes" "I", .fieldLink RX12 7 "StyleRowsModel" "voice" "[I", .fieldLink RX12 13 "StyleRowsModel" "start" "[I", .fieldLink RX12 19 "StyleRowsModel" "pitch" "[I", .methodLink RX12 218 yX12_has, .instanceMethod yX12_has, .selects RX12 yX12_has yX12_has, .initialized RX12, .code yX12_has cX12_has 3 (some .boolean), .fieldLink RX12 22 "StyleRowsModel" "marks" "[I"] ++ wsX120)
def wsX12_trill_r1 : List Cond := [Cond.fieldLink RX12 7 "StyleRowsModel" "voice" "[I", Cond.fieldLink RX12 230 "StyleRowsModel" "loud" "I", Cond.fieldLink RX12 215 "StyleRowsModel" "left" "I", Cond.methodLink RX12 206 yX12_number, Cond.instanceMethod yX12_number, Cond.selects RX12 yX12_number yX12_number, Cond.initialized RX12, Cond.code yX12_number cX12_number 4 (some .int), Cond.fieldLink RX12 57 "StyleRowsModel" "ruleNumber" "[I", Cond.methodLink RX12 199 yX12_counts, Cond.instanceMethod yX12_counts, Cond.selects RX12 yX12_counts yX12_counts, Cond.code yX12_counts cX12_counts 6 (some .int), Cond.fieldLink RX12 193 "StyleRowsModel" "rules" "I", Cond.fieldLink RX12 54 "StyleRowsModel" "ruleName" "[I", Cond.fieldLink RX12 51 "StyleRowsModel" "ruleVoice" "[I", Cond.fieldLink RX12 60 "StyleRowsModel" "ruleRank" "[I", Cond.methodLink RX12 203 yX12_usual, Cond.static yX12_usual, Cond.code yX12_usual cX12_usual 1 (some .int), Cond.methodLink RX12 233 yX12_sounds, Cond.instanceMethod yX12_sounds, Cond.selects RX12 yX12_sounds yX12_sounds, Cond.code yX12_sounds cX12_sounds 8 none]
def wsX12_trill_r2 : List Cond := [Cond.fieldLink RX12 209 "StyleRowsModel" "parts" "I", Cond.fieldLink RX12 212 "StyleRowsModel" "on" "I", Cond.fieldLink RX12 66 "StyleRowsModel" "part" "[I", Cond.fieldLink RX12 19 "StyleRowsModel" "pitch" "[I", Cond.methodLink RX12 125 yX12_time, Cond.instanceMethod yX12_time, Cond.selects RX12 yX12_time yX12_time, Cond.code yX12_time cX12_time 6 (some .int), Cond.fieldLink RX12 108 "StyleRowsModel" "arcs" "I", Cond.fieldLink RX12 42 "StyleRowsModel" "arcFrom" "[I", Cond.fieldLink RX12 45 "StyleRowsModel" "arcTo" "[I", Cond.constantLong RX12 123 (4), Cond.fieldLink RX12 48 "StyleRowsModel" "arcBy" "[I", Cond.methodLink RX12 115 yX12_floor, Cond.static yX12_floor, Cond.code yX12_floor cX12_floor 6 (some .long)]
def wsX12_trill : List Cond := .code yX12_trill cX12_trill 7 none :: ((wsX12_trill_r1 ++ wsX12_trill_r2) ++ wsX120)
def wsX12_performNote_r1 : List Cond := [Cond.fieldLink RX12 212 "StyleRowsModel" "on" "I", Cond.fieldLink RX12 215 "StyleRowsModel" "left" "I", Cond.fieldLink RX12 230 "StyleRowsModel" "loud" "I", Cond.fieldLink RX12 7 "StyleRowsModel" "voice" "[I", Cond.methodLink RX12 237 yX12_onOf, Cond.instanceMethod yX12_onOf, Cond.selects RX12 yX12_onOf yX12_onOf, Cond.initialized RX12, Cond.code yX12_onOf cX12_onOf 6 (some .int), Cond.fieldLink RX12 13 "StyleRowsModel" "start" "[I", Cond.fieldLink RX12 72 "StyleRowsModel" "seed" "J", Cond.constantLong RX12 224 (-7046029254386353131), Cond.constantLong RX12 226 (-4658895280553007687), Cond.constantLong RX12 228 (2), Cond.methodLink RX12 206 yX12_number, Cond.instanceMethod yX12_number, Cond.selects RX12 yX12_number yX12_number, Cond.code yX12_number cX12_number 4 (some .int), Cond.fieldLink RX12 57 "StyleRowsModel" "ruleNumber" "[I", Cond.methodLink RX12 199 yX12_counts, Cond.instanceMethod yX12_counts, Cond.selects RX12 yX12_counts yX12_counts, Cond.code yX12_counts cX12_counts 6 (some .int), Cond.fieldLink RX12 193 "StyleRowsModel" "rules" "I"]
def wsX12_performNote_r2 : List Cond := [Cond.fieldLink RX12 54 "StyleRowsModel" "ruleName" "[I", Cond.fieldLink RX12 51 "StyleRowsModel" "ruleVoice" "[I", Cond.fieldLink RX12 60 "StyleRowsModel" "ruleRank" "[I", Cond.methodLink RX12 203 yX12_usual, Cond.static yX12_usual, Cond.code yX12_usual cX12_usual 1 (some .int), Cond.methodLink RX12 240 yX12_longOf, Cond.instanceMethod yX12_longOf, Cond.selects RX12 yX12_longOf yX12_longOf, Cond.code yX12_longOf cX12_longOf 5 (some .int), Cond.fieldLink RX12 16 "StyleRowsModel" "length" "[I", Cond.methodLink RX12 218 yX12_has, Cond.instanceMethod yX12_has, Cond.selects RX12 yX12_has yX12_has, Cond.code yX12_has cX12_has 3 (some .boolean), Cond.fieldLink RX12 22 "StyleRowsModel" "marks" "[I", Cond.methodLink RX12 221 yX12_lesser, Cond.static yX12_lesser, Cond.code yX12_lesser cX12_lesser 2 (some .int), Cond.methodLink RX12 243 yX12_loudOf, Cond.instanceMethod yX12_loudOf, Cond.selects RX12 yX12_loudOf yX12_loudOf, Cond.code yX12_loudOf cX12_loudOf 3 (some .int), Cond.fieldLink RX12 35 "StyleRowsModel" "beats" "I"]
def wsX12_performNote_r3 : List Cond := [Cond.fieldLink RX12 39 "StyleRowsModel" "unit" "I", Cond.methodLink RX12 119 yX12_highAt, Cond.instanceMethod yX12_highAt, Cond.selects RX12 yX12_highAt yX12_highAt, Cond.code yX12_highAt cX12_highAt 4 (some .int), Cond.fieldLink RX12 31 "StyleRowsModel" "levelSwells" "[Z", Cond.fieldLink RX12 28 "StyleRowsModel" "levelHigh" "[I", Cond.fieldLink RX12 25 "StyleRowsModel" "levelTick" "[I", Cond.methodLink RX12 111 yX12_levelBy, Cond.instanceMethod yX12_levelBy, Cond.selects RX12 yX12_levelBy yX12_levelBy, Cond.code yX12_levelBy cX12_levelBy 6 (some .int), Cond.fieldLink RX12 101 "StyleRowsModel" "levels" "I", Cond.methodLink RX12 115 yX12_floor, Cond.static yX12_floor, Cond.code yX12_floor cX12_floor 6 (some .long), Cond.methodLink RX12 246 yX12_rolledAhead, Cond.instanceMethod yX12_rolledAhead, Cond.selects RX12 yX12_rolledAhead yX12_rolledAhead, Cond.code yX12_rolledAhead cX12_rolledAhead 5 (some .int), Cond.fieldLink RX12 92 "StyleRowsModel" "notes" "I", Cond.fieldLink RX12 19 "StyleRowsModel" "pitch" "[I", Cond.methodLink RX12 233 yX12_sounds, Cond.instanceMethod yX12_sounds]
def wsX12_performNote_r4 : List Cond := [Cond.selects RX12 yX12_sounds yX12_sounds, Cond.code yX12_sounds cX12_sounds 8 none, Cond.fieldLink RX12 209 "StyleRowsModel" "parts" "I", Cond.fieldLink RX12 66 "StyleRowsModel" "part" "[I", Cond.methodLink RX12 125 yX12_time, Cond.instanceMethod yX12_time, Cond.selects RX12 yX12_time yX12_time, Cond.code yX12_time cX12_time 6 (some .int), Cond.fieldLink RX12 108 "StyleRowsModel" "arcs" "I", Cond.fieldLink RX12 42 "StyleRowsModel" "arcFrom" "[I", Cond.fieldLink RX12 45 "StyleRowsModel" "arcTo" "[I", Cond.constantLong RX12 123 (4), Cond.fieldLink RX12 48 "StyleRowsModel" "arcBy" "[I", Cond.methodLink RX12 249 yX12_trill, Cond.instanceMethod yX12_trill, Cond.selects RX12 yX12_trill yX12_trill, Cond.code yX12_trill cX12_trill 7 none]
def wsX12_performNote : List Cond := .code yX12_performNote cX12_performNote 4 none :: ((wsX12_performNote_r1 ++ (wsX12_performNote_r2 ++ (wsX12_performNote_r3 ++ wsX12_performNote_r4))) ++ wsX120)
def wsX12_isAhead : List Cond := .code yX12_isAhead cX12_isAhead 4 (some .boolean) :: ([.fieldLink RX12 66 "StyleRowsModel" "part" "[I", .fieldLink RX12 7 "StyleRowsModel" "voice" "[I"] ++ wsX120)
def wsX12_cut : List Cond := .code yX12_cut cX12_cut 7 (some .int) :: ([.fieldLink RX12 66 "StyleRowsModel" "part" "[I", .fieldLink RX12 209 "StyleRowsModel" "parts" "I", .fieldLink RX12 7 "StyleRowsModel" "voice" "[I"] ++ wsX120)
def wsX12_perform_r1 : List Cond := [Cond.fieldLink RX12 209 "StyleRowsModel" "parts" "I", Cond.fieldLink RX12 92 "StyleRowsModel" "notes" "I", Cond.fieldLink RX12 257 "StyleRowsModel" "events" "I", Cond.fieldLink RX12 69 "StyleRowsModel" "event" "[I", Cond.fieldLink RX12 66 "StyleRowsModel" "part" "[I", Cond.methodLink RX12 253 yX12_performNote, Cond.instanceMethod yX12_performNote, Cond.selects RX12 yX12_performNote yX12_performNote, Cond.initialized RX12, Cond.code yX12_performNote cX12_performNote 4 none, Cond.fieldLink RX12 212 "StyleRowsModel" "on" "I", Cond.fieldLink RX12 215 "StyleRowsModel" "left" "I", Cond.fieldLink RX12 230 "StyleRowsModel" "loud" "I", Cond.fieldLink RX12 7 "StyleRowsModel" "voice" "[I", Cond.methodLink RX12 237 yX12_onOf, Cond.instanceMethod yX12_onOf, Cond.selects RX12 yX12_onOf yX12_onOf, Cond.code yX12_onOf cX12_onOf 6 (some .int), Cond.fieldLink RX12 13 "StyleRowsModel" "start" "[I", Cond.fieldLink RX12 72 "StyleRowsModel" "seed" "J", Cond.constantLong RX12 224 (-7046029254386353131), Cond.constantLong RX12 226 (-4658895280553007687), Cond.constantLong RX12 228 (2), Cond.methodLink RX12 206 yX12_number]
def wsX12_perform_r2 : List Cond := [Cond.instanceMethod yX12_number, Cond.selects RX12 yX12_number yX12_number, Cond.code yX12_number cX12_number 4 (some .int), Cond.fieldLink RX12 57 "StyleRowsModel" "ruleNumber" "[I", Cond.methodLink RX12 199 yX12_counts, Cond.instanceMethod yX12_counts, Cond.selects RX12 yX12_counts yX12_counts, Cond.code yX12_counts cX12_counts 6 (some .int), Cond.fieldLink RX12 193 "StyleRowsModel" "rules" "I", Cond.fieldLink RX12 54 "StyleRowsModel" "ruleName" "[I", Cond.fieldLink RX12 51 "StyleRowsModel" "ruleVoice" "[I", Cond.fieldLink RX12 60 "StyleRowsModel" "ruleRank" "[I", Cond.methodLink RX12 203 yX12_usual, Cond.static yX12_usual, Cond.code yX12_usual cX12_usual 1 (some .int), Cond.methodLink RX12 240 yX12_longOf, Cond.instanceMethod yX12_longOf, Cond.selects RX12 yX12_longOf yX12_longOf, Cond.code yX12_longOf cX12_longOf 5 (some .int), Cond.fieldLink RX12 16 "StyleRowsModel" "length" "[I", Cond.methodLink RX12 218 yX12_has, Cond.instanceMethod yX12_has, Cond.selects RX12 yX12_has yX12_has, Cond.code yX12_has cX12_has 3 (some .boolean)]
def wsX12_perform_r3 : List Cond := [Cond.fieldLink RX12 22 "StyleRowsModel" "marks" "[I", Cond.methodLink RX12 221 yX12_lesser, Cond.static yX12_lesser, Cond.code yX12_lesser cX12_lesser 2 (some .int), Cond.methodLink RX12 243 yX12_loudOf, Cond.instanceMethod yX12_loudOf, Cond.selects RX12 yX12_loudOf yX12_loudOf, Cond.code yX12_loudOf cX12_loudOf 3 (some .int), Cond.fieldLink RX12 35 "StyleRowsModel" "beats" "I", Cond.fieldLink RX12 39 "StyleRowsModel" "unit" "I", Cond.methodLink RX12 119 yX12_highAt, Cond.instanceMethod yX12_highAt, Cond.selects RX12 yX12_highAt yX12_highAt, Cond.code yX12_highAt cX12_highAt 4 (some .int), Cond.fieldLink RX12 31 "StyleRowsModel" "levelSwells" "[Z", Cond.fieldLink RX12 28 "StyleRowsModel" "levelHigh" "[I", Cond.fieldLink RX12 25 "StyleRowsModel" "levelTick" "[I", Cond.methodLink RX12 111 yX12_levelBy, Cond.instanceMethod yX12_levelBy, Cond.selects RX12 yX12_levelBy yX12_levelBy, Cond.code yX12_levelBy cX12_levelBy 6 (some .int), Cond.fieldLink RX12 101 "StyleRowsModel" "levels" "I", Cond.methodLink RX12 115 yX12_floor, Cond.static yX12_floor]
def wsX12_perform_r4 : List Cond := [Cond.code yX12_floor cX12_floor 6 (some .long), Cond.methodLink RX12 246 yX12_rolledAhead, Cond.instanceMethod yX12_rolledAhead, Cond.selects RX12 yX12_rolledAhead yX12_rolledAhead, Cond.code yX12_rolledAhead cX12_rolledAhead 5 (some .int), Cond.fieldLink RX12 19 "StyleRowsModel" "pitch" "[I", Cond.methodLink RX12 233 yX12_sounds, Cond.instanceMethod yX12_sounds, Cond.selects RX12 yX12_sounds yX12_sounds, Cond.code yX12_sounds cX12_sounds 8 none, Cond.methodLink RX12 125 yX12_time, Cond.instanceMethod yX12_time, Cond.selects RX12 yX12_time yX12_time, Cond.code yX12_time cX12_time 6 (some .int), Cond.fieldLink RX12 108 "StyleRowsModel" "arcs" "I", Cond.fieldLink RX12 42 "StyleRowsModel" "arcFrom" "[I", Cond.fieldLink RX12 45 "StyleRowsModel" "arcTo" "[I", Cond.constantLong RX12 123 (4), Cond.fieldLink RX12 48 "StyleRowsModel" "arcBy" "[I", Cond.methodLink RX12 249 yX12_trill, Cond.instanceMethod yX12_trill, Cond.selects RX12 yX12_trill yX12_trill, Cond.code yX12_trill cX12_trill 7 none, Cond.methodLink RX12 260 yX12_isAhead]
def wsX12_perform_r5 : List Cond := [Cond.instanceMethod yX12_isAhead, Cond.selects RX12 yX12_isAhead yX12_isAhead, Cond.code yX12_isAhead cX12_isAhead 4 (some .boolean), Cond.methodLink RX12 263 yX12_cut, Cond.instanceMethod yX12_cut, Cond.selects RX12 yX12_cut yX12_cut, Cond.code yX12_cut cX12_cut 7 (some .int)]
def wsX12_perform : List Cond := .code yX12_perform cX12_perform 4 (some .int) :: ((wsX12_perform_r1 ++ (wsX12_perform_r2 ++ (wsX12_perform_r3 ++ (wsX12_perform_r4 ++ wsX12_perform_r5)))) ++ wsX120)
def wsX12_event : List Cond := .code yX12_event cX12_event 3 (some .int) :: ([.fieldLink RX12 257 "StyleRowsModel" "events" "I", .constantLong RX12 266 (6), .fieldLink RX12 7 "StyleRowsModel" "voice" "[I", .fieldLink RX12 69 "StyleRowsModel" "event" "[I", .methodLink RX12 78 yX12_in, .static yX12_in, .initialized RX12, .code yX12_in cX12_in 6 (some .boolean)] ++ wsX120)
def wsX12_sounding : List Cond := .code yX12_sounding cX12_sounding 4 (some .int) :: ([.fieldLink RX12 257 "StyleRowsModel" "events" "I", .fieldLink RX12 69 "StyleRowsModel" "event" "[I"] ++ wsX120)
def wsX12_span : List Cond := .code yX12_span cX12_span 8 (some .int) :: ([.constantLong RX12 228 (2), .fieldLink RX12 257 "StyleRowsModel" "events" "I", .fieldLink RX12 69 "StyleRowsModel" "event" "[I", .methodLink RX12 95 yX12_isNote, .instanceMethod yX12_isNote, .selects RX12 yX12_isNote yX12_isNote, .initialized RX12, .code yX12_isNote cX12_isNote 2 (some .boolean), .fieldLink RX12 92 "StyleRowsModel" "notes" "I", .methodLink RX12 78 yX12_in, .static yX12_in, .code yX12_in cX12_in 6 (some .boolean)] ++ wsX120)
def wsX12_count : List Cond := .code yX12_count cX12_count 2 (some .int) :: ([.fieldLink RX12 92 "StyleRowsModel" "notes" "I", .fieldLink RX12 101 "StyleRowsModel" "levels" "I", .fieldLink RX12 108 "StyleRowsModel" "arcs" "I", .fieldLink RX12 193 "StyleRowsModel" "rules" "I", .fieldLink RX12 257 "StyleRowsModel" "events" "I", .fieldLink RX12 130 "StyleRowsModel" "size" "I"] ++ wsX120)
def wsJ9_max_7cf53 : List Cond := .code yJ9_max_7cf53 cJ9_max_7cf53 2 (some .int) :: ([])
def wsJ9_min_7cf53 : List Cond := .code yJ9_min_7cf53 cJ9_min_7cf53 2 (some .int) :: ([])
def wsL_cell : List Cond := .code yL_cell cL_cell 2 (some .int) :: ([])
def wsL_law_r1 : List Cond := [Cond.classLink RL 7 RX11, Cond.instantiable RX11 8, Cond.initialized RX11, Cond.classLink RL 18 RX12, Cond.instantiable RX12 35, Cond.initialized RX12, Cond.constantLong RL 54 (4294967295), Cond.methodLink RL 9 yL_cell, Cond.static yL_cell, Cond.initialized RL, Cond.code yL_cell cL_cell 2 (some .int), Cond.methodLink RL 15 yX11_init, Cond.instanceMethod yX11_init, Cond.code yX11_init cX11_init 3 none, Cond.methodLink RX11 1 objectInit, Cond.instanceMethod objectInit, Cond.code objectInit ⟨#[0xb1]⟩ 1 none, Cond.fieldLink RX11 7 "StyleRows" "seed" "J", Cond.classLink RX11 13 RX9, Cond.instantiable RX9 5, Cond.initialized RX9, Cond.fieldLink RX11 16 "StyleRows" "score" "LStyleRows$Score;", Cond.classLink RX11 20 RX10, Cond.instantiable RX10 2]
def wsL_law_r2 : List Cond := [Cond.initialized RX10, Cond.fieldLink RX11 23 "StyleRows" "tape" "LStyleRows$Tape;", Cond.classLink RX11 27 RX8, Cond.instantiable RX8 4, Cond.initialized RX8, Cond.fieldLink RX11 30 "StyleRows" "rules" "LStyleRows$Rules;", Cond.classLink RX11 34 RX7, Cond.instantiable RX7 4, Cond.initialized RX7, Cond.fieldLink RX11 37 "StyleRows" "reader" "LStyleRows$Reader;", Cond.classLink RX11 41 RX6, Cond.instantiable RX6 8, Cond.initialized RX6, Cond.fieldLink RX11 44 "StyleRows" "performer" "LStyleRows$Performer;", Cond.classLink RX11 48 RX5, Cond.instantiable RX5 2, Cond.initialized RX5, Cond.fieldLink RX11 51 "StyleRows" "order" "LStyleRows$Order;", Cond.classLink RX11 55 RX1, Cond.instantiable RX1 3, Cond.initialized RX1, Cond.fieldLink RX11 58 "StyleRows" "events" "LStyleRows$Events;", Cond.instanceMethod yX9_init, Cond.code yX9_init cX9_init 1 none]
def wsL_law_r3 : List Cond := [Cond.methodLink RX9 1 objectInit, Cond.classLink RX9 7 RX4, Cond.instantiable RX4 6, Cond.initialized RX4, Cond.fieldLink RX9 10 "StyleRows$Score" "notes" "LStyleRows$Notes;", Cond.classLink RX9 16 RX2, Cond.instantiable RX2 4, Cond.initialized RX2, Cond.fieldLink RX9 19 "StyleRows$Score" "levels" "LStyleRows$Levels;", Cond.classLink RX9 23 RX0, Cond.instantiable RX0 4, Cond.initialized RX0, Cond.fieldLink RX9 26 "StyleRows$Score" "arcs" "LStyleRows$Arcs;", Cond.fieldLink RX9 30 "StyleRows$Score" "beats" "I", Cond.fieldLink RX9 34 "StyleRows$Score" "unit" "I", Cond.instanceMethod yX4_init, Cond.code yX4_init cX4_init 1 none, Cond.methodLink RX4 3 objectInit, Cond.arrayClass .int, Cond.fieldLink RX4 11 "StyleRows$Notes" "voices" "[I", Cond.fieldLink RX4 15 "StyleRows$Notes" "starts" "[I", Cond.fieldLink RX4 18 "StyleRows$Notes" "lengths" "[I", Cond.fieldLink RX4 21 "StyleRows$Notes" "pitches" "[I", Cond.fieldLink RX4 24 "StyleRows$Notes" "marks" "[I"]
def wsL_law_r4 : List Cond := [Cond.instanceMethod yX2_init, Cond.code yX2_init cX2_init 1 none, Cond.methodLink RX2 3 objectInit, Cond.fieldLink RX2 11 "StyleRows$Levels" "ticks" "[I", Cond.fieldLink RX2 15 "StyleRows$Levels" "heights" "[I", Cond.arrayClass .boolean, Cond.fieldLink RX2 18 "StyleRows$Levels" "swelling" "[Z", Cond.instanceMethod yX0_init, Cond.code yX0_init cX0_init 1 none, Cond.methodLink RX0 3 objectInit, Cond.fieldLink RX0 11 "StyleRows$Arcs" "froms" "[I", Cond.fieldLink RX0 15 "StyleRows$Arcs" "tos" "[I", Cond.fieldLink RX0 18 "StyleRows$Arcs" "bys" "[I", Cond.instanceMethod yX10_init, Cond.code yX10_init cX10_init 1 none, Cond.methodLink RX10 3 objectInit, Cond.arrayClass .byte, Cond.fieldLink RX10 11 "StyleRows$Tape" "bytes" "[B", Cond.methodLink RX11 29 yX8_init, Cond.instanceMethod yX8_init, Cond.code yX8_init cX8_init 1 none, Cond.methodLink RX8 3 objectInit, Cond.classLink RX8 11 "[[I", Cond.fieldLink RX8 13 "StyleRows$Rules" "rows" "[[I"]
def wsL_law_r5 : List Cond := [Cond.fieldLink RX8 18 "StyleRows$Rules" "counting" "[I", Cond.methodLink RX8 22 yX8_clear, Cond.instanceMethod yX8_clear, Cond.selects RX8 yX8_clear yX8_clear, Cond.code yX8_clear cX8_clear 3 (some .int), Cond.fieldLink RX8 26 "StyleRows$Rules" "howMany" "I", Cond.fieldLink RX8 30 "StyleRows$Rules" "withStaged" "I", Cond.instanceMethod yX7_init, Cond.code yX7_init cX7_init 1 none, Cond.methodLink RX7 3 objectInit, Cond.instanceMethod yX6_init, Cond.code yX6_init cX6_init 1 none, Cond.methodLink RX6 1 objectInit, Cond.classLink RX6 7 RX1, Cond.fieldLink RX6 10 "StyleRows$Performer" "parts" "LStyleRows$Events;", Cond.instanceMethod yX1_init, Cond.code yX1_init cX1_init 1 none, Cond.methodLink RX1 3 objectInit, Cond.classLink RX1 11 "[[I", Cond.fieldLink RX1 13 "StyleRows$Events" "rows" "[[I", Cond.instanceMethod yX5_init, Cond.code yX5_init cX5_init 1 none, Cond.methodLink RX5 3 objectInit, Cond.arrayClass .long]
def wsL_law_r6 : List Cond := [Cond.fieldLink RX5 11 "StyleRows$Order" "keys" "[J", Cond.fieldLink RX5 17 "StyleRows$Order" "spare" "[J", Cond.methodLink RL 20 yX12_init, Cond.instanceMethod yX12_init, Cond.code yX12_init cX12_init 3 none, Cond.methodLink RX12 1 objectInit, Cond.fieldLink RX12 7 "StyleRowsModel" "voice" "[I", Cond.fieldLink RX12 13 "StyleRowsModel" "start" "[I", Cond.fieldLink RX12 16 "StyleRowsModel" "length" "[I", Cond.fieldLink RX12 19 "StyleRowsModel" "pitch" "[I", Cond.fieldLink RX12 22 "StyleRowsModel" "marks" "[I", Cond.fieldLink RX12 25 "StyleRowsModel" "levelTick" "[I", Cond.fieldLink RX12 28 "StyleRowsModel" "levelHigh" "[I", Cond.fieldLink RX12 31 "StyleRowsModel" "levelSwells" "[Z", Cond.fieldLink RX12 35 "StyleRowsModel" "beats" "I", Cond.fieldLink RX12 39 "StyleRowsModel" "unit" "I", Cond.fieldLink RX12 42 "StyleRowsModel" "arcFrom" "[I", Cond.fieldLink RX12 45 "StyleRowsModel" "arcTo" "[I", Cond.fieldLink RX12 48 "StyleRowsModel" "arcBy" "[I", Cond.fieldLink RX12 51 "StyleRowsModel" "ruleVoice" "[I", Cond.fieldLink RX12 54 "StyleRowsModel" "ruleName" "[I", Cond.fieldLink RX12 57 "StyleRowsModel" "ruleNumber" "[I", Cond.fieldLink RX12 60 "StyleRowsModel" "ruleRank" "[I", Cond.fieldLink RX12 63 "StyleRowsModel" "tape" "[I"]
def wsL_law_r7 : List Cond := [Cond.fieldLink RX12 66 "StyleRowsModel" "part" "[I", Cond.fieldLink RX12 69 "StyleRowsModel" "event" "[I", Cond.fieldLink RX12 72 "StyleRowsModel" "seed" "J", Cond.methodLink RL 21 yX11_note, Cond.instanceMethod yX11_note, Cond.selects RX11 yX11_note yX11_note, Cond.code yX11_note cX11_note 6 (some .int), Cond.methodLink RX11 62 yX11_isVoice, Cond.static yX11_isVoice, Cond.code yX11_isVoice cX11_isVoice 1 (some .boolean), Cond.methodLink RX11 66 yX11_isWithin, Cond.static yX11_isWithin, Cond.code yX11_isWithin cX11_isWithin 3 (some .boolean), Cond.methodLink RX11 76 yX4_add, Cond.instanceMethod yX4_add, Cond.selects RX4 yX4_add yX4_add, Cond.code yX4_add cX4_add 6 (some .int), Cond.fieldLink RX4 27 "StyleRows$Notes" "howMany" "I", Cond.methodLink RL 25 yX12_note, Cond.instanceMethod yX12_note, Cond.selects RX12 yX12_note yX12_note, Cond.code yX12_note cX12_note 6 (some .int), Cond.constantLong RX12 76 (3), Cond.constantLong RX12 82 (9600)]
def wsL_law_r8 : List Cond := [Cond.constantLong RX12 84 (960), Cond.constantLong RX12 86 (12), Cond.constantLong RX12 88 (115), Cond.constantLong RX12 90 (127), Cond.fieldLink RX12 92 "StyleRowsModel" "notes" "I", Cond.methodLink RX12 78 yX12_in, Cond.static yX12_in, Cond.code yX12_in cX12_in 6 (some .boolean), Cond.methodLink RL 26 yX11_mark, Cond.instanceMethod yX11_mark, Cond.selects RX11 yX11_mark yX11_mark, Cond.code yX11_mark cX11_mark 3 (some .int), Cond.methodLink RX11 80 yX4_has, Cond.instanceMethod yX4_has, Cond.selects RX4 yX4_has yX4_has, Cond.code yX4_has cX4_has 2 (some .boolean), Cond.methodLink RX11 83 yX4_changeMarks, Cond.instanceMethod yX4_changeMarks, Cond.selects RX4 yX4_changeMarks yX4_changeMarks, Cond.code yX4_changeMarks cX4_changeMarks 4 (some .int), Cond.methodLink RL 30 yX12_mark, Cond.instanceMethod yX12_mark, Cond.selects RX12 yX12_mark yX12_mark, Cond.code yX12_mark cX12_mark 4 (some .int)]
def wsL_law_r9 : List Cond := [Cond.methodLink RX12 95 yX12_isNote, Cond.instanceMethod yX12_isNote, Cond.selects RX12 yX12_isNote yX12_isNote, Cond.code yX12_isNote cX12_isNote 2 (some .boolean), Cond.methodLink RL 31 yX11_level, Cond.instanceMethod yX11_level, Cond.selects RX11 yX11_level yX11_level, Cond.code yX11_level cX11_level 4 (some .int), Cond.methodLink RX11 87 yX11_isTick, Cond.static yX11_isTick, Cond.code yX11_isTick cX11_isTick 1 (some .boolean), Cond.methodLink RX11 94 yX2_put, Cond.instanceMethod yX2_put, Cond.selects RX2 yX2_put yX2_put, Cond.code yX2_put cX2_put 6 (some .int), Cond.fieldLink RX2 22 "StyleRows$Levels" "howMany" "I", Cond.methodLink RX2 26 yX2_moveUpFrom, Cond.instanceMethod yX2_moveUpFrom, Cond.selects RX2 yX2_moveUpFrom yX2_moveUpFrom, Cond.code yX2_moveUpFrom cX2_moveUpFrom 3 none, Cond.methodLink RL 35 yX12_level, Cond.instanceMethod yX12_level, Cond.selects RX12 yX12_level yX12_level, Cond.code yX12_level cX12_level 6 (some .int)]
def wsL_law_r10 : List Cond := [Cond.constantLong RX12 99 (20000), Cond.fieldLink RX12 101 "StyleRowsModel" "levels" "I", Cond.methodLink RL 36 yX11_meter, Cond.instanceMethod yX11_meter, Cond.selects RX11 yX11_meter yX11_meter, Cond.code yX11_meter cX11_meter 3 (some .int), Cond.methodLink RX11 100 yX9_beat, Cond.instanceMethod yX9_beat, Cond.selects RX9 yX9_beat yX9_beat, Cond.code yX9_beat cX9_beat 3 none, Cond.methodLink RL 39 yX12_meter, Cond.instanceMethod yX12_meter, Cond.selects RX12 yX12_meter yX12_meter, Cond.code yX12_meter cX12_meter 3 (some .int), Cond.methodLink RL 40 yX11_arc, Cond.instanceMethod yX11_arc, Cond.selects RX11 yX11_arc yX11_arc, Cond.code yX11_arc cX11_arc 4 (some .int), Cond.methodLink RX11 108 yX0_shareWith, Cond.instanceMethod yX0_shareWith, Cond.selects RX0 yX0_shareWith yX0_shareWith, Cond.code yX0_shareWith cX0_shareWith 4 (some .boolean), Cond.fieldLink RX0 21 "StyleRows$Arcs" "howMany" "I", Cond.methodLink RX0 25 Lib.Math.max.name]
def wsL_law_r11 : List Cond := [Cond.static Lib.Math.max.name, Cond.initialized "java/lang/Math", Cond.code Lib.Math.max.name Lib.Math.max.code 2 (some .int), Cond.methodLink RX0 31 Lib.Math.min.name, Cond.static Lib.Math.min.name, Cond.code Lib.Math.min.name Lib.Math.min.code 2 (some .int), Cond.methodLink RX11 114 yX0_add, Cond.instanceMethod yX0_add, Cond.selects RX0 yX0_add yX0_add, Cond.code yX0_add cX0_add 4 (some .int), Cond.methodLink RL 44 yX12_arc, Cond.instanceMethod yX12_arc, Cond.selects RX12 yX12_arc yX12_arc, Cond.code yX12_arc cX12_arc 5 (some .int), Cond.constantLong RX12 104 (-400), Cond.constantLong RX12 106 (400), Cond.fieldLink RX12 108 "StyleRowsModel" "arcs" "I", Cond.methodLink RL 45 yX11_levelAt, Cond.instanceMethod yX11_levelAt, Cond.selects RX11 yX11_levelAt yX11_levelAt, Cond.code yX11_levelAt cX11_levelAt 2 (some .int), Cond.methodLink RX11 117 yX2_at, Cond.instanceMethod yX2_at, Cond.selects RX2 yX2_at yX2_at]
def wsL_law_r12 : List Cond := [Cond.code yX2_at cX2_at 6 (some .int), Cond.static yX11_quotient, Cond.code yX11_quotient cX11_quotient 4 (some .int), Cond.methodLink RX11 202 yJ9_floorDiv_f86c9, Cond.static yJ9_floorDiv_f86c9, Cond.initialized RJ9, Cond.code yJ9_floorDiv_f86c9 cJ9_floorDiv_f86c9 6 (some .long), Cond.methodLink RL 49 yX12_levelAt, Cond.instanceMethod yX12_levelAt, Cond.selects RX12 yX12_levelAt yX12_levelAt, Cond.code yX12_levelAt cX12_levelAt 2 (some .int), Cond.methodLink RX12 119 yX12_highAt, Cond.instanceMethod yX12_highAt, Cond.selects RX12 yX12_highAt yX12_highAt, Cond.code yX12_highAt cX12_highAt 4 (some .int), Cond.methodLink RX12 111 yX12_levelBy, Cond.instanceMethod yX12_levelBy, Cond.selects RX12 yX12_levelBy yX12_levelBy, Cond.code yX12_levelBy cX12_levelBy 6 (some .int), Cond.methodLink RX12 115 yX12_floor, Cond.static yX12_floor, Cond.code yX12_floor cX12_floor 6 (some .long), Cond.methodLink RL 50 yX11_timeOf, Cond.instanceMethod yX11_timeOf]
def wsL_law_r13 : List Cond := [Cond.selects RX11 yX11_timeOf yX11_timeOf, Cond.code yX11_timeOf cX11_timeOf 2 (some .int), Cond.methodLink RX11 121 yX0_bent, Cond.instanceMethod yX0_bent, Cond.selects RX0 yX0_bent yX0_bent, Cond.code yX0_bent cX0_bent 5 (some .int), Cond.constantLong RX0 38 (4), Cond.methodLink RL 53 yX12_timeOf, Cond.instanceMethod yX12_timeOf, Cond.selects RX12 yX12_timeOf yX12_timeOf, Cond.code yX12_timeOf cX12_timeOf 2 (some .int), Cond.methodLink RX12 125 yX12_time, Cond.instanceMethod yX12_time, Cond.selects RX12 yX12_time yX12_time, Cond.code yX12_time cX12_time 6 (some .int), Cond.constantLong RX12 123 (4), Cond.methodLink RL 56 yX11_feed, Cond.instanceMethod yX11_feed, Cond.selects RX11 yX11_feed yX11_feed, Cond.code yX11_feed cX11_feed 4 (some .int), Cond.methodLink RX11 124 yX10_append, Cond.instanceMethod yX10_append, Cond.selects RX10 yX10_append yX10_append, Cond.code yX10_append cX10_append 5 (some .int)]
def wsL_law_r14 : List Cond := [Cond.fieldLink RX10 15 "StyleRows$Tape" "length" "I", Cond.methodLink RL 60 yX12_feed, Cond.instanceMethod yX12_feed, Cond.selects RX12 yX12_feed yX12_feed, Cond.code yX12_feed cX12_feed 5 (some .int), Cond.constantLong RX12 128 (8), Cond.fieldLink RX12 130 "StyleRowsModel" "size" "I", Cond.constantLong RX12 133 (255), Cond.methodLink RL 61 yX11_read, Cond.instanceMethod yX11_read, Cond.selects RX11 yX11_read yX11_read, Cond.code yX11_read cX11_read 2 (some .int), Cond.methodLink RX11 128 yX7_findFault, Cond.instanceMethod yX7_findFault, Cond.selects RX7 yX7_findFault yX7_findFault, Cond.code yX7_findFault cX7_findFault 4 (some .int), Cond.fieldLink RX7 14 "StyleRows$Reader" "to" "I", Cond.fieldLink RX7 24 "StyleRows$Reader" "kind" "I", Cond.fieldLink RX7 31 "StyleRows$Reader" "from" "I", Cond.methodLink RX7 9 yX8_dropStaged, Cond.instanceMethod yX8_dropStaged, Cond.selects RX8 yX8_dropStaged yX8_dropStaged, Cond.code yX8_dropStaged cX8_dropStaged 1 none, Cond.methodLink RX7 20 yX7_takePiece]
def wsL_law_r15 : List Cond := [Cond.instanceMethod yX7_takePiece, Cond.selects RX7 yX7_takePiece yX7_takePiece, Cond.code yX7_takePiece cX7_takePiece 2 none, Cond.methodLink RX7 103 yX7_kindAt, Cond.static yX7_kindAt, Cond.code yX7_kindAt cX7_kindAt 3 (some .int), Cond.methodLink RX7 66 yX10_at, Cond.instanceMethod yX10_at, Cond.selects RX10 yX10_at yX10_at, Cond.code yX10_at cX10_at 2 (some .int), Cond.methodLink RX7 27 yX7_takeRule, Cond.instanceMethod yX7_takeRule, Cond.selects RX7 yX7_takeRule yX7_takeRule, Cond.code yX7_takeRule cX7_takeRule 7 (some .boolean), Cond.fieldLink RX7 48 "StyleRows$Reader" "number" "I", Cond.methodLink RX7 34 yX8_areFull, Cond.instanceMethod yX8_areFull, Cond.selects RX8 yX8_areFull yX8_areFull, Cond.code yX8_areFull cX8_areFull 1 (some .boolean), Cond.methodLink RX7 40 yX7_isWord, Cond.instanceMethod yX7_isWord, Cond.selects RX7 yX7_isWord yX7_isWord, Cond.code yX7_isWord cX7_isWord 4 (some .boolean), Cond.methodLink RX7 91 yJ0_length_8abf5]
def wsL_law_r16 : List Cond := [Cond.instanceMethod yJ0_length_8abf5, Cond.selects RJ0 yJ0_length_8abf5 yJ0_length_8abf5, Cond.initialized RJ0, Cond.code yJ0_length_8abf5 cJ0_length_8abf5 1 (some .int), Cond.fieldLink RJ0 9 "java/lang/String" "value" "[B", Cond.methodLink RJ0 335 yJ0_coder_7d493, Cond.instanceMethod yJ0_coder_7d493, Cond.selects RJ0 yJ0_coder_7d493 yJ0_coder_7d493, Cond.code yJ0_coder_7d493 cJ0_coder_7d493 1 (some .byte), Cond.fieldLink RJ0 38 "java/lang/String" "COMPACT_STRINGS" "Z", Cond.fieldLink RJ0 15 "java/lang/String" "coder" "B", Cond.methodLink RX7 97 yJ0_charAt_5068e, Cond.instanceMethod yJ0_charAt_5068e, Cond.selects RJ0 yJ0_charAt_5068e yJ0_charAt_5068e, Cond.code yJ0_charAt_5068e cJ0_charAt_5068e 2 (some .char), Cond.methodLink RJ0 492 yJ0_isLatin1_aae02, Cond.instanceMethod yJ0_isLatin1_aae02, Cond.selects RJ0 yJ0_isLatin1_aae02 yJ0_isLatin1_aae02, Cond.code yJ0_isLatin1_aae02 cJ0_isLatin1_aae02 1 (some .boolean), Cond.methodLink RJ0 495 yJ1_charAt_3b067, Cond.static yJ1_charAt_3b067, Cond.initialized RJ1, Cond.code yJ1_charAt_3b067 cJ1_charAt_3b067 2 (some .char), Cond.methodLink RJ1 9 yJ0_checkIndex_df160]
def wsL_law_r17 : List Cond := [Cond.static yJ0_checkIndex_df160, Cond.code yJ0_checkIndex_df160 cJ0_checkIndex_df160 2 none, Cond.fieldLink RJ0 1053 "jdk/internal/util/Preconditions" "SIOOBE_FORMATTER" "Ljava/util/function/BiFunction;", Cond.methodLink RJ0 1059 yJ3_checkIndex_8e157, Cond.static yJ3_checkIndex_8e157, Cond.initialized RJ3, Cond.code yJ3_checkIndex_8e157 cJ3_checkIndex_8e157 3 (some .int), Cond.methodLink RJ0 498 yJ2_charAt_3b067, Cond.static yJ2_charAt_3b067, Cond.initialized RJ2, Cond.code yJ2_charAt_3b067 cJ2_charAt_3b067 2 (some .char), Cond.methodLink RJ2 67 yJ2_checkIndex_2214a, Cond.static yJ2_checkIndex_2214a, Cond.code yJ2_checkIndex_2214a cJ2_checkIndex_2214a 2 none, Cond.methodLink RJ2 48 yJ2_length_9d52b, Cond.static yJ2_length_9d52b, Cond.code yJ2_length_9d52b cJ2_length_9d52b 1 (some .int), Cond.methodLink RJ2 414 yJ0_checkIndex_df160, Cond.methodLink RJ2 71 yJ2_getChar_3b067, Cond.static yJ2_getChar_3b067, Cond.code yJ2_getChar_3b067 cJ2_getChar_3b067 2 (some .char), Cond.fieldLink RJ2 44 "java/lang/StringUTF16" "$assertionsDisabled" "Z", Cond.fieldLink RJ2 59 "java/lang/StringUTF16" "HI_BYTE_SHIFT" "I", Cond.fieldLink RJ2 63 "java/lang/StringUTF16" "LO_BYTE_SHIFT" "I"]
def wsL_law_r18 : List Cond := [Cond.methodLink RX7 44 yX7_takeNumber, Cond.instanceMethod yX7_takeNumber, Cond.selects RX7 yX7_takeNumber yX7_takeNumber, Cond.code yX7_takeNumber cX7_takeNumber 5 (some .boolean), Cond.constant RX7 76 (1000000), Cond.methodLink RX7 77 Lib.Math.min.name, Cond.methodLink RX7 51 yX7_nameThere, Cond.instanceMethod yX7_nameThere, Cond.selects RX7 yX7_nameThere yX7_nameThere, Cond.code yX7_nameThere cX7_nameThere 3 (some .int), Cond.methodLink RX7 87 yX3_wordOf, Cond.static yX3_wordOf, Cond.initialized RX3, Cond.code yX3_wordOf cX3_wordOf 1 (some (.object "java/lang/String")), Cond.methodLink RX7 72 yX8_stage, Cond.instanceMethod yX8_stage, Cond.selects RX8 yX8_stage yX8_stage, Cond.code yX8_stage cX8_stage 5 none, Cond.methodLink RX8 44 yX8_areFull, Cond.methodLink RX11 132 yX10_clear, Cond.instanceMethod yX10_clear, Cond.selects RX10 yX10_clear yX10_clear, Cond.code yX10_clear cX10_clear 1 none, Cond.methodLink RX11 135 yX8_keepStaged]
def wsL_law_r19 : List Cond := [Cond.instanceMethod yX8_keepStaged, Cond.selects RX8 yX8_keepStaged yX8_keepStaged, Cond.code yX8_keepStaged cX8_keepStaged 2 (some .int), Cond.methodLink RX8 48 yX8_letCount, Cond.instanceMethod yX8_letCount, Cond.selects RX8 yX8_letCount yX8_letCount, Cond.code yX8_letCount cX8_letCount 5 none, Cond.methodLink RX8 52 yX8_isOutrankedBy, Cond.instanceMethod yX8_isOutrankedBy, Cond.selects RX8 yX8_isOutrankedBy yX8_isOutrankedBy, Cond.code yX8_isOutrankedBy cX8_isOutrankedBy 3 (some .boolean), Cond.methodLink RL 65 yX12_read, Cond.instanceMethod yX12_read, Cond.selects RX12 yX12_read yX12_read, Cond.code yX12_read cX12_read 4 (some .int), Cond.fieldLink RX12 193 "StyleRowsModel" "rules" "I", Cond.fieldLink RX12 135 "StyleRowsModel" "next" "I", Cond.fieldLink RX12 151 "StyleRowsModel" "sort" "I", Cond.fieldLink RX12 141 "StyleRowsModel" "first" "I", Cond.methodLink RX12 176 yX12_take, Cond.instanceMethod yX12_take, Cond.selects RX12 yX12_take yX12_take, Cond.code yX12_take cX12_take 1 none, Cond.fieldLink RX12 144 "StyleRowsModel" "told" "J"]
def wsL_law_r20 : List Cond := [Cond.constantLong RX12 147 (97), Cond.constantLong RX12 149 (122), Cond.constantLong RX12 154 (32), Cond.constantLong RX12 156 (96), Cond.constantLong RX12 158 (-1), Cond.constantLong RX12 160 (48), Cond.constantLong RX12 162 (57), Cond.constantLong RX12 164 (100000), Cond.constantLong RX12 166 (10), Cond.methodLink RX12 138 yX12_at, Cond.instanceMethod yX12_at, Cond.selects RX12 yX12_at yX12_at, Cond.code yX12_at cX12_at 2 (some .int), Cond.methodLink RX12 196 yX12_takeRule, Cond.instanceMethod yX12_takeRule, Cond.selects RX12 yX12_takeRule yX12_takeRule, Cond.code yX12_takeRule cX12_takeRule 3 (some .boolean), Cond.methodLink RX12 168 yX12_word, Cond.static yX12_word, Cond.code yX12_word cX12_word 8 (some .long), Cond.methodLink RX12 179 yX12_isNumber, Cond.instanceMethod yX12_isNumber, Cond.selects RX12 yX12_isNumber yX12_isNumber, Cond.code yX12_isNumber cX12_isNumber 3 (some .boolean)]
def wsL_law_r21 : List Cond := [Cond.methodLink RX12 183 yX12_named, Cond.instanceMethod yX12_named, Cond.selects RX12 yX12_named yX12_named, Cond.code yX12_named cX12_named 2 (some .int), Cond.methodLink RX12 172 yX12_wordOf, Cond.static yX12_wordOf, Cond.code yX12_wordOf cX12_wordOf 1 (some .long), Cond.methodLink RX12 187 yX12_lowest, Cond.static yX12_lowest, Cond.code yX12_lowest cX12_lowest 1 (some .int), Cond.methodLink RX12 190 yX12_highest, Cond.static yX12_highest, Cond.code yX12_highest cX12_highest 1 (some .int), Cond.methodLink RL 66 yX11_plain, Cond.instanceMethod yX11_plain, Cond.selects RX11 yX11_plain yX11_plain, Cond.code yX11_plain cX11_plain 1 (some .int), Cond.methodLink RX11 139 yX8_clear, Cond.methodLink RL 69 yX12_plain, Cond.instanceMethod yX12_plain, Cond.selects RX12 yX12_plain yX12_plain, Cond.code yX12_plain cX12_plain 2 (some .int), Cond.methodLink RL 70 yX11_rule, Cond.instanceMethod yX11_rule]
def wsL_law_r22 : List Cond := [Cond.selects RX11 yX11_rule yX11_rule, Cond.code yX11_rule cX11_rule 3 (some .int), Cond.methodLink RX11 141 yX8_has, Cond.instanceMethod yX8_has, Cond.selects RX8 yX8_has yX8_has, Cond.code yX8_has cX8_has 2 (some .boolean), Cond.methodLink RL 73 yX12_rule, Cond.instanceMethod yX12_rule, Cond.selects RX12 yX12_rule yX12_rule, Cond.code yX12_rule cX12_rule 3 (some .int), Cond.methodLink RL 74 yX11_value, Cond.instanceMethod yX11_value, Cond.selects RX11 yX11_value yX11_value, Cond.code yX11_value cX11_value 3 (some .int), Cond.methodLink RX11 146 yX3_has, Cond.static yX3_has, Cond.code yX3_has cX3_has 1 (some .boolean), Cond.methodLink RX11 149 yX8_numberFor, Cond.instanceMethod yX8_numberFor, Cond.selects RX8 yX8_numberFor yX8_numberFor, Cond.code yX8_numberFor cX8_numberFor 4 (some .int), Cond.methodLink RX8 37 yX8_countingFor, Cond.instanceMethod yX8_countingFor, Cond.selects RX8 yX8_countingFor yX8_countingFor]
def wsL_law_r23 : List Cond := [Cond.code yX8_countingFor cX8_countingFor 3 (some .int), Cond.methodLink RL 77 yX12_value, Cond.instanceMethod yX12_value, Cond.selects RX12 yX12_value yX12_value, Cond.code yX12_value cX12_value 3 (some .int), Cond.methodLink RX12 206 yX12_number, Cond.instanceMethod yX12_number, Cond.selects RX12 yX12_number yX12_number, Cond.code yX12_number cX12_number 4 (some .int), Cond.methodLink RX12 199 yX12_counts, Cond.instanceMethod yX12_counts, Cond.selects RX12 yX12_counts yX12_counts, Cond.code yX12_counts cX12_counts 6 (some .int), Cond.methodLink RX12 203 yX12_usual, Cond.static yX12_usual, Cond.code yX12_usual cX12_usual 1 (some .int), Cond.methodLink RL 78 yX11_why, Cond.instanceMethod yX11_why, Cond.selects RX11 yX11_why yX11_why, Cond.code yX11_why cX11_why 3 (some .int), Cond.methodLink RX11 152 yX8_countingFor, Cond.methodLink RL 81 yX12_why, Cond.instanceMethod yX12_why, Cond.selects RX12 yX12_why yX12_why]
def wsL_law_r24 : List Cond := [Cond.code yX12_why cX12_why 3 (some .int), Cond.methodLink RL 82 yX11_perform, Cond.instanceMethod yX11_perform, Cond.selects RX11 yX11_perform yX11_perform, Cond.code yX11_perform cX11_perform 2 (some .int), Cond.methodLink RX11 155 yX6_makeParts, Cond.instanceMethod yX6_makeParts, Cond.selects RX6 yX6_makeParts yX6_makeParts, Cond.code yX6_makeParts cX6_makeParts 6 (some .boolean), Cond.fieldLink RX6 47 "StyleRows$Performer" "left" "I", Cond.fieldLink RX6 57 "StyleRows$Performer" "loud" "I", Cond.fieldLink RX6 64 "StyleRows$Performer" "on" "I", Cond.methodLink RX6 16 yX1_clear, Cond.instanceMethod yX1_clear, Cond.selects RX1 yX1_clear yX1_clear, Cond.code yX1_clear cX1_clear 1 none, Cond.fieldLink RX1 16 "StyleRows$Events" "howMany" "I", Cond.fieldLink RX1 20 "StyleRows$Events" "tooMany" "Z", Cond.methodLink RX6 35 yX6_takeNote, Cond.instanceMethod yX6_takeNote, Cond.selects RX6 yX6_takeNote yX6_takeNote, Cond.code yX6_takeNote cX6_takeNote 3 none, Cond.fieldLink RX6 71 "StyleRows$Performer" "note" "I", Cond.fieldLink RX6 77 "StyleRows$Performer" "voice" "I"]
def wsL_law_r25 : List Cond := [Cond.fieldLink RX6 83 "StyleRows$Performer" "pitch" "I", Cond.fieldLink RX6 89 "StyleRows$Performer" "marks" "I", Cond.methodLink RX6 43 yX6_longOf, Cond.instanceMethod yX6_longOf, Cond.selects RX6 yX6_longOf yX6_longOf, Cond.code yX6_longOf cX6_longOf 6 (some .int), Cond.methodLink RX6 103 Lib.Math.min.name, Cond.methodLink RX6 108 Lib.Math.max.name, Cond.methodLink RX6 91 yX6_isMarked, Cond.instanceMethod yX6_isMarked, Cond.selects RX6 yX6_isMarked yX6_isMarked, Cond.code yX6_isMarked cX6_isMarked 2 (some .boolean), Cond.methodLink RX6 97 yX8_numberFor, Cond.methodLink RX6 53 yX6_loudOf, Cond.instanceMethod yX6_loudOf, Cond.selects RX6 yX6_loudOf yX6_loudOf, Cond.code yX6_loudOf cX6_loudOf 5 (some .int), Cond.methodLink RX6 115 yX2_at, Cond.methodLink RX6 121 yX9_beginsBar, Cond.instanceMethod yX9_beginsBar, Cond.selects RX9 yX9_beginsBar yX9_beginsBar, Cond.code yX9_beginsBar cX9_beginsBar 2 (some .boolean), Cond.methodLink RX9 37 yX9_isMultiple, Cond.static yX9_isMultiple]
def wsL_law_r26 : List Cond := [Cond.code yX9_isMultiple cX9_isMultiple 2 (some .boolean), Cond.methodLink RX6 124 yX9_beginsBeat, Cond.instanceMethod yX9_beginsBeat, Cond.selects RX9 yX9_beginsBeat yX9_beginsBeat, Cond.code yX9_beginsBeat cX9_beginsBeat 2 (some .boolean), Cond.methodLink RX6 60 yX6_onOf, Cond.instanceMethod yX6_onOf, Cond.selects RX6 yX6_onOf yX6_onOf, Cond.code yX6_onOf cX6_onOf 6 (some .int), Cond.methodLink RX6 127 yX6_drawOf, Cond.instanceMethod yX6_drawOf, Cond.selects RX6 yX6_drawOf yX6_drawOf, Cond.code yX6_drawOf cX6_drawOf 6 (some .int), Cond.constantLong RX6 131 (-7046029254386353131), Cond.constantLong RX6 133 (-4658895280553007687), Cond.constantLong RX6 135 (2), Cond.methodLink RX6 137 yJ9_floorMod_f86c9, Cond.static yJ9_floorMod_f86c9, Cond.code yJ9_floorMod_f86c9 cJ9_floorMod_f86c9 6 (some .long), Cond.methodLink RX6 67 yX6_addParts, Cond.instanceMethod yX6_addParts, Cond.selects RX6 yX6_addParts yX6_addParts, Cond.code yX6_addParts cX6_addParts 3 none, Cond.methodLink RX6 141 yX6_roll]
def wsL_law_r27 : List Cond := [Cond.instanceMethod yX6_roll, Cond.selects RX6 yX6_roll yX6_roll, Cond.code yX6_roll cX6_roll 4 none, Cond.methodLink RX6 159 yX4_rolledAhead, Cond.instanceMethod yX4_rolledAhead, Cond.selects RX4 yX4_rolledAhead yX4_rolledAhead, Cond.code yX4_rolledAhead cX4_rolledAhead 4 (some .int), Cond.methodLink RX4 35 yX4_isInChord, Cond.instanceMethod yX4_isInChord, Cond.selects RX4 yX4_isInChord yX4_isInChord, Cond.code yX4_isInChord cX4_isInChord 4 (some .boolean), Cond.methodLink RX4 39 yX4_isLower, Cond.instanceMethod yX4_isLower, Cond.selects RX4 yX4_isLower yX4_isLower, Cond.code yX4_isLower cX4_isLower 3 (some .boolean), Cond.methodLink RX6 144 yX6_addLean, Cond.instanceMethod yX6_addLean, Cond.selects RX6 yX6_addLean yX6_addLean, Cond.code yX6_addLean cX6_addLean 3 none, Cond.methodLink RX6 155 yX6_addPart, Cond.instanceMethod yX6_addPart, Cond.selects RX6 yX6_addPart yX6_addPart, Cond.code yX6_addPart cX6_addPart 5 none, Cond.methodLink RX6 168 yX1_add]
def wsL_law_r28 : List Cond := [Cond.instanceMethod yX1_add, Cond.selects RX1 yX1_add yX1_add, Cond.code yX1_add cX1_add 8 none, Cond.methodLink RX6 148 yX6_addTrill, Cond.instanceMethod yX6_addTrill, Cond.selects RX6 yX6_addTrill yX6_addTrill, Cond.code yX6_addTrill cX6_addTrill 7 (some .boolean), Cond.methodLink RX6 152 yX6_addTurn, Cond.instanceMethod yX6_addTurn, Cond.selects RX6 yX6_addTurn yX6_addTurn, Cond.code yX6_addTurn cX6_addTurn 3 (some .boolean), Cond.methodLink RX11 162 yX1_bend, Cond.instanceMethod yX1_bend, Cond.selects RX1 yX1_bend yX1_bend, Cond.code yX1_bend cX1_bend 5 none, Cond.methodLink RX1 34 Lib.Math.max.name, Cond.methodLink RX1 28 yX0_bent, Cond.methodLink RX11 166 yX5_sort, Cond.instanceMethod yX5_sort, Cond.selects RX5 yX5_sort yX5_sort, Cond.code yX5_sort cX5_sort 5 none, Cond.methodLink RX5 28 Lib.Math.min.name, Cond.methodLink RX5 24 yX5_keyOf, Cond.static yX5_keyOf]
def wsL_law_r29 : List Cond := [Cond.code yX5_keyOf cX5_keyOf 4 (some .long), Cond.constantLong RX5 42 (4), Cond.constantLong RX5 44 (128), Cond.constantLong RX5 46 (400), Cond.methodLink RX5 34 yX5_merge, Cond.instanceMethod yX5_merge, Cond.selects RX5 yX5_merge yX5_merge, Cond.code yX5_merge cX5_merge 7 none, Cond.methodLink RX11 170 yX1_takeInOrder, Cond.instanceMethod yX1_takeInOrder, Cond.selects RX1 yX1_takeInOrder yX1_takeInOrder, Cond.code yX1_takeInOrder cX1_takeInOrder 6 none, Cond.methodLink RX1 40 yX5_partAt, Cond.instanceMethod yX5_partAt, Cond.selects RX5 yX5_partAt yX5_partAt, Cond.code yX5_partAt cX5_partAt 2 (some .int), Cond.methodLink RX5 48 yJ9_floorMod_1978a, Cond.static yJ9_floorMod_1978a, Cond.code yJ9_floorMod_1978a cJ9_floorMod_1978a 3 (some .int), Cond.methodLink RJ9 146 yJ9_floorMod_f86c9, Cond.methodLink RX11 174 yX1_endAtRepeats, Cond.instanceMethod yX1_endAtRepeats, Cond.selects RX1 yX1_endAtRepeats yX1_endAtRepeats, Cond.code yX1_endAtRepeats cX1_endAtRepeats 2 none]
def wsL_law_r30 : List Cond := [Cond.methodLink RX1 45 yX1_endAtRepeat, Cond.instanceMethod yX1_endAtRepeat, Cond.selects RX1 yX1_endAtRepeat yX1_endAtRepeat, Cond.code yX1_endAtRepeat cX1_endAtRepeat 4 none, Cond.methodLink RX1 49 yX1_endOf, Cond.instanceMethod yX1_endOf, Cond.selects RX1 yX1_endOf yX1_endOf, Cond.code yX1_endOf cX1_endOf 2 (some .int), Cond.methodLink RX1 52 yX1_repeats, Cond.instanceMethod yX1_repeats, Cond.selects RX1 yX1_repeats yX1_repeats, Cond.code yX1_repeats cX1_repeats 4 (some .boolean), Cond.methodLink RL 85 yX12_perform, Cond.instanceMethod yX12_perform, Cond.selects RX12 yX12_perform yX12_perform, Cond.code yX12_perform cX12_perform 4 (some .int), Cond.fieldLink RX12 209 "StyleRowsModel" "parts" "I", Cond.fieldLink RX12 257 "StyleRowsModel" "events" "I", Cond.methodLink RX12 253 yX12_performNote, Cond.instanceMethod yX12_performNote, Cond.selects RX12 yX12_performNote yX12_performNote, Cond.code yX12_performNote cX12_performNote 4 none, Cond.fieldLink RX12 212 "StyleRowsModel" "on" "I", Cond.fieldLink RX12 215 "StyleRowsModel" "left" "I"]
def wsL_law_r31 : List Cond := [Cond.fieldLink RX12 230 "StyleRowsModel" "loud" "I", Cond.methodLink RX12 237 yX12_onOf, Cond.instanceMethod yX12_onOf, Cond.selects RX12 yX12_onOf yX12_onOf, Cond.code yX12_onOf cX12_onOf 6 (some .int), Cond.constantLong RX12 224 (-7046029254386353131), Cond.constantLong RX12 226 (-4658895280553007687), Cond.constantLong RX12 228 (2), Cond.methodLink RX12 240 yX12_longOf, Cond.instanceMethod yX12_longOf, Cond.selects RX12 yX12_longOf yX12_longOf, Cond.code yX12_longOf cX12_longOf 5 (some .int), Cond.methodLink RX12 218 yX12_has, Cond.instanceMethod yX12_has, Cond.selects RX12 yX12_has yX12_has, Cond.code yX12_has cX12_has 3 (some .boolean), Cond.methodLink RX12 221 yX12_lesser, Cond.static yX12_lesser, Cond.code yX12_lesser cX12_lesser 2 (some .int), Cond.methodLink RX12 243 yX12_loudOf, Cond.instanceMethod yX12_loudOf, Cond.selects RX12 yX12_loudOf yX12_loudOf, Cond.code yX12_loudOf cX12_loudOf 3 (some .int), Cond.methodLink RX12 246 yX12_rolledAhead]
def wsL_law_r32 : List Cond := [Cond.instanceMethod yX12_rolledAhead, Cond.selects RX12 yX12_rolledAhead yX12_rolledAhead, Cond.code yX12_rolledAhead cX12_rolledAhead 5 (some .int), Cond.methodLink RX12 233 yX12_sounds, Cond.instanceMethod yX12_sounds, Cond.selects RX12 yX12_sounds yX12_sounds, Cond.code yX12_sounds cX12_sounds 8 none, Cond.methodLink RX12 249 yX12_trill, Cond.instanceMethod yX12_trill, Cond.selects RX12 yX12_trill yX12_trill, Cond.code yX12_trill cX12_trill 7 none, Cond.methodLink RX12 260 yX12_isAhead, Cond.instanceMethod yX12_isAhead, Cond.selects RX12 yX12_isAhead yX12_isAhead, Cond.code yX12_isAhead cX12_isAhead 4 (some .boolean), Cond.methodLink RX12 263 yX12_cut, Cond.instanceMethod yX12_cut, Cond.selects RX12 yX12_cut yX12_cut, Cond.code yX12_cut cX12_cut 7 (some .int), Cond.methodLink RL 86 yX11_event, Cond.instanceMethod yX11_event, Cond.selects RX11 yX11_event yX11_event, Cond.code yX11_event cX11_event 3 (some .int), Cond.methodLink RX11 181 yX1_has]
def wsL_law_r33 : List Cond := [Cond.instanceMethod yX1_has, Cond.selects RX1 yX1_has yX1_has, Cond.code yX1_has cX1_has 2 (some .boolean), Cond.methodLink RL 89 yX12_event, Cond.instanceMethod yX12_event, Cond.selects RX12 yX12_event yX12_event, Cond.code yX12_event cX12_event 3 (some .int), Cond.constantLong RX12 266 (6), Cond.methodLink RL 90 yX11_sounding, Cond.instanceMethod yX11_sounding, Cond.selects RX11 yX11_sounding yX11_sounding, Cond.code yX11_sounding cX11_sounding 2 (some .int), Cond.methodLink RX11 183 yX1_soundingAt, Cond.instanceMethod yX1_soundingAt, Cond.selects RX1 yX1_soundingAt yX1_soundingAt, Cond.code yX1_soundingAt cX1_soundingAt 4 (some .int), Cond.methodLink RL 93 yX12_sounding, Cond.instanceMethod yX12_sounding, Cond.selects RX12 yX12_sounding yX12_sounding, Cond.code yX12_sounding cX12_sounding 4 (some .int), Cond.methodLink RL 94 yX11_span, Cond.instanceMethod yX11_span, Cond.selects RX11 yX11_span yX11_span, Cond.code yX11_span cX11_span 3 (some .int)]
def wsL_law_r34 : List Cond := [Cond.methodLink RX11 186 yX1_howManyOf, Cond.instanceMethod yX1_howManyOf, Cond.selects RX1 yX1_howManyOf yX1_howManyOf, Cond.code yX1_howManyOf cX1_howManyOf 4 (some .int), Cond.methodLink RX11 189 yX1_firstBeginOf, Cond.instanceMethod yX1_firstBeginOf, Cond.selects RX1 yX1_firstBeginOf yX1_firstBeginOf, Cond.code yX1_firstBeginOf cX1_firstBeginOf 3 (some .int), Cond.methodLink RX11 192 yX1_lastEndOf, Cond.instanceMethod yX1_lastEndOf, Cond.selects RX1 yX1_lastEndOf yX1_lastEndOf, Cond.code yX1_lastEndOf cX1_lastEndOf 5 (some .int), Cond.methodLink RL 97 yX12_span, Cond.instanceMethod yX12_span, Cond.selects RX12 yX12_span yX12_span, Cond.code yX12_span cX12_span 8 (some .int), Cond.methodLink RL 98 yX11_count, Cond.instanceMethod yX11_count, Cond.selects RX11 yX11_count yX11_count, Cond.code yX11_count cX11_count 2 (some .int), Cond.methodLink RL 101 yX12_count, Cond.instanceMethod yX12_count, Cond.selects RX12 yX12_count yX12_count, Cond.code yX12_count cX12_count 2 (some .int)]
def wsL_law : List Cond := (wsL_law_r1 ++ (wsL_law_r2 ++ (wsL_law_r3 ++ (wsL_law_r4 ++ (wsL_law_r5 ++ (wsL_law_r6 ++ (wsL_law_r7 ++ (wsL_law_r8 ++ (wsL_law_r9 ++ (wsL_law_r10 ++ (wsL_law_r11 ++ (wsL_law_r12 ++ (wsL_law_r13 ++ (wsL_law_r14 ++ (wsL_law_r15 ++ (wsL_law_r16 ++ (wsL_law_r17 ++ (wsL_law_r18 ++ (wsL_law_r19 ++ (wsL_law_r20 ++ (wsL_law_r21 ++ (wsL_law_r22 ++ (wsL_law_r23 ++ (wsL_law_r24 ++ (wsL_law_r25 ++ (wsL_law_r26 ++ (wsL_law_r27 ++ (wsL_law_r28 ++ (wsL_law_r29 ++ (wsL_law_r30 ++ (wsL_law_r31 ++ (wsL_law_r32 ++ (wsL_law_r33 ++ wsL_law_r34))))))))))))))))))))))))))))))))) ++ wsX110 ++ wsX120 ++ wsX90 ++ wsX100 ++ wsX80 ++ wsX70 ++ wsX60 ++ wsX50 ++ wsX10 ++ wsX40 ++ wsX20 ++ wsX00 ++ ([] : List Cond)
theorem inJ9 : ∀ w ∈ wsJ90, w ∈ lw_tbl := by decide +kernel
theorem inJ0 : ∀ w ∈ wsJ00, w ∈ lw_tbl := by decide +kernel
theorem inJ1 : ∀ w ∈ wsJ10, w ∈ lw_tbl := by decide +kernel
theorem inJ2 : ∀ w ∈ wsJ20, w ∈ lw_tbl := by decide +kernel
theorem inJ3 : ∀ w ∈ wsJ30, w ∈ lw_tbl := by decide +kernel
abbrev vwCl : List vw_C := [(RX0, TX0, 4), (RX1, TX1, 3), (RX2, TX2, 4), (RX4, TX4, 6), (RX5, TX5, 2), (RX6, TX6, 8), (RX7, TX7, 4), (RX8, TX8, 4), (RX9, TX9, 5), (RX10, TX10, 2), (RX11, TX11, 8), (RX12, TX12, 35)]
end
section
/-! THE STATE of the class and of the reference, as numbers: scalars gI (ints and booleans of objects), rows gA (by the number of their cell), rows of longs gL, the numbers of the cells that two fields name (gR), longs gJ -/
abbrev St : Type := (Nat → Int32) × (Nat → Nat → Int32) × (Nat → Nat → Int64) × (Nat → Nat) × (Nat → Int64)
def gI (S : St) (k : Nat) : Int32 := S.1 k
def gA (S : St) (k : Nat) : Nat → Int32 := S.2.1 k
def gL (S : St) (k : Nat) : Nat → Int64 := S.2.2.1 k
def gR (S : St) (k : Nat) : Nat := S.2.2.2.1 k
def gJ (S : St) (k : Nat) : Int64 := S.2.2.2.2 k
def pI (S : St) (k : Nat) (v : Int32) : St := (va_up S.1 k v, S.2)
def pA (S : St) (k : Nat) (v : Nat → Int32) : St := (S.1, va_up S.2.1 k v, S.2.2)
def pL (S : St) (k : Nat) (v : Nat → Int64) : St := (S.1, S.2.1, va_up S.2.2.1 k v, S.2.2.2)
def pR (S : St) (k : Nat) (v : Nat) : St := (S.1, S.2.1, S.2.2.1, va_up S.2.2.2.1 k v, S.2.2.2.2)
def pJ (S : St) (k : Nat) (v : Int64) : St := (S.1, S.2.1, S.2.2.1, S.2.2.2.1, va_up S.2.2.2.2 k v)
/-- what stays all through a run: the classes, the cells' addresses, the classes of the arrays, the addresses of the texts, of their bytes, of the tables -/
abbrev Bw : Type := va_G × (Nat → Nat) × (Nat → ClassId) × (Nat → Nat) × (Nat → Nat) × (Nat → Nat)
def bD (b : Bw) : va_G := b.1
def bad (b : Bw) (k : Nat) : Nat := b.2.1 k
def bcy (b : Bw) (k : Nat) : ClassId := b.2.2.1 k
def bK (b : Bw) (k : Nat) : Nat := b.2.2.2.1 k
def bV (b : Bw) (k : Nat) : Nat := b.2.2.2.2.1 k
def bT (b : Bw) (k : Nat) : Nat := b.2.2.2.2.2 k
def btys (b : Bw) : List (ClassId × FieldType) := [(bcy b 0, .byte), (bcy b 1, .int), (bcy b 2, .long), (bcy b 3, .boolean), (bcy b 4, .array .int)]
def nW : Nat := 67
def world (b : Bw) (S : St) : va_W := [
  (bad b 0, .inr (10, [.long (gJ S 0), .ref (bad b 1), .ref (bad b 5), .ref (bad b 6), .ref (bad b 7), .ref (bad b 8), .ref (bad b 10), .ref (bad b 11)])),
  (bad b 1, .inr (8, [.ref (bad b 2), .ref (bad b 3), .ref (bad b 4), .int (gI S 0), .int (gI S 1)])),
  (bad b 2, .inr (3, [.ref (bad b 13), .ref (bad b 14), .ref (bad b 15), .ref (bad b 16), .ref (bad b 17), .int (gI S 2)])),
  (bad b 3, .inr (2, [.ref (bad b 18), .ref (bad b 19), .ref (bad b 20), .int (gI S 3)])),
  (bad b 4, .inr (0, [.ref (bad b 21), .ref (bad b 22), .ref (bad b 23), .int (gI S 4)])),
  (bad b 5, .inr (9, [.ref (bad b 24), .int (gI S 5)])),
  (bad b 6, .inr (7, [.ref (bad b 25), .ref (bad b 30), .int (gI S 6), .int (gI S 7)])),
  (bad b 7, .inr (6, [.int (gI S 8), .int (gI S 9), .int (gI S 10), .int (gI S 11)])),
  (bad b 8, .inr (5, [.ref (bad b 9), .int (gI S 12), .int (gI S 13), .int (gI S 14), .int (gI S 15), .int (gI S 16), .int (gI S 17), .int (gI S 18)])),
  (bad b 9, .inr (1, [.ref (bad b 31), .int (gI S 19), .int (gI S 20)])),
  (bad b 10, .inr (4, [.ref (bad b (gR S 0)), .ref (bad b (gR S 1))])),
  (bad b 11, .inr (1, [.ref (bad b 41), .int (gI S 21), .int (gI S 22)])),
  (bad b 12, .inr (11, [.long (gJ S 1), .int (gI S 23), .ref (bad b 49), .ref (bad b 50), .ref (bad b 51), .ref (bad b 52), .ref (bad b 53), .int (gI S 24), .ref (bad b 54), .ref (bad b 55), .ref (bad b 56), .int (gI S 25), .int (gI S 26), .int (gI S 27), .ref (bad b 57), .ref (bad b 58), .ref (bad b 59), .int (gI S 28), .ref (bad b 60), .ref (bad b 61), .ref (bad b 62), .ref (bad b 63), .int (gI S 29), .ref (bad b 64), .int (gI S 30), .int (gI S 31), .int (gI S 32), .long (gJ S 2), .int (gI S 33), .ref (bad b 65), .int (gI S 34), .ref (bad b 66), .int (gI S 35), .int (gI S 36), .int (gI S 37)])),
  (bad b 13, .inl (bcy b 1, 48, .inl (gA S 13))),
  (bad b 14, .inl (bcy b 1, 48, .inl (gA S 14))),
  (bad b 15, .inl (bcy b 1, 48, .inl (gA S 15))),
  (bad b 16, .inl (bcy b 1, 48, .inl (gA S 16))),
  (bad b 17, .inl (bcy b 1, 48, .inl (gA S 17))),
  (bad b 18, .inl (bcy b 1, 12, .inl (gA S 18))),
  (bad b 19, .inl (bcy b 1, 12, .inl (gA S 19))),
  (bad b 20, .inl (bcy b 3, 12, .inl (gA S 20))),
  (bad b 21, .inl (bcy b 1, 6, .inl (gA S 21))),
  (bad b 22, .inl (bcy b 1, 6, .inl (gA S 22))),
  (bad b 23, .inl (bcy b 1, 6, .inl (gA S 23))),
  (bad b 24, .inl (bcy b 0, 400, .inl (gA S 24))),
  (bad b 25, .inl (bcy b 4, 4, .inr (.inr (.inr (.inr (fun i => if i < 4 then some (bad b (26 + i)) else none)))))),
  (bad b 26, .inl (bcy b 1, 24, .inl (gA S 26))),
  (bad b 27, .inl (bcy b 1, 24, .inl (gA S 27))),
  (bad b 28, .inl (bcy b 1, 24, .inl (gA S 28))),
  (bad b 29, .inl (bcy b 1, 24, .inl (gA S 29))),
  (bad b 30, .inl (bcy b 1, 52, .inl (gA S 30))),
  (bad b 31, .inl (bcy b 4, 7, .inr (.inr (.inr (.inr (fun i => if i < 7 then some (bad b (32 + i)) else none)))))),
  (bad b 32, .inl (bcy b 1, 400, .inl (gA S 32))),
  (bad b 33, .inl (bcy b 1, 400, .inl (gA S 33))),
  (bad b 34, .inl (bcy b 1, 400, .inl (gA S 34))),
  (bad b 35, .inl (bcy b 1, 400, .inl (gA S 35))),
  (bad b 36, .inl (bcy b 1, 400, .inl (gA S 36))),
  (bad b 37, .inl (bcy b 1, 400, .inl (gA S 37))),
  (bad b 38, .inl (bcy b 1, 400, .inl (gA S 38))),
  (bad b 39, .inl (bcy b 2, 400, .inr (.inl (gL S 39)))),
  (bad b 40, .inl (bcy b 2, 400, .inr (.inl (gL S 40)))),
  (bad b 41, .inl (bcy b 4, 7, .inr (.inr (.inr (.inr (fun i => if i < 7 then some (bad b (42 + i)) else none)))))),
  (bad b 42, .inl (bcy b 1, 400, .inl (gA S 42))),
  (bad b 43, .inl (bcy b 1, 400, .inl (gA S 43))),
  (bad b 44, .inl (bcy b 1, 400, .inl (gA S 44))),
  (bad b 45, .inl (bcy b 1, 400, .inl (gA S 45))),
  (bad b 46, .inl (bcy b 1, 400, .inl (gA S 46))),
  (bad b 47, .inl (bcy b 1, 400, .inl (gA S 47))),
  (bad b 48, .inl (bcy b 1, 400, .inl (gA S 48))),
  (bad b 49, .inl (bcy b 1, 48, .inl (gA S 49))),
  (bad b 50, .inl (bcy b 1, 48, .inl (gA S 50))),
  (bad b 51, .inl (bcy b 1, 48, .inl (gA S 51))),
  (bad b 52, .inl (bcy b 1, 48, .inl (gA S 52))),
  (bad b 53, .inl (bcy b 1, 48, .inl (gA S 53))),
  (bad b 54, .inl (bcy b 1, 12, .inl (gA S 54))),
  (bad b 55, .inl (bcy b 1, 12, .inl (gA S 55))),
  (bad b 56, .inl (bcy b 3, 12, .inl (gA S 56))),
  (bad b 57, .inl (bcy b 1, 6, .inl (gA S 57))),
  (bad b 58, .inl (bcy b 1, 6, .inl (gA S 58))),
  (bad b 59, .inl (bcy b 1, 6, .inl (gA S 59))),
  (bad b 60, .inl (bcy b 1, 24, .inl (gA S 60))),
  (bad b 61, .inl (bcy b 1, 24, .inl (gA S 61))),
  (bad b 62, .inl (bcy b 1, 24, .inl (gA S 62))),
  (bad b 63, .inl (bcy b 1, 24, .inl (gA S 63))),
  (bad b 64, .inl (bcy b 1, 400, .inl (gA S 64))),
  (bad b 65, .inl (bcy b 1, 2400, .inl (gA S 65))),
  (bad b 66, .inl (bcy b 1, 2400, .inl (gA S 66)))]
theorem w_0 (b : Bw) (S : St) : (world b S)[0]? = some (bad b 0, .inr (10, [.long (gJ S 0), .ref (bad b 1), .ref (bad b 5), .ref (bad b 6), .ref (bad b 7), .ref (bad b 8), .ref (bad b 10), .ref (bad b 11)])) := rfl
theorem w_1 (b : Bw) (S : St) : (world b S)[1]? = some (bad b 1, .inr (8, [.ref (bad b 2), .ref (bad b 3), .ref (bad b 4), .int (gI S 0), .int (gI S 1)])) := rfl
theorem w_2 (b : Bw) (S : St) : (world b S)[2]? = some (bad b 2, .inr (3, [.ref (bad b 13), .ref (bad b 14), .ref (bad b 15), .ref (bad b 16), .ref (bad b 17), .int (gI S 2)])) := rfl
theorem w_3 (b : Bw) (S : St) : (world b S)[3]? = some (bad b 3, .inr (2, [.ref (bad b 18), .ref (bad b 19), .ref (bad b 20), .int (gI S 3)])) := rfl
theorem w_4 (b : Bw) (S : St) : (world b S)[4]? = some (bad b 4, .inr (0, [.ref (bad b 21), .ref (bad b 22), .ref (bad b 23), .int (gI S 4)])) := rfl
theorem w_5 (b : Bw) (S : St) : (world b S)[5]? = some (bad b 5, .inr (9, [.ref (bad b 24), .int (gI S 5)])) := rfl
theorem w_6 (b : Bw) (S : St) : (world b S)[6]? = some (bad b 6, .inr (7, [.ref (bad b 25), .ref (bad b 30), .int (gI S 6), .int (gI S 7)])) := rfl
theorem w_7 (b : Bw) (S : St) : (world b S)[7]? = some (bad b 7, .inr (6, [.int (gI S 8), .int (gI S 9), .int (gI S 10), .int (gI S 11)])) := rfl
theorem w_8 (b : Bw) (S : St) : (world b S)[8]? = some (bad b 8, .inr (5, [.ref (bad b 9), .int (gI S 12), .int (gI S 13), .int (gI S 14), .int (gI S 15), .int (gI S 16), .int (gI S 17), .int (gI S 18)])) := rfl
theorem w_9 (b : Bw) (S : St) : (world b S)[9]? = some (bad b 9, .inr (1, [.ref (bad b 31), .int (gI S 19), .int (gI S 20)])) := rfl
theorem w_10 (b : Bw) (S : St) : (world b S)[10]? = some (bad b 10, .inr (4, [.ref (bad b (gR S 0)), .ref (bad b (gR S 1))])) := rfl
theorem w_11 (b : Bw) (S : St) : (world b S)[11]? = some (bad b 11, .inr (1, [.ref (bad b 41), .int (gI S 21), .int (gI S 22)])) := rfl
theorem w_12 (b : Bw) (S : St) : (world b S)[12]? = some (bad b 12, .inr (11, [.long (gJ S 1), .int (gI S 23), .ref (bad b 49), .ref (bad b 50), .ref (bad b 51), .ref (bad b 52), .ref (bad b 53), .int (gI S 24), .ref (bad b 54), .ref (bad b 55), .ref (bad b 56), .int (gI S 25), .int (gI S 26), .int (gI S 27), .ref (bad b 57), .ref (bad b 58), .ref (bad b 59), .int (gI S 28), .ref (bad b 60), .ref (bad b 61), .ref (bad b 62), .ref (bad b 63), .int (gI S 29), .ref (bad b 64), .int (gI S 30), .int (gI S 31), .int (gI S 32), .long (gJ S 2), .int (gI S 33), .ref (bad b 65), .int (gI S 34), .ref (bad b 66), .int (gI S 35), .int (gI S 36), .int (gI S 37)])) := rfl
theorem w_13 (b : Bw) (S : St) : (world b S)[13]? = some (bad b 13, .inl (bcy b 1, 48, .inl (gA S 13))) := rfl
theorem w_14 (b : Bw) (S : St) : (world b S)[14]? = some (bad b 14, .inl (bcy b 1, 48, .inl (gA S 14))) := rfl
theorem w_15 (b : Bw) (S : St) : (world b S)[15]? = some (bad b 15, .inl (bcy b 1, 48, .inl (gA S 15))) := rfl
theorem w_16 (b : Bw) (S : St) : (world b S)[16]? = some (bad b 16, .inl (bcy b 1, 48, .inl (gA S 16))) := rfl
theorem w_17 (b : Bw) (S : St) : (world b S)[17]? = some (bad b 17, .inl (bcy b 1, 48, .inl (gA S 17))) := rfl
theorem w_18 (b : Bw) (S : St) : (world b S)[18]? = some (bad b 18, .inl (bcy b 1, 12, .inl (gA S 18))) := rfl
theorem w_19 (b : Bw) (S : St) : (world b S)[19]? = some (bad b 19, .inl (bcy b 1, 12, .inl (gA S 19))) := rfl
theorem w_20 (b : Bw) (S : St) : (world b S)[20]? = some (bad b 20, .inl (bcy b 3, 12, .inl (gA S 20))) := rfl
theorem w_21 (b : Bw) (S : St) : (world b S)[21]? = some (bad b 21, .inl (bcy b 1, 6, .inl (gA S 21))) := rfl
theorem w_22 (b : Bw) (S : St) : (world b S)[22]? = some (bad b 22, .inl (bcy b 1, 6, .inl (gA S 22))) := rfl
theorem w_23 (b : Bw) (S : St) : (world b S)[23]? = some (bad b 23, .inl (bcy b 1, 6, .inl (gA S 23))) := rfl
theorem w_24 (b : Bw) (S : St) : (world b S)[24]? = some (bad b 24, .inl (bcy b 0, 400, .inl (gA S 24))) := rfl
theorem w_25 (b : Bw) (S : St) : (world b S)[25]? = some (bad b 25, .inl (bcy b 4, 4, .inr (.inr (.inr (.inr (fun i => if i < 4 then some (bad b (26 + i)) else none)))))) := rfl
theorem w_26 (b : Bw) (S : St) : (world b S)[26]? = some (bad b 26, .inl (bcy b 1, 24, .inl (gA S 26))) := rfl
theorem w_27 (b : Bw) (S : St) : (world b S)[27]? = some (bad b 27, .inl (bcy b 1, 24, .inl (gA S 27))) := rfl
theorem w_28 (b : Bw) (S : St) : (world b S)[28]? = some (bad b 28, .inl (bcy b 1, 24, .inl (gA S 28))) := rfl
theorem w_29 (b : Bw) (S : St) : (world b S)[29]? = some (bad b 29, .inl (bcy b 1, 24, .inl (gA S 29))) := rfl
theorem w_30 (b : Bw) (S : St) : (world b S)[30]? = some (bad b 30, .inl (bcy b 1, 52, .inl (gA S 30))) := rfl
theorem w_31 (b : Bw) (S : St) : (world b S)[31]? = some (bad b 31, .inl (bcy b 4, 7, .inr (.inr (.inr (.inr (fun i => if i < 7 then some (bad b (32 + i)) else none)))))) := rfl
theorem w_32 (b : Bw) (S : St) : (world b S)[32]? = some (bad b 32, .inl (bcy b 1, 400, .inl (gA S 32))) := rfl
theorem w_33 (b : Bw) (S : St) : (world b S)[33]? = some (bad b 33, .inl (bcy b 1, 400, .inl (gA S 33))) := rfl
theorem w_34 (b : Bw) (S : St) : (world b S)[34]? = some (bad b 34, .inl (bcy b 1, 400, .inl (gA S 34))) := rfl
theorem w_35 (b : Bw) (S : St) : (world b S)[35]? = some (bad b 35, .inl (bcy b 1, 400, .inl (gA S 35))) := rfl
theorem w_36 (b : Bw) (S : St) : (world b S)[36]? = some (bad b 36, .inl (bcy b 1, 400, .inl (gA S 36))) := rfl
theorem w_37 (b : Bw) (S : St) : (world b S)[37]? = some (bad b 37, .inl (bcy b 1, 400, .inl (gA S 37))) := rfl
theorem w_38 (b : Bw) (S : St) : (world b S)[38]? = some (bad b 38, .inl (bcy b 1, 400, .inl (gA S 38))) := rfl
theorem w_39 (b : Bw) (S : St) : (world b S)[39]? = some (bad b 39, .inl (bcy b 2, 400, .inr (.inl (gL S 39)))) := rfl
theorem w_40 (b : Bw) (S : St) : (world b S)[40]? = some (bad b 40, .inl (bcy b 2, 400, .inr (.inl (gL S 40)))) := rfl
theorem w_41 (b : Bw) (S : St) : (world b S)[41]? = some (bad b 41, .inl (bcy b 4, 7, .inr (.inr (.inr (.inr (fun i => if i < 7 then some (bad b (42 + i)) else none)))))) := rfl
theorem w_42 (b : Bw) (S : St) : (world b S)[42]? = some (bad b 42, .inl (bcy b 1, 400, .inl (gA S 42))) := rfl
theorem w_43 (b : Bw) (S : St) : (world b S)[43]? = some (bad b 43, .inl (bcy b 1, 400, .inl (gA S 43))) := rfl
theorem w_44 (b : Bw) (S : St) : (world b S)[44]? = some (bad b 44, .inl (bcy b 1, 400, .inl (gA S 44))) := rfl
theorem w_45 (b : Bw) (S : St) : (world b S)[45]? = some (bad b 45, .inl (bcy b 1, 400, .inl (gA S 45))) := rfl
theorem w_46 (b : Bw) (S : St) : (world b S)[46]? = some (bad b 46, .inl (bcy b 1, 400, .inl (gA S 46))) := rfl
theorem w_47 (b : Bw) (S : St) : (world b S)[47]? = some (bad b 47, .inl (bcy b 1, 400, .inl (gA S 47))) := rfl
theorem w_48 (b : Bw) (S : St) : (world b S)[48]? = some (bad b 48, .inl (bcy b 1, 400, .inl (gA S 48))) := rfl
theorem w_49 (b : Bw) (S : St) : (world b S)[49]? = some (bad b 49, .inl (bcy b 1, 48, .inl (gA S 49))) := rfl
theorem w_50 (b : Bw) (S : St) : (world b S)[50]? = some (bad b 50, .inl (bcy b 1, 48, .inl (gA S 50))) := rfl
theorem w_51 (b : Bw) (S : St) : (world b S)[51]? = some (bad b 51, .inl (bcy b 1, 48, .inl (gA S 51))) := rfl
theorem w_52 (b : Bw) (S : St) : (world b S)[52]? = some (bad b 52, .inl (bcy b 1, 48, .inl (gA S 52))) := rfl
theorem w_53 (b : Bw) (S : St) : (world b S)[53]? = some (bad b 53, .inl (bcy b 1, 48, .inl (gA S 53))) := rfl
theorem w_54 (b : Bw) (S : St) : (world b S)[54]? = some (bad b 54, .inl (bcy b 1, 12, .inl (gA S 54))) := rfl
theorem w_55 (b : Bw) (S : St) : (world b S)[55]? = some (bad b 55, .inl (bcy b 1, 12, .inl (gA S 55))) := rfl
theorem w_56 (b : Bw) (S : St) : (world b S)[56]? = some (bad b 56, .inl (bcy b 3, 12, .inl (gA S 56))) := rfl
theorem w_57 (b : Bw) (S : St) : (world b S)[57]? = some (bad b 57, .inl (bcy b 1, 6, .inl (gA S 57))) := rfl
theorem w_58 (b : Bw) (S : St) : (world b S)[58]? = some (bad b 58, .inl (bcy b 1, 6, .inl (gA S 58))) := rfl
theorem w_59 (b : Bw) (S : St) : (world b S)[59]? = some (bad b 59, .inl (bcy b 1, 6, .inl (gA S 59))) := rfl
theorem w_60 (b : Bw) (S : St) : (world b S)[60]? = some (bad b 60, .inl (bcy b 1, 24, .inl (gA S 60))) := rfl
theorem w_61 (b : Bw) (S : St) : (world b S)[61]? = some (bad b 61, .inl (bcy b 1, 24, .inl (gA S 61))) := rfl
theorem w_62 (b : Bw) (S : St) : (world b S)[62]? = some (bad b 62, .inl (bcy b 1, 24, .inl (gA S 62))) := rfl
theorem w_63 (b : Bw) (S : St) : (world b S)[63]? = some (bad b 63, .inl (bcy b 1, 24, .inl (gA S 63))) := rfl
theorem w_64 (b : Bw) (S : St) : (world b S)[64]? = some (bad b 64, .inl (bcy b 1, 400, .inl (gA S 64))) := rfl
theorem w_65 (b : Bw) (S : St) : (world b S)[65]? = some (bad b 65, .inl (bcy b 1, 2400, .inl (gA S 65))) := rfl
theorem w_66 (b : Bw) (S : St) : (world b S)[66]? = some (bad b 66, .inl (bcy b 1, 2400, .inl (gA S 66))) := rfl
theorem world_len (b : Bw) (S : St) : (world b S).length = nW := rfl
theorem world_fst (b : Bw) (S : St) : (world b S).map Prod.fst = (List.range nW).map (bad b) := rfl
theorem ws_1_3 (b : Bw) (S : St) (x : Int32) : (world b S).set 1 (bad b 1, .inr (8, ([.ref (bad b 2), .ref (bad b 3), .ref (bad b 4), .int (gI S 0), .int (gI S 1)] : List Value).set 3 (.int x))) = world b (pI S 0 x) := rfl
theorem ws_1_4 (b : Bw) (S : St) (x : Int32) : (world b S).set 1 (bad b 1, .inr (8, ([.ref (bad b 2), .ref (bad b 3), .ref (bad b 4), .int (gI S 0), .int (gI S 1)] : List Value).set 4 (.int x))) = world b (pI S 1 x) := rfl
theorem ws_2_5 (b : Bw) (S : St) (x : Int32) : (world b S).set 2 (bad b 2, .inr (3, ([.ref (bad b 13), .ref (bad b 14), .ref (bad b 15), .ref (bad b 16), .ref (bad b 17), .int (gI S 2)] : List Value).set 5 (.int x))) = world b (pI S 2 x) := rfl
theorem ws_3_3 (b : Bw) (S : St) (x : Int32) : (world b S).set 3 (bad b 3, .inr (2, ([.ref (bad b 18), .ref (bad b 19), .ref (bad b 20), .int (gI S 3)] : List Value).set 3 (.int x))) = world b (pI S 3 x) := rfl
theorem ws_4_3 (b : Bw) (S : St) (x : Int32) : (world b S).set 4 (bad b 4, .inr (0, ([.ref (bad b 21), .ref (bad b 22), .ref (bad b 23), .int (gI S 4)] : List Value).set 3 (.int x))) = world b (pI S 4 x) := rfl
theorem ws_5_1 (b : Bw) (S : St) (x : Int32) : (world b S).set 5 (bad b 5, .inr (9, ([.ref (bad b 24), .int (gI S 5)] : List Value).set 1 (.int x))) = world b (pI S 5 x) := rfl
theorem ws_6_2 (b : Bw) (S : St) (x : Int32) : (world b S).set 6 (bad b 6, .inr (7, ([.ref (bad b 25), .ref (bad b 30), .int (gI S 6), .int (gI S 7)] : List Value).set 2 (.int x))) = world b (pI S 6 x) := rfl
theorem ws_6_3 (b : Bw) (S : St) (x : Int32) : (world b S).set 6 (bad b 6, .inr (7, ([.ref (bad b 25), .ref (bad b 30), .int (gI S 6), .int (gI S 7)] : List Value).set 3 (.int x))) = world b (pI S 7 x) := rfl
theorem ws_7_0 (b : Bw) (S : St) (x : Int32) : (world b S).set 7 (bad b 7, .inr (6, ([.int (gI S 8), .int (gI S 9), .int (gI S 10), .int (gI S 11)] : List Value).set 0 (.int x))) = world b (pI S 8 x) := rfl
theorem ws_7_1 (b : Bw) (S : St) (x : Int32) : (world b S).set 7 (bad b 7, .inr (6, ([.int (gI S 8), .int (gI S 9), .int (gI S 10), .int (gI S 11)] : List Value).set 1 (.int x))) = world b (pI S 9 x) := rfl
theorem ws_7_2 (b : Bw) (S : St) (x : Int32) : (world b S).set 7 (bad b 7, .inr (6, ([.int (gI S 8), .int (gI S 9), .int (gI S 10), .int (gI S 11)] : List Value).set 2 (.int x))) = world b (pI S 10 x) := rfl
theorem ws_7_3 (b : Bw) (S : St) (x : Int32) : (world b S).set 7 (bad b 7, .inr (6, ([.int (gI S 8), .int (gI S 9), .int (gI S 10), .int (gI S 11)] : List Value).set 3 (.int x))) = world b (pI S 11 x) := rfl
theorem ws_8_1 (b : Bw) (S : St) (x : Int32) : (world b S).set 8 (bad b 8, .inr (5, ([.ref (bad b 9), .int (gI S 12), .int (gI S 13), .int (gI S 14), .int (gI S 15), .int (gI S 16), .int (gI S 17), .int (gI S 18)] : List Value).set 1 (.int x))) = world b (pI S 12 x) := rfl
theorem ws_8_2 (b : Bw) (S : St) (x : Int32) : (world b S).set 8 (bad b 8, .inr (5, ([.ref (bad b 9), .int (gI S 12), .int (gI S 13), .int (gI S 14), .int (gI S 15), .int (gI S 16), .int (gI S 17), .int (gI S 18)] : List Value).set 2 (.int x))) = world b (pI S 13 x) := rfl
theorem ws_8_3 (b : Bw) (S : St) (x : Int32) : (world b S).set 8 (bad b 8, .inr (5, ([.ref (bad b 9), .int (gI S 12), .int (gI S 13), .int (gI S 14), .int (gI S 15), .int (gI S 16), .int (gI S 17), .int (gI S 18)] : List Value).set 3 (.int x))) = world b (pI S 14 x) := rfl
theorem ws_8_4 (b : Bw) (S : St) (x : Int32) : (world b S).set 8 (bad b 8, .inr (5, ([.ref (bad b 9), .int (gI S 12), .int (gI S 13), .int (gI S 14), .int (gI S 15), .int (gI S 16), .int (gI S 17), .int (gI S 18)] : List Value).set 4 (.int x))) = world b (pI S 15 x) := rfl
theorem ws_8_5 (b : Bw) (S : St) (x : Int32) : (world b S).set 8 (bad b 8, .inr (5, ([.ref (bad b 9), .int (gI S 12), .int (gI S 13), .int (gI S 14), .int (gI S 15), .int (gI S 16), .int (gI S 17), .int (gI S 18)] : List Value).set 5 (.int x))) = world b (pI S 16 x) := rfl
theorem ws_8_6 (b : Bw) (S : St) (x : Int32) : (world b S).set 8 (bad b 8, .inr (5, ([.ref (bad b 9), .int (gI S 12), .int (gI S 13), .int (gI S 14), .int (gI S 15), .int (gI S 16), .int (gI S 17), .int (gI S 18)] : List Value).set 6 (.int x))) = world b (pI S 17 x) := rfl
theorem ws_8_7 (b : Bw) (S : St) (x : Int32) : (world b S).set 8 (bad b 8, .inr (5, ([.ref (bad b 9), .int (gI S 12), .int (gI S 13), .int (gI S 14), .int (gI S 15), .int (gI S 16), .int (gI S 17), .int (gI S 18)] : List Value).set 7 (.int x))) = world b (pI S 18 x) := rfl
theorem ws_9_1 (b : Bw) (S : St) (x : Int32) : (world b S).set 9 (bad b 9, .inr (1, ([.ref (bad b 31), .int (gI S 19), .int (gI S 20)] : List Value).set 1 (.int x))) = world b (pI S 19 x) := rfl
theorem ws_9_2 (b : Bw) (S : St) (x : Int32) : (world b S).set 9 (bad b 9, .inr (1, ([.ref (bad b 31), .int (gI S 19), .int (gI S 20)] : List Value).set 2 (.int x))) = world b (pI S 20 x) := rfl
theorem ws_10_0 (b : Bw) (S : St) (x : Nat) : (world b S).set 10 (bad b 10, .inr (4, ([.ref (bad b (gR S 0)), .ref (bad b (gR S 1))] : List Value).set 0 (.ref (bad b x)))) = world b (pR S 0 x) := rfl
theorem ws_10_1 (b : Bw) (S : St) (x : Nat) : (world b S).set 10 (bad b 10, .inr (4, ([.ref (bad b (gR S 0)), .ref (bad b (gR S 1))] : List Value).set 1 (.ref (bad b x)))) = world b (pR S 1 x) := rfl
theorem ws_11_1 (b : Bw) (S : St) (x : Int32) : (world b S).set 11 (bad b 11, .inr (1, ([.ref (bad b 41), .int (gI S 21), .int (gI S 22)] : List Value).set 1 (.int x))) = world b (pI S 21 x) := rfl
theorem ws_11_2 (b : Bw) (S : St) (x : Int32) : (world b S).set 11 (bad b 11, .inr (1, ([.ref (bad b 41), .int (gI S 21), .int (gI S 22)] : List Value).set 2 (.int x))) = world b (pI S 22 x) := rfl
theorem ws_12_1 (b : Bw) (S : St) (x : Int32) : (world b S).set 12 (bad b 12, .inr (11, ([.long (gJ S 1), .int (gI S 23), .ref (bad b 49), .ref (bad b 50), .ref (bad b 51), .ref (bad b 52), .ref (bad b 53), .int (gI S 24), .ref (bad b 54), .ref (bad b 55), .ref (bad b 56), .int (gI S 25), .int (gI S 26), .int (gI S 27), .ref (bad b 57), .ref (bad b 58), .ref (bad b 59), .int (gI S 28), .ref (bad b 60), .ref (bad b 61), .ref (bad b 62), .ref (bad b 63), .int (gI S 29), .ref (bad b 64), .int (gI S 30), .int (gI S 31), .int (gI S 32), .long (gJ S 2), .int (gI S 33), .ref (bad b 65), .int (gI S 34), .ref (bad b 66), .int (gI S 35), .int (gI S 36), .int (gI S 37)] : List Value).set 1 (.int x))) = world b (pI S 23 x) := rfl
theorem ws_12_7 (b : Bw) (S : St) (x : Int32) : (world b S).set 12 (bad b 12, .inr (11, ([.long (gJ S 1), .int (gI S 23), .ref (bad b 49), .ref (bad b 50), .ref (bad b 51), .ref (bad b 52), .ref (bad b 53), .int (gI S 24), .ref (bad b 54), .ref (bad b 55), .ref (bad b 56), .int (gI S 25), .int (gI S 26), .int (gI S 27), .ref (bad b 57), .ref (bad b 58), .ref (bad b 59), .int (gI S 28), .ref (bad b 60), .ref (bad b 61), .ref (bad b 62), .ref (bad b 63), .int (gI S 29), .ref (bad b 64), .int (gI S 30), .int (gI S 31), .int (gI S 32), .long (gJ S 2), .int (gI S 33), .ref (bad b 65), .int (gI S 34), .ref (bad b 66), .int (gI S 35), .int (gI S 36), .int (gI S 37)] : List Value).set 7 (.int x))) = world b (pI S 24 x) := rfl
theorem ws_12_11 (b : Bw) (S : St) (x : Int32) : (world b S).set 12 (bad b 12, .inr (11, ([.long (gJ S 1), .int (gI S 23), .ref (bad b 49), .ref (bad b 50), .ref (bad b 51), .ref (bad b 52), .ref (bad b 53), .int (gI S 24), .ref (bad b 54), .ref (bad b 55), .ref (bad b 56), .int (gI S 25), .int (gI S 26), .int (gI S 27), .ref (bad b 57), .ref (bad b 58), .ref (bad b 59), .int (gI S 28), .ref (bad b 60), .ref (bad b 61), .ref (bad b 62), .ref (bad b 63), .int (gI S 29), .ref (bad b 64), .int (gI S 30), .int (gI S 31), .int (gI S 32), .long (gJ S 2), .int (gI S 33), .ref (bad b 65), .int (gI S 34), .ref (bad b 66), .int (gI S 35), .int (gI S 36), .int (gI S 37)] : List Value).set 11 (.int x))) = world b (pI S 25 x) := rfl
theorem ws_12_12 (b : Bw) (S : St) (x : Int32) : (world b S).set 12 (bad b 12, .inr (11, ([.long (gJ S 1), .int (gI S 23), .ref (bad b 49), .ref (bad b 50), .ref (bad b 51), .ref (bad b 52), .ref (bad b 53), .int (gI S 24), .ref (bad b 54), .ref (bad b 55), .ref (bad b 56), .int (gI S 25), .int (gI S 26), .int (gI S 27), .ref (bad b 57), .ref (bad b 58), .ref (bad b 59), .int (gI S 28), .ref (bad b 60), .ref (bad b 61), .ref (bad b 62), .ref (bad b 63), .int (gI S 29), .ref (bad b 64), .int (gI S 30), .int (gI S 31), .int (gI S 32), .long (gJ S 2), .int (gI S 33), .ref (bad b 65), .int (gI S 34), .ref (bad b 66), .int (gI S 35), .int (gI S 36), .int (gI S 37)] : List Value).set 12 (.int x))) = world b (pI S 26 x) := rfl
theorem ws_12_13 (b : Bw) (S : St) (x : Int32) : (world b S).set 12 (bad b 12, .inr (11, ([.long (gJ S 1), .int (gI S 23), .ref (bad b 49), .ref (bad b 50), .ref (bad b 51), .ref (bad b 52), .ref (bad b 53), .int (gI S 24), .ref (bad b 54), .ref (bad b 55), .ref (bad b 56), .int (gI S 25), .int (gI S 26), .int (gI S 27), .ref (bad b 57), .ref (bad b 58), .ref (bad b 59), .int (gI S 28), .ref (bad b 60), .ref (bad b 61), .ref (bad b 62), .ref (bad b 63), .int (gI S 29), .ref (bad b 64), .int (gI S 30), .int (gI S 31), .int (gI S 32), .long (gJ S 2), .int (gI S 33), .ref (bad b 65), .int (gI S 34), .ref (bad b 66), .int (gI S 35), .int (gI S 36), .int (gI S 37)] : List Value).set 13 (.int x))) = world b (pI S 27 x) := rfl
theorem ws_12_17 (b : Bw) (S : St) (x : Int32) : (world b S).set 12 (bad b 12, .inr (11, ([.long (gJ S 1), .int (gI S 23), .ref (bad b 49), .ref (bad b 50), .ref (bad b 51), .ref (bad b 52), .ref (bad b 53), .int (gI S 24), .ref (bad b 54), .ref (bad b 55), .ref (bad b 56), .int (gI S 25), .int (gI S 26), .int (gI S 27), .ref (bad b 57), .ref (bad b 58), .ref (bad b 59), .int (gI S 28), .ref (bad b 60), .ref (bad b 61), .ref (bad b 62), .ref (bad b 63), .int (gI S 29), .ref (bad b 64), .int (gI S 30), .int (gI S 31), .int (gI S 32), .long (gJ S 2), .int (gI S 33), .ref (bad b 65), .int (gI S 34), .ref (bad b 66), .int (gI S 35), .int (gI S 36), .int (gI S 37)] : List Value).set 17 (.int x))) = world b (pI S 28 x) := rfl
theorem ws_12_22 (b : Bw) (S : St) (x : Int32) : (world b S).set 12 (bad b 12, .inr (11, ([.long (gJ S 1), .int (gI S 23), .ref (bad b 49), .ref (bad b 50), .ref (bad b 51), .ref (bad b 52), .ref (bad b 53), .int (gI S 24), .ref (bad b 54), .ref (bad b 55), .ref (bad b 56), .int (gI S 25), .int (gI S 26), .int (gI S 27), .ref (bad b 57), .ref (bad b 58), .ref (bad b 59), .int (gI S 28), .ref (bad b 60), .ref (bad b 61), .ref (bad b 62), .ref (bad b 63), .int (gI S 29), .ref (bad b 64), .int (gI S 30), .int (gI S 31), .int (gI S 32), .long (gJ S 2), .int (gI S 33), .ref (bad b 65), .int (gI S 34), .ref (bad b 66), .int (gI S 35), .int (gI S 36), .int (gI S 37)] : List Value).set 22 (.int x))) = world b (pI S 29 x) := rfl
theorem ws_12_24 (b : Bw) (S : St) (x : Int32) : (world b S).set 12 (bad b 12, .inr (11, ([.long (gJ S 1), .int (gI S 23), .ref (bad b 49), .ref (bad b 50), .ref (bad b 51), .ref (bad b 52), .ref (bad b 53), .int (gI S 24), .ref (bad b 54), .ref (bad b 55), .ref (bad b 56), .int (gI S 25), .int (gI S 26), .int (gI S 27), .ref (bad b 57), .ref (bad b 58), .ref (bad b 59), .int (gI S 28), .ref (bad b 60), .ref (bad b 61), .ref (bad b 62), .ref (bad b 63), .int (gI S 29), .ref (bad b 64), .int (gI S 30), .int (gI S 31), .int (gI S 32), .long (gJ S 2), .int (gI S 33), .ref (bad b 65), .int (gI S 34), .ref (bad b 66), .int (gI S 35), .int (gI S 36), .int (gI S 37)] : List Value).set 24 (.int x))) = world b (pI S 30 x) := rfl
theorem ws_12_25 (b : Bw) (S : St) (x : Int32) : (world b S).set 12 (bad b 12, .inr (11, ([.long (gJ S 1), .int (gI S 23), .ref (bad b 49), .ref (bad b 50), .ref (bad b 51), .ref (bad b 52), .ref (bad b 53), .int (gI S 24), .ref (bad b 54), .ref (bad b 55), .ref (bad b 56), .int (gI S 25), .int (gI S 26), .int (gI S 27), .ref (bad b 57), .ref (bad b 58), .ref (bad b 59), .int (gI S 28), .ref (bad b 60), .ref (bad b 61), .ref (bad b 62), .ref (bad b 63), .int (gI S 29), .ref (bad b 64), .int (gI S 30), .int (gI S 31), .int (gI S 32), .long (gJ S 2), .int (gI S 33), .ref (bad b 65), .int (gI S 34), .ref (bad b 66), .int (gI S 35), .int (gI S 36), .int (gI S 37)] : List Value).set 25 (.int x))) = world b (pI S 31 x) := rfl
theorem ws_12_26 (b : Bw) (S : St) (x : Int32) : (world b S).set 12 (bad b 12, .inr (11, ([.long (gJ S 1), .int (gI S 23), .ref (bad b 49), .ref (bad b 50), .ref (bad b 51), .ref (bad b 52), .ref (bad b 53), .int (gI S 24), .ref (bad b 54), .ref (bad b 55), .ref (bad b 56), .int (gI S 25), .int (gI S 26), .int (gI S 27), .ref (bad b 57), .ref (bad b 58), .ref (bad b 59), .int (gI S 28), .ref (bad b 60), .ref (bad b 61), .ref (bad b 62), .ref (bad b 63), .int (gI S 29), .ref (bad b 64), .int (gI S 30), .int (gI S 31), .int (gI S 32), .long (gJ S 2), .int (gI S 33), .ref (bad b 65), .int (gI S 34), .ref (bad b 66), .int (gI S 35), .int (gI S 36), .int (gI S 37)] : List Value).set 26 (.int x))) = world b (pI S 32 x) := rfl
theorem ws_12_27 (b : Bw) (S : St) (x : Int64) : (world b S).set 12 (bad b 12, .inr (11, ([.long (gJ S 1), .int (gI S 23), .ref (bad b 49), .ref (bad b 50), .ref (bad b 51), .ref (bad b 52), .ref (bad b 53), .int (gI S 24), .ref (bad b 54), .ref (bad b 55), .ref (bad b 56), .int (gI S 25), .int (gI S 26), .int (gI S 27), .ref (bad b 57), .ref (bad b 58), .ref (bad b 59), .int (gI S 28), .ref (bad b 60), .ref (bad b 61), .ref (bad b 62), .ref (bad b 63), .int (gI S 29), .ref (bad b 64), .int (gI S 30), .int (gI S 31), .int (gI S 32), .long (gJ S 2), .int (gI S 33), .ref (bad b 65), .int (gI S 34), .ref (bad b 66), .int (gI S 35), .int (gI S 36), .int (gI S 37)] : List Value).set 27 (.long x))) = world b (pJ S 2 x) := rfl
theorem ws_12_28 (b : Bw) (S : St) (x : Int32) : (world b S).set 12 (bad b 12, .inr (11, ([.long (gJ S 1), .int (gI S 23), .ref (bad b 49), .ref (bad b 50), .ref (bad b 51), .ref (bad b 52), .ref (bad b 53), .int (gI S 24), .ref (bad b 54), .ref (bad b 55), .ref (bad b 56), .int (gI S 25), .int (gI S 26), .int (gI S 27), .ref (bad b 57), .ref (bad b 58), .ref (bad b 59), .int (gI S 28), .ref (bad b 60), .ref (bad b 61), .ref (bad b 62), .ref (bad b 63), .int (gI S 29), .ref (bad b 64), .int (gI S 30), .int (gI S 31), .int (gI S 32), .long (gJ S 2), .int (gI S 33), .ref (bad b 65), .int (gI S 34), .ref (bad b 66), .int (gI S 35), .int (gI S 36), .int (gI S 37)] : List Value).set 28 (.int x))) = world b (pI S 33 x) := rfl
theorem ws_12_30 (b : Bw) (S : St) (x : Int32) : (world b S).set 12 (bad b 12, .inr (11, ([.long (gJ S 1), .int (gI S 23), .ref (bad b 49), .ref (bad b 50), .ref (bad b 51), .ref (bad b 52), .ref (bad b 53), .int (gI S 24), .ref (bad b 54), .ref (bad b 55), .ref (bad b 56), .int (gI S 25), .int (gI S 26), .int (gI S 27), .ref (bad b 57), .ref (bad b 58), .ref (bad b 59), .int (gI S 28), .ref (bad b 60), .ref (bad b 61), .ref (bad b 62), .ref (bad b 63), .int (gI S 29), .ref (bad b 64), .int (gI S 30), .int (gI S 31), .int (gI S 32), .long (gJ S 2), .int (gI S 33), .ref (bad b 65), .int (gI S 34), .ref (bad b 66), .int (gI S 35), .int (gI S 36), .int (gI S 37)] : List Value).set 30 (.int x))) = world b (pI S 34 x) := rfl
theorem ws_12_32 (b : Bw) (S : St) (x : Int32) : (world b S).set 12 (bad b 12, .inr (11, ([.long (gJ S 1), .int (gI S 23), .ref (bad b 49), .ref (bad b 50), .ref (bad b 51), .ref (bad b 52), .ref (bad b 53), .int (gI S 24), .ref (bad b 54), .ref (bad b 55), .ref (bad b 56), .int (gI S 25), .int (gI S 26), .int (gI S 27), .ref (bad b 57), .ref (bad b 58), .ref (bad b 59), .int (gI S 28), .ref (bad b 60), .ref (bad b 61), .ref (bad b 62), .ref (bad b 63), .int (gI S 29), .ref (bad b 64), .int (gI S 30), .int (gI S 31), .int (gI S 32), .long (gJ S 2), .int (gI S 33), .ref (bad b 65), .int (gI S 34), .ref (bad b 66), .int (gI S 35), .int (gI S 36), .int (gI S 37)] : List Value).set 32 (.int x))) = world b (pI S 35 x) := rfl
theorem ws_12_33 (b : Bw) (S : St) (x : Int32) : (world b S).set 12 (bad b 12, .inr (11, ([.long (gJ S 1), .int (gI S 23), .ref (bad b 49), .ref (bad b 50), .ref (bad b 51), .ref (bad b 52), .ref (bad b 53), .int (gI S 24), .ref (bad b 54), .ref (bad b 55), .ref (bad b 56), .int (gI S 25), .int (gI S 26), .int (gI S 27), .ref (bad b 57), .ref (bad b 58), .ref (bad b 59), .int (gI S 28), .ref (bad b 60), .ref (bad b 61), .ref (bad b 62), .ref (bad b 63), .int (gI S 29), .ref (bad b 64), .int (gI S 30), .int (gI S 31), .int (gI S 32), .long (gJ S 2), .int (gI S 33), .ref (bad b 65), .int (gI S 34), .ref (bad b 66), .int (gI S 35), .int (gI S 36), .int (gI S 37)] : List Value).set 33 (.int x))) = world b (pI S 36 x) := rfl
theorem ws_12_34 (b : Bw) (S : St) (x : Int32) : (world b S).set 12 (bad b 12, .inr (11, ([.long (gJ S 1), .int (gI S 23), .ref (bad b 49), .ref (bad b 50), .ref (bad b 51), .ref (bad b 52), .ref (bad b 53), .int (gI S 24), .ref (bad b 54), .ref (bad b 55), .ref (bad b 56), .int (gI S 25), .int (gI S 26), .int (gI S 27), .ref (bad b 57), .ref (bad b 58), .ref (bad b 59), .int (gI S 28), .ref (bad b 60), .ref (bad b 61), .ref (bad b 62), .ref (bad b 63), .int (gI S 29), .ref (bad b 64), .int (gI S 30), .int (gI S 31), .int (gI S 32), .long (gJ S 2), .int (gI S 33), .ref (bad b 65), .int (gI S 34), .ref (bad b 66), .int (gI S 35), .int (gI S 36), .int (gI S 37)] : List Value).set 34 (.int x))) = world b (pI S 37 x) := rfl
theorem ws_13 (b : Bw) (S : St) (f : Nat → Int32) : (world b S).set 13 (bad b 13, .inl (bcy b 1, 48, .inl f)) = world b (pA S 13 f) := rfl
theorem ws_14 (b : Bw) (S : St) (f : Nat → Int32) : (world b S).set 14 (bad b 14, .inl (bcy b 1, 48, .inl f)) = world b (pA S 14 f) := rfl
theorem ws_15 (b : Bw) (S : St) (f : Nat → Int32) : (world b S).set 15 (bad b 15, .inl (bcy b 1, 48, .inl f)) = world b (pA S 15 f) := rfl
theorem ws_16 (b : Bw) (S : St) (f : Nat → Int32) : (world b S).set 16 (bad b 16, .inl (bcy b 1, 48, .inl f)) = world b (pA S 16 f) := rfl
theorem ws_17 (b : Bw) (S : St) (f : Nat → Int32) : (world b S).set 17 (bad b 17, .inl (bcy b 1, 48, .inl f)) = world b (pA S 17 f) := rfl
theorem ws_18 (b : Bw) (S : St) (f : Nat → Int32) : (world b S).set 18 (bad b 18, .inl (bcy b 1, 12, .inl f)) = world b (pA S 18 f) := rfl
theorem ws_19 (b : Bw) (S : St) (f : Nat → Int32) : (world b S).set 19 (bad b 19, .inl (bcy b 1, 12, .inl f)) = world b (pA S 19 f) := rfl
theorem ws_20 (b : Bw) (S : St) (f : Nat → Int32) : (world b S).set 20 (bad b 20, .inl (bcy b 3, 12, .inl f)) = world b (pA S 20 f) := rfl
theorem ws_21 (b : Bw) (S : St) (f : Nat → Int32) : (world b S).set 21 (bad b 21, .inl (bcy b 1, 6, .inl f)) = world b (pA S 21 f) := rfl
theorem ws_22 (b : Bw) (S : St) (f : Nat → Int32) : (world b S).set 22 (bad b 22, .inl (bcy b 1, 6, .inl f)) = world b (pA S 22 f) := rfl
theorem ws_23 (b : Bw) (S : St) (f : Nat → Int32) : (world b S).set 23 (bad b 23, .inl (bcy b 1, 6, .inl f)) = world b (pA S 23 f) := rfl
theorem ws_24 (b : Bw) (S : St) (f : Nat → Int32) : (world b S).set 24 (bad b 24, .inl (bcy b 0, 400, .inl f)) = world b (pA S 24 f) := rfl
theorem ws_26 (b : Bw) (S : St) (f : Nat → Int32) : (world b S).set 26 (bad b 26, .inl (bcy b 1, 24, .inl f)) = world b (pA S 26 f) := rfl
theorem ws_27 (b : Bw) (S : St) (f : Nat → Int32) : (world b S).set 27 (bad b 27, .inl (bcy b 1, 24, .inl f)) = world b (pA S 27 f) := rfl
theorem ws_28 (b : Bw) (S : St) (f : Nat → Int32) : (world b S).set 28 (bad b 28, .inl (bcy b 1, 24, .inl f)) = world b (pA S 28 f) := rfl
theorem ws_29 (b : Bw) (S : St) (f : Nat → Int32) : (world b S).set 29 (bad b 29, .inl (bcy b 1, 24, .inl f)) = world b (pA S 29 f) := rfl
theorem ws_30 (b : Bw) (S : St) (f : Nat → Int32) : (world b S).set 30 (bad b 30, .inl (bcy b 1, 52, .inl f)) = world b (pA S 30 f) := rfl
theorem ws_32 (b : Bw) (S : St) (f : Nat → Int32) : (world b S).set 32 (bad b 32, .inl (bcy b 1, 400, .inl f)) = world b (pA S 32 f) := rfl
theorem ws_33 (b : Bw) (S : St) (f : Nat → Int32) : (world b S).set 33 (bad b 33, .inl (bcy b 1, 400, .inl f)) = world b (pA S 33 f) := rfl
theorem ws_34 (b : Bw) (S : St) (f : Nat → Int32) : (world b S).set 34 (bad b 34, .inl (bcy b 1, 400, .inl f)) = world b (pA S 34 f) := rfl
theorem ws_35 (b : Bw) (S : St) (f : Nat → Int32) : (world b S).set 35 (bad b 35, .inl (bcy b 1, 400, .inl f)) = world b (pA S 35 f) := rfl
theorem ws_36 (b : Bw) (S : St) (f : Nat → Int32) : (world b S).set 36 (bad b 36, .inl (bcy b 1, 400, .inl f)) = world b (pA S 36 f) := rfl
theorem ws_37 (b : Bw) (S : St) (f : Nat → Int32) : (world b S).set 37 (bad b 37, .inl (bcy b 1, 400, .inl f)) = world b (pA S 37 f) := rfl
theorem ws_38 (b : Bw) (S : St) (f : Nat → Int32) : (world b S).set 38 (bad b 38, .inl (bcy b 1, 400, .inl f)) = world b (pA S 38 f) := rfl
theorem ws_39 (b : Bw) (S : St) (f : Nat → Int64) : (world b S).set 39 (bad b 39, .inl (bcy b 2, 400, .inr (.inl f))) = world b (pL S 39 f) := rfl
theorem ws_40 (b : Bw) (S : St) (f : Nat → Int64) : (world b S).set 40 (bad b 40, .inl (bcy b 2, 400, .inr (.inl f))) = world b (pL S 40 f) := rfl
theorem ws_42 (b : Bw) (S : St) (f : Nat → Int32) : (world b S).set 42 (bad b 42, .inl (bcy b 1, 400, .inl f)) = world b (pA S 42 f) := rfl
theorem ws_43 (b : Bw) (S : St) (f : Nat → Int32) : (world b S).set 43 (bad b 43, .inl (bcy b 1, 400, .inl f)) = world b (pA S 43 f) := rfl
theorem ws_44 (b : Bw) (S : St) (f : Nat → Int32) : (world b S).set 44 (bad b 44, .inl (bcy b 1, 400, .inl f)) = world b (pA S 44 f) := rfl
theorem ws_45 (b : Bw) (S : St) (f : Nat → Int32) : (world b S).set 45 (bad b 45, .inl (bcy b 1, 400, .inl f)) = world b (pA S 45 f) := rfl
theorem ws_46 (b : Bw) (S : St) (f : Nat → Int32) : (world b S).set 46 (bad b 46, .inl (bcy b 1, 400, .inl f)) = world b (pA S 46 f) := rfl
theorem ws_47 (b : Bw) (S : St) (f : Nat → Int32) : (world b S).set 47 (bad b 47, .inl (bcy b 1, 400, .inl f)) = world b (pA S 47 f) := rfl
theorem ws_48 (b : Bw) (S : St) (f : Nat → Int32) : (world b S).set 48 (bad b 48, .inl (bcy b 1, 400, .inl f)) = world b (pA S 48 f) := rfl
theorem ws_49 (b : Bw) (S : St) (f : Nat → Int32) : (world b S).set 49 (bad b 49, .inl (bcy b 1, 48, .inl f)) = world b (pA S 49 f) := rfl
theorem ws_50 (b : Bw) (S : St) (f : Nat → Int32) : (world b S).set 50 (bad b 50, .inl (bcy b 1, 48, .inl f)) = world b (pA S 50 f) := rfl
theorem ws_51 (b : Bw) (S : St) (f : Nat → Int32) : (world b S).set 51 (bad b 51, .inl (bcy b 1, 48, .inl f)) = world b (pA S 51 f) := rfl
theorem ws_52 (b : Bw) (S : St) (f : Nat → Int32) : (world b S).set 52 (bad b 52, .inl (bcy b 1, 48, .inl f)) = world b (pA S 52 f) := rfl
theorem ws_53 (b : Bw) (S : St) (f : Nat → Int32) : (world b S).set 53 (bad b 53, .inl (bcy b 1, 48, .inl f)) = world b (pA S 53 f) := rfl
theorem ws_54 (b : Bw) (S : St) (f : Nat → Int32) : (world b S).set 54 (bad b 54, .inl (bcy b 1, 12, .inl f)) = world b (pA S 54 f) := rfl
theorem ws_55 (b : Bw) (S : St) (f : Nat → Int32) : (world b S).set 55 (bad b 55, .inl (bcy b 1, 12, .inl f)) = world b (pA S 55 f) := rfl
theorem ws_56 (b : Bw) (S : St) (f : Nat → Int32) : (world b S).set 56 (bad b 56, .inl (bcy b 3, 12, .inl f)) = world b (pA S 56 f) := rfl
theorem ws_57 (b : Bw) (S : St) (f : Nat → Int32) : (world b S).set 57 (bad b 57, .inl (bcy b 1, 6, .inl f)) = world b (pA S 57 f) := rfl
theorem ws_58 (b : Bw) (S : St) (f : Nat → Int32) : (world b S).set 58 (bad b 58, .inl (bcy b 1, 6, .inl f)) = world b (pA S 58 f) := rfl
theorem ws_59 (b : Bw) (S : St) (f : Nat → Int32) : (world b S).set 59 (bad b 59, .inl (bcy b 1, 6, .inl f)) = world b (pA S 59 f) := rfl
theorem ws_60 (b : Bw) (S : St) (f : Nat → Int32) : (world b S).set 60 (bad b 60, .inl (bcy b 1, 24, .inl f)) = world b (pA S 60 f) := rfl
theorem ws_61 (b : Bw) (S : St) (f : Nat → Int32) : (world b S).set 61 (bad b 61, .inl (bcy b 1, 24, .inl f)) = world b (pA S 61 f) := rfl
theorem ws_62 (b : Bw) (S : St) (f : Nat → Int32) : (world b S).set 62 (bad b 62, .inl (bcy b 1, 24, .inl f)) = world b (pA S 62 f) := rfl
theorem ws_63 (b : Bw) (S : St) (f : Nat → Int32) : (world b S).set 63 (bad b 63, .inl (bcy b 1, 24, .inl f)) = world b (pA S 63 f) := rfl
theorem ws_64 (b : Bw) (S : St) (f : Nat → Int32) : (world b S).set 64 (bad b 64, .inl (bcy b 1, 400, .inl f)) = world b (pA S 64 f) := rfl
theorem ws_65 (b : Bw) (S : St) (f : Nat → Int32) : (world b S).set 65 (bad b 65, .inl (bcy b 1, 2400, .inl f)) = world b (pA S 65 f) := rfl
theorem ws_66 (b : Bw) (S : St) (f : Nat → Int32) : (world b S).set 66 (bad b 66, .inl (bcy b 1, 2400, .inl f)) = world b (pA S 66 f) := rfl
theorem wg_25 (b : Bw) (S : St) (i : Nat) (h : i < 4) : (world b S)[26 + i]? = some (bad b (26 + i), .inl (bcy b 1, 24, .inl (gA S (26 + i)))) := by
  have h1 : i = 0 ∨ i = 1 ∨ i = 2 ∨ i = 3 := by omega
  rcases h1 with rfl | rfl | rfl | rfl <;> rfl
theorem wgs_25 (b : Bw) (S : St) (i : Nat) (h : i < 4) (f : Nat → Int32) : (world b S).set (26 + i) (bad b (26 + i), .inl (bcy b 1, 24, .inl f)) = world b (pA S (26 + i) f) := by
  have h1 : i = 0 ∨ i = 1 ∨ i = 2 ∨ i = 3 := by omega
  rcases h1 with rfl | rfl | rfl | rfl <;> rfl
theorem wg_31 (b : Bw) (S : St) (i : Nat) (h : i < 7) : (world b S)[32 + i]? = some (bad b (32 + i), .inl (bcy b 1, 400, .inl (gA S (32 + i)))) := by
  have h1 : i = 0 ∨ i = 1 ∨ i = 2 ∨ i = 3 ∨ i = 4 ∨ i = 5 ∨ i = 6 := by omega
  rcases h1 with rfl | rfl | rfl | rfl | rfl | rfl | rfl <;> rfl
theorem wgs_31 (b : Bw) (S : St) (i : Nat) (h : i < 7) (f : Nat → Int32) : (world b S).set (32 + i) (bad b (32 + i), .inl (bcy b 1, 400, .inl f)) = world b (pA S (32 + i) f) := by
  have h1 : i = 0 ∨ i = 1 ∨ i = 2 ∨ i = 3 ∨ i = 4 ∨ i = 5 ∨ i = 6 := by omega
  rcases h1 with rfl | rfl | rfl | rfl | rfl | rfl | rfl <;> rfl
theorem wg_41 (b : Bw) (S : St) (i : Nat) (h : i < 7) : (world b S)[42 + i]? = some (bad b (42 + i), .inl (bcy b 1, 400, .inl (gA S (42 + i)))) := by
  have h1 : i = 0 ∨ i = 1 ∨ i = 2 ∨ i = 3 ∨ i = 4 ∨ i = 5 ∨ i = 6 := by omega
  rcases h1 with rfl | rfl | rfl | rfl | rfl | rfl | rfl <;> rfl
theorem wgs_41 (b : Bw) (S : St) (i : Nat) (h : i < 7) (f : Nat → Int32) : (world b S).set (42 + i) (bad b (42 + i), .inl (bcy b 1, 400, .inl f)) = world b (pA S (42 + i) f) := by
  have h1 : i = 0 ∨ i = 1 ∨ i = 2 ∨ i = 3 ∨ i = 4 ∨ i = 5 ∨ i = 6 := by omega
  rcases h1 with rfl | rfl | rfl | rfl | rfl | rfl | rfl <;> rfl
theorem wl (b : Bw) (S : St) (i : Nat) (h : i = 39 ∨ i = 40) : (world b S)[i]? = some (bad b i, .inl (bcy b 2, 400, .inr (.inl (gL S i)))) := by
  rcases h with rfl | rfl <;> rfl
theorem wls (b : Bw) (S : St) (i : Nat) (h : i = 39 ∨ i = 40) (f : Nat → Int64) : (world b S).set i (bad b i, .inl (bcy b 2, 400, .inr (.inl f))) = world b (pL S i f) := by
  rcases h with rfl | rfl <;> rfl
end
section
/-! ===== what stays beside the world: words of nest mates, texts, tables ===== -/
def nestWs : List Cond := [
  .methodLinkNest RX11 15 yX9_init RX11,
  .methodLinkNest RX9 9 yX4_init RX11,
  .fieldLinkNest RX6 74 RX4 "voices" "[I" RX11,
  .fieldLinkNest RX6 50 RX4 "starts" "[I" RX11,
  .fieldLinkNest RX6 39 RX4 "lengths" "[I" RX11,
  .fieldLinkNest RX6 80 RX4 "pitches" "[I" RX11,
  .fieldLinkNest RX6 86 RX4 "marks" "[I" RX11,
  .fieldLinkNest RX6 25 RX4 "howMany" "I" RX11,
  .fieldLinkNest RX11 195 RX4 "howMany" "I" RX11,
  .methodLinkNest RX9 18 yX2_init RX11,
  .fieldLinkNest RX11 196 RX2 "howMany" "I" RX11,
  .methodLinkNest RX9 25 yX0_init RX11,
  .fieldLinkNest RX11 197 RX0 "howMany" "I" RX11,
  .fieldLinkNest RX6 19 RX9 "notes" "LStyleRows$Notes;" RX11,
  .fieldLinkNest RX11 72 RX9 "notes" "LStyleRows$Notes;" RX11,
  .fieldLinkNest RX11 90 RX9 "levels" "LStyleRows$Levels;" RX11,
  .fieldLinkNest RX6 111 RX9 "levels" "LStyleRows$Levels;" RX11,
  .fieldLinkNest RX11 104 RX9 "arcs" "LStyleRows$Arcs;" RX11,
  .methodLinkNest RX11 22 yX10_init RX11,
  .fieldLinkNest RX7 101 RX10 "length" "I" RX11,
  .fieldLinkNest RX11 199 RX10 "length" "I" RX11,
  .fieldLinkNest RX11 142 RX8 "rows" "[[I" RX11,
  .fieldLinkNest RX11 198 RX8 "howMany" "I" RX11,
  .methodLinkNest RX11 36 yX7_init RX11,
  .methodLinkNest RX11 43 yX6_init RX11,
  .methodLinkNest RX6 9 yX1_init RX11,
  .fieldLinkNest RX5 38 RX1 "rows" "[[I" RX11,
  .fieldLinkNest RX11 182 RX1 "rows" "[[I" RX11,
  .fieldLinkNest RX5 20 RX1 "howMany" "I" RX11,
  .fieldLinkNest RX11 177 RX1 "howMany" "I" RX11,
  .fieldLinkNest RX6 31 RX1 "tooMany" "Z" RX11,
  .fieldLinkNest RX11 159 RX6 "parts" "LStyleRows$Events;" RX11,
  .methodLinkNest RX11 50 yX5_init RX11,
  .methodLinkNest RX11 57 yX1_init RX11,
  .methodLinkNest RX4 31 yX11_isWithin RX11,
  .methodLinkNest RX2 30 yX11_quotient RX11,
  .methodLinkNest RX0 34 yX11_isWithin RX11,
  .methodLinkNest RX0 40 yX11_quotient RX11,
  .methodLinkNest RX7 83 yX11_isWithin RX11,
  .fieldLinkNest RX7 55 RX3 "FROM" "[I" RX11,
  .fieldLinkNest RX7 61 RX3 "TO" "[I" RX11,
  .methodLinkNest RX8 33 yX11_isWithin RX11,
  .methodLinkNest RX3 9 yX11_isWithin RX11,
  .fieldLinkNest RX8 41 RX3 "WITHOUT" "[I" RX11,
  .methodLinkNest RX6 162 yX11_quotient RX11,
  .methodLinkNest RX1 24 yX11_isWithin RX11]
def isNest (w : Cond) : Bool := match w with
  | .fieldLinkNest _ _ _ _ _ _ => true
  | .methodLinkNest _ _ _ _ => true
  | _ => false
theorem nest_all : ∀ w ∈ nestWs, isNest w = true := List.all_eq_true.mp rfl
theorem nw_X11_15 : (.methodLinkNest RX11 15 yX9_init RX11 : Cond) ∈ nestWs := List.mem_of_getElem? (i := 0) rfl
theorem nw_X9_9 : (.methodLinkNest RX9 9 yX4_init RX11 : Cond) ∈ nestWs := List.mem_of_getElem? (i := 1) rfl
theorem nw_X6_74 : (.fieldLinkNest RX6 74 RX4 "voices" "[I" RX11 : Cond) ∈ nestWs := List.mem_of_getElem? (i := 2) rfl
theorem nw_X6_50 : (.fieldLinkNest RX6 50 RX4 "starts" "[I" RX11 : Cond) ∈ nestWs := List.mem_of_getElem? (i := 3) rfl
theorem nw_X6_39 : (.fieldLinkNest RX6 39 RX4 "lengths" "[I" RX11 : Cond) ∈ nestWs := List.mem_of_getElem? (i := 4) rfl
theorem nw_X6_80 : (.fieldLinkNest RX6 80 RX4 "pitches" "[I" RX11 : Cond) ∈ nestWs := List.mem_of_getElem? (i := 5) rfl
theorem nw_X6_86 : (.fieldLinkNest RX6 86 RX4 "marks" "[I" RX11 : Cond) ∈ nestWs := List.mem_of_getElem? (i := 6) rfl
theorem nw_X6_25 : (.fieldLinkNest RX6 25 RX4 "howMany" "I" RX11 : Cond) ∈ nestWs := List.mem_of_getElem? (i := 7) rfl
theorem nw_X11_195 : (.fieldLinkNest RX11 195 RX4 "howMany" "I" RX11 : Cond) ∈ nestWs := List.mem_of_getElem? (i := 8) rfl
theorem nw_X9_18 : (.methodLinkNest RX9 18 yX2_init RX11 : Cond) ∈ nestWs := List.mem_of_getElem? (i := 9) rfl
theorem nw_X11_196 : (.fieldLinkNest RX11 196 RX2 "howMany" "I" RX11 : Cond) ∈ nestWs := List.mem_of_getElem? (i := 10) rfl
theorem nw_X9_25 : (.methodLinkNest RX9 25 yX0_init RX11 : Cond) ∈ nestWs := List.mem_of_getElem? (i := 11) rfl
theorem nw_X11_197 : (.fieldLinkNest RX11 197 RX0 "howMany" "I" RX11 : Cond) ∈ nestWs := List.mem_of_getElem? (i := 12) rfl
theorem nw_X6_19 : (.fieldLinkNest RX6 19 RX9 "notes" "LStyleRows$Notes;" RX11 : Cond) ∈ nestWs := List.mem_of_getElem? (i := 13) rfl
theorem nw_X11_72 : (.fieldLinkNest RX11 72 RX9 "notes" "LStyleRows$Notes;" RX11 : Cond) ∈ nestWs := List.mem_of_getElem? (i := 14) rfl
theorem nw_X11_90 : (.fieldLinkNest RX11 90 RX9 "levels" "LStyleRows$Levels;" RX11 : Cond) ∈ nestWs := List.mem_of_getElem? (i := 15) rfl
theorem nw_X6_111 : (.fieldLinkNest RX6 111 RX9 "levels" "LStyleRows$Levels;" RX11 : Cond) ∈ nestWs := List.mem_of_getElem? (i := 16) rfl
theorem nw_X11_104 : (.fieldLinkNest RX11 104 RX9 "arcs" "LStyleRows$Arcs;" RX11 : Cond) ∈ nestWs := List.mem_of_getElem? (i := 17) rfl
theorem nw_X11_22 : (.methodLinkNest RX11 22 yX10_init RX11 : Cond) ∈ nestWs := List.mem_of_getElem? (i := 18) rfl
theorem nw_X7_101 : (.fieldLinkNest RX7 101 RX10 "length" "I" RX11 : Cond) ∈ nestWs := List.mem_of_getElem? (i := 19) rfl
theorem nw_X11_199 : (.fieldLinkNest RX11 199 RX10 "length" "I" RX11 : Cond) ∈ nestWs := List.mem_of_getElem? (i := 20) rfl
theorem nw_X11_142 : (.fieldLinkNest RX11 142 RX8 "rows" "[[I" RX11 : Cond) ∈ nestWs := List.mem_of_getElem? (i := 21) rfl
theorem nw_X11_198 : (.fieldLinkNest RX11 198 RX8 "howMany" "I" RX11 : Cond) ∈ nestWs := List.mem_of_getElem? (i := 22) rfl
theorem nw_X11_36 : (.methodLinkNest RX11 36 yX7_init RX11 : Cond) ∈ nestWs := List.mem_of_getElem? (i := 23) rfl
theorem nw_X11_43 : (.methodLinkNest RX11 43 yX6_init RX11 : Cond) ∈ nestWs := List.mem_of_getElem? (i := 24) rfl
theorem nw_X6_9 : (.methodLinkNest RX6 9 yX1_init RX11 : Cond) ∈ nestWs := List.mem_of_getElem? (i := 25) rfl
theorem nw_X5_38 : (.fieldLinkNest RX5 38 RX1 "rows" "[[I" RX11 : Cond) ∈ nestWs := List.mem_of_getElem? (i := 26) rfl
theorem nw_X11_182 : (.fieldLinkNest RX11 182 RX1 "rows" "[[I" RX11 : Cond) ∈ nestWs := List.mem_of_getElem? (i := 27) rfl
theorem nw_X5_20 : (.fieldLinkNest RX5 20 RX1 "howMany" "I" RX11 : Cond) ∈ nestWs := List.mem_of_getElem? (i := 28) rfl
theorem nw_X11_177 : (.fieldLinkNest RX11 177 RX1 "howMany" "I" RX11 : Cond) ∈ nestWs := List.mem_of_getElem? (i := 29) rfl
theorem nw_X6_31 : (.fieldLinkNest RX6 31 RX1 "tooMany" "Z" RX11 : Cond) ∈ nestWs := List.mem_of_getElem? (i := 30) rfl
theorem nw_X11_159 : (.fieldLinkNest RX11 159 RX6 "parts" "LStyleRows$Events;" RX11 : Cond) ∈ nestWs := List.mem_of_getElem? (i := 31) rfl
theorem nw_X11_50 : (.methodLinkNest RX11 50 yX5_init RX11 : Cond) ∈ nestWs := List.mem_of_getElem? (i := 32) rfl
theorem nw_X11_57 : (.methodLinkNest RX11 57 yX1_init RX11 : Cond) ∈ nestWs := List.mem_of_getElem? (i := 33) rfl
theorem nw_X4_31 : (.methodLinkNest RX4 31 yX11_isWithin RX11 : Cond) ∈ nestWs := List.mem_of_getElem? (i := 34) rfl
theorem nw_X2_30 : (.methodLinkNest RX2 30 yX11_quotient RX11 : Cond) ∈ nestWs := List.mem_of_getElem? (i := 35) rfl
theorem nw_X0_34 : (.methodLinkNest RX0 34 yX11_isWithin RX11 : Cond) ∈ nestWs := List.mem_of_getElem? (i := 36) rfl
theorem nw_X0_40 : (.methodLinkNest RX0 40 yX11_quotient RX11 : Cond) ∈ nestWs := List.mem_of_getElem? (i := 37) rfl
theorem nw_X7_83 : (.methodLinkNest RX7 83 yX11_isWithin RX11 : Cond) ∈ nestWs := List.mem_of_getElem? (i := 38) rfl
theorem nw_X7_55 : (.fieldLinkNest RX7 55 RX3 "FROM" "[I" RX11 : Cond) ∈ nestWs := List.mem_of_getElem? (i := 39) rfl
theorem nw_X7_61 : (.fieldLinkNest RX7 61 RX3 "TO" "[I" RX11 : Cond) ∈ nestWs := List.mem_of_getElem? (i := 40) rfl
theorem nw_X8_33 : (.methodLinkNest RX8 33 yX11_isWithin RX11 : Cond) ∈ nestWs := List.mem_of_getElem? (i := 41) rfl
theorem nw_X3_9 : (.methodLinkNest RX3 9 yX11_isWithin RX11 : Cond) ∈ nestWs := List.mem_of_getElem? (i := 42) rfl
theorem nw_X8_41 : (.fieldLinkNest RX8 41 RX3 "WITHOUT" "[I" RX11 : Cond) ∈ nestWs := List.mem_of_getElem? (i := 43) rfl
theorem nw_X6_162 : (.methodLinkNest RX6 162 yX11_quotient RX11 : Cond) ∈ nestWs := List.mem_of_getElem? (i := 44) rfl
theorem nw_X1_24 : (.methodLinkNest RX1 24 yX11_isWithin RX11 : Cond) ∈ nestWs := List.mem_of_getElem? (i := 45) rfl
def lenS : List Nat := [5, 5, 4, 5, 6, 5, 4, 5, 5, 4, 4, 4, 5, 0, 5, 4]
def bytS : List (List Int32) := [[115, 104, 111, 114, 116], [112, 108, 97, 105, 110], [104, 101, 108, 100], [108, 101, 97, 115, 116], [97, 99, 99, 101, 110, 116], [102, 105, 114, 115, 116], [98, 101, 97, 116], [116, 114, 105, 108, 108], [117, 112, 112, 101, 114], [116, 117, 114, 110], [108, 101, 97, 110], [114, 111, 108, 108], [108, 111, 111, 115, 101], [], [118, 111, 105, 99, 101], [114, 97, 110, 107]]
def strRefs : List (String × Nat × String × Nat) := [(RX3, 15, "short", 0), (RX3, 17, "plain", 1), (RX3, 19, "held", 2), (RX3, 21, "least", 3), (RX3, 23, "accent", 4), (RX3, 25, "first", 5), (RX3, 27, "beat", 6), (RX3, 29, "trill", 7), (RX3, 31, "upper", 8), (RX3, 33, "turn", 9), (RX3, 35, "lean", 10), (RX3, 37, "roll", 11), (RX3, 39, "loose", 12), (RX3, 41, "", 13), (RX7, 38, "voice", 14), (RX7, 64, "rank", 15)]
theorem sr_X3_15 : ((RX3, 15, "short", 0) : String × Nat × String × Nat) ∈ strRefs := List.mem_of_getElem? (i := 0) rfl
theorem sr_X3_17 : ((RX3, 17, "plain", 1) : String × Nat × String × Nat) ∈ strRefs := List.mem_of_getElem? (i := 1) rfl
theorem sr_X3_19 : ((RX3, 19, "held", 2) : String × Nat × String × Nat) ∈ strRefs := List.mem_of_getElem? (i := 2) rfl
theorem sr_X3_21 : ((RX3, 21, "least", 3) : String × Nat × String × Nat) ∈ strRefs := List.mem_of_getElem? (i := 3) rfl
theorem sr_X3_23 : ((RX3, 23, "accent", 4) : String × Nat × String × Nat) ∈ strRefs := List.mem_of_getElem? (i := 4) rfl
theorem sr_X3_25 : ((RX3, 25, "first", 5) : String × Nat × String × Nat) ∈ strRefs := List.mem_of_getElem? (i := 5) rfl
theorem sr_X3_27 : ((RX3, 27, "beat", 6) : String × Nat × String × Nat) ∈ strRefs := List.mem_of_getElem? (i := 6) rfl
theorem sr_X3_29 : ((RX3, 29, "trill", 7) : String × Nat × String × Nat) ∈ strRefs := List.mem_of_getElem? (i := 7) rfl
theorem sr_X3_31 : ((RX3, 31, "upper", 8) : String × Nat × String × Nat) ∈ strRefs := List.mem_of_getElem? (i := 8) rfl
theorem sr_X3_33 : ((RX3, 33, "turn", 9) : String × Nat × String × Nat) ∈ strRefs := List.mem_of_getElem? (i := 9) rfl
theorem sr_X3_35 : ((RX3, 35, "lean", 10) : String × Nat × String × Nat) ∈ strRefs := List.mem_of_getElem? (i := 10) rfl
theorem sr_X3_37 : ((RX3, 37, "roll", 11) : String × Nat × String × Nat) ∈ strRefs := List.mem_of_getElem? (i := 11) rfl
theorem sr_X3_39 : ((RX3, 39, "loose", 12) : String × Nat × String × Nat) ∈ strRefs := List.mem_of_getElem? (i := 12) rfl
theorem sr_X3_41 : ((RX3, 41, "", 13) : String × Nat × String × Nat) ∈ strRefs := List.mem_of_getElem? (i := 13) rfl
theorem sr_X7_38 : ((RX7, 38, "voice", 14) : String × Nat × String × Nat) ∈ strRefs := List.mem_of_getElem? (i := 14) rfl
theorem sr_X7_64 : ((RX7, 64, "rank", 15) : String × Nat × String × Nat) ∈ strRefs := List.mem_of_getElem? (i := 15) rfl
def tblN (j : Nat) : String := match j with
  | 0 => "WITHOUT"
  | 1 => "FROM"
  | _ => "TO"
def tblV : List (List Int32) := [[50, 90, 100, 10, 16, 8, 4, 30, 0, 20, 40, 12, 0], [1, 1, 1, 1, 0, 0, 0, 1, 0, 1, 0, 0, 0], [100, 100, 100, 960, 127, 127, 127, 960, 1, 960, 960, 960, 99]]
def tb (j i : Nat) : Int32 := (tblV.getD j []).getD i 0
/-! ===== the pure words of the functions that the methods are ===== -/
def chk {α : Type} (t : Bool) (k : Option α) : Option α := match t with
  | true => k
  | false => none
theorem chk_some {α : Type} {t : Bool} {k : Option α} {r : α} (h : chk t k = some r) : t = true ∧ k = some r := by
  cases t with
  | true => exact ⟨rfl, h⟩
  | false => cases h
def bnd {α β : Type} (o : Option (α × St)) (f : α → St → Option β) : Option β := match o with
  | none => none
  | some r => f r.1 r.2
theorem bnd_some {α β : Type} {o : Option (α × St)} {f : α → St → Option β} {r : β} (h : bnd o f = some r) : ∃ q, o = some q ∧ f q.1 q.2 = some r := by
  cases o with
  | none => cases h
  | some q => exact ⟨q, rfl, h⟩
def vlet {α β : Type} (a : α) (f : α → β) : β := f a
theorem ite_t {α : Type} {c : Prop} {hc : Decidable c} {a b r : α} (h : (if c then a else b) = r) (q : c) : a = r := by rw [if_pos q] at h; exact h
theorem ite_f {α : Type} {c : Prop} {hc : Decidable c} {a b r : α} (h : (if c then a else b) = r) (q : ¬ c) : b = r := by rw [if_neg q] at h; exact h
def inb (i : Int32) (n : Nat) : Bool := decide (¬ (i < 0 ∨ n ≤ i.toNatClampNeg))
theorem inb_in {i : Int32} {n : Nat} (h : inb i n = true) : vp_in i n := show ¬ (i < 0 ∨ n ≤ i.toNatClampNeg) from of_decide_eq_true h
def nzI (x : Int32) : Bool := decide (¬ x = 0)
def nzL (x : Int64) : Bool := decide (¬ x = 0)
def isB (x : Int32) : Bool := decide (x = 0 ∨ x = 1)
def isL (r : Nat) : Bool := decide (r = 39 ∨ r = 40)
def ltN (i n : Nat) : Bool := decide (i < n)
def lus (x : Int64) (y : Int32) : Int64 := (x.toUInt64 >>> (y.toInt64.toUInt64 &&& Int64.toUInt64 63)).toInt64
def imin (x y : Int32) : Int32 := if y < x then y else x
def imax (x y : Int32) : Int32 := if x < y then y else x
def rd (S : St) (k : Nat) (i : Int32) : Int32 := gA S k i.toNatClampNeg
def rdL (S : St) (k : Nat) (i : Int32) : Int64 := gL S k i.toNatClampNeg
def wr (S : St) (k : Nat) (i x : Int32) : St := pA S k (upd (gA S k) i.toNatClampNeg x)
def wrL (S : St) (k : Nat) (i : Int32) (x : Int64) : St := pL S k (vp_updL (gL S k) i.toNatClampNeg x)
def tbr (j : Nat) (i : Int32) : Int32 := tb j i.toNatClampNeg
/-- a loop with fuel -/
def loopN {σ ρ : Type} (body : (σ → Option ρ) → σ → Option ρ) : Nat → σ → Option ρ
  | 0, _ => none
  | n + 1, s => body (loopN body n) s
theorem loop_sound {σ ρ : Type} {body : (σ → Option ρ) → σ → Option ρ} {P : σ → ρ → Prop} (h : ∀ rec : σ → Option ρ, (∀ s r, rec s = some r → P s r) → ∀ s r, body rec s = some r → P s r) : ∀ (n : Nat) (s : σ) (r : ρ), loopN body n s = some r → P s r
  | 0, _, _, q => by cases q
  | n + 1, s, r, q => h (loopN body n) (loop_sound h n) s r q
def fuel : Nat := 1000000
/-! ===== the environment ===== -/
theorem nest_form {w : Cond} (h : isNest w = true) : (∃ a i b n d q, w = .fieldLinkNest a i b n d q) ∨ ∃ a i x q, w = .methodLinkNest a i x q := by
  cases w <;> first | exact Or.inl ⟨_, _, _, _, _, _, rfl⟩ | exact Or.inr ⟨_, _, _, _, rfl⟩ | cases h
theorem nest_warm {w : Cond} (h : isNest w = true) {s U : State} (hW : s.WarmedH U.vm) (hZ : va_Nw w s) : va_Nw w U := by
  rcases nest_form h with ⟨a, i, b, n, d, q, rfl⟩ | ⟨a, i, x, q, rfl⟩
  · exact va_Nw.warmF hW hZ
  · exact va_Nw.warmM hW hZ
theorem nest_tab {w : Cond} (h : isNest w = true) : w.onTables = true := by
  rcases nest_form h with ⟨a, i, b, n, d, q, rfl⟩ | ⟨a, i, x, q, rfl⟩ <;> rfl
def EnvP (b : Bw) (A : Nat → Prop) (U : State) (H : Heap) : Prop :=
  (∀ w ∈ nestWs, va_Nw w U) ∧ vk_S 16 lenS bytS (bK b) (bV b) A U H ∧ (∀ q ∈ strRefs, vk_R q.1 q.2.1 q.2.2.1 (bK b q.2.2.2) U) ∧ va_Z "java/lang/String" "COMPACT_STRINGS" "Z" (.int 1) A U H ∧ va_Zq "jdk/internal/util/Preconditions" "SIOOBE_FORMATTER" "Ljava/util/function/BiFunction;" A U H ∧ (∀ j, j < 3 → va_Z RX3 (tblN j) "[I" (.ref (bT b j)) A U H ∧ va_T .int (bT b j) 13 (fun i => .int (tb j i)) A U H)
theorem EnvP.warm {b : Bw} {A : Nat → Prop} {s U : State} {H : Heap} (hW : s.WarmedH U.vm) (h : EnvP b A s H) : EnvP b A U H := by
  obtain ⟨h1, h2, h3, h4, h5, h6⟩ := h
  exact ⟨fun w hw => nest_warm (nest_all w hw) hW (h1 w hw), h2.moved hW.alike, fun q hq => vk_R.warm hW (h3 q hq), h4.moved hW.alike, h5.moved hW.alike, fun j hj => ⟨(h6 j hj).1.moved hW.alike, (h6 j hj).2.moved hW.alike⟩⟩
theorem EnvP.same {b : Bw} {A : Nat → Prop} {s U : State} {H : Heap} (hv : U.vm = s.vm) (h : EnvP b A s H) : EnvP b A U H := by
  obtain ⟨h1, h2, h3, h4, h5, h6⟩ := h
  have ha : s.vm.Alike U.vm := by rw [hv]; exact Vm.Alike.refl s.vm
  exact ⟨fun w hw => va_Nw.same (nest_tab (nest_all w hw)) hv.symm (h1 w hw), h2.moved ha, fun q hq => vk_R.same hv (h3 q hq), h4.moved ha, h5.moved ha, fun j hj => ⟨(h6 j hj).1.moved ha, (h6 j hj).2.moved ha⟩⟩
theorem EnvP.kept {b : Bw} {A : Nat → Prop} {U : State} {H H1 : Heap} (h : EnvP b A U H) (hq : ∀ a : Nat, a < H.size → ¬ A a → H1[a]? = H[a]?) : EnvP b A U H1 := by
  obtain ⟨h1, h2, h3, h4, h5, h6⟩ := h
  exact ⟨h1, h2.kept hq, h3, h4.kept hq, h5.kept hq, fun j hj => ⟨(h6 j hj).1.kept hq, (h6 j hj).2.kept hq⟩⟩
theorem EnvP.narrow {b : Bw} {A B : Nat → Prop} {U : State} {H : Heap} (h : EnvP b A U H) (hAB : ∀ q, B q → A q) : EnvP b B U H := by
  obtain ⟨h1, h2, h3, h4, h5, h6⟩ := h
  exact ⟨h1, h2.narrow hAB, h3, h4.narrow hAB, h5.narrow hAB, fun j hj => ⟨(h6 j hj).1.narrow hAB, (h6 j hj).2.narrow hAB⟩⟩
/-! ===== contracts over states ===== -/
def AW (b : Bw) (sz : Nat) : Nat → Prop := fun q => (∃ k, k < nW ∧ q = bad b k) ∨ sz ≤ q
def adOK (b : Bw) : Prop := ∀ i j, i < nW → j < nW → bad b i = bad b j → i = j
theorem world_at {b : Bw} {S : St} {k : Nat} {q : Nat × va_E} (h : (world b S)[k]? = some q) : k < nW ∧ q.1 = bad b k := by
  have h1 : ((world b S).map Prod.fst)[k]? = some q.1 := by rw [List.getElem?_map, h]; rfl
  rw [world_fst, List.getElem?_map] at h1
  have hk : k < nW := by
    have := (List.getElem?_eq_some_iff.mp h).1
    rwa [world_len] at this
  rw [List.getElem?_range hk] at h1
  exact ⟨hk, (Option.some.inj h1).symm⟩
theorem world_D {b : Bw} (S : St) {A : Nat → Prop} (h : adOK b) (hA : ∀ k, k < nW → A (bad b k)) : va_D A (world b S) := by
  refine ⟨fun i j p q hi hj e => ?_, fun k q hk => ?_⟩
  · obtain ⟨a1, a2⟩ := world_at hi
    obtain ⟨b1, b2⟩ := world_at hj
    exact h i j a1 b1 (by rw [← a2, ← b2]; exact e)
  · obtain ⟨a1, a2⟩ := world_at hk
    rw [a2]
    exact hA k a1
theorem AW_in {b : Bw} {sz k : Nat} (h : k < nW) : AW b sz (bad b k) := Or.inl ⟨k, h, rfl⟩
def PreW (b : Bw) (S : St) (sz : Nat) (U : State) : Prop := U.heap.size = sz ∧ va_P (bD b) vwCl (world b S) U.heap ∧ va_K (bD b) vwCl (btys b) U ∧ adOK b ∧ EnvP b (AW b sz) U U.heap
def QW (b : Bw) (v : Option Value) (S1 : St) (A : Nat → Prop) : Array Value → State → Outcome → State → Prop := fun _ st oc t => oc = .returned v ∧ va_P (bD b) vwCl (world b S1) t.heap ∧ va_F A st t
/-- a contract: where the function answers, the method does -/
def Ct {ρ : Type} (l : Launch) (b : Bw) (y : MethodName) (ws : List Cond) (rm : Room) (vs : List Value) (S : St) (mk : ρ → Option Value) (o : Option (ρ × St)) : Prop := ∀ (sz : Nat) (r : ρ × St), o = some r → Met l y ws rm (va_Pc vs (PreW b S sz)) (QW b (mk r.1) r.2 (AW b sz)) 0 0 (AW b sz)
def mkI (x : Int32) : Option Value := some (.int x)
def mkL (x : Int64) : Option Value := some (.long x)
def mkV (_ : Unit) : Option Value := none
def mkS (b : Bw) (i : Nat) : Option Value := some (.ref (bK b i))
abbrev MC : Type := Program × Launch × Env × Room × State × MethodId × Array Value × List Frame × Method × Code × Bw
def Xl (X : MC) : Launch := X.2.1
def Xb (X : MC) : Bw := X.2.2.2.2.2.2.2.2.2.2
abbrev ad (X : MC) (k : Nat) : Nat := bad (Xb X) k
/-- the machine stands at a frame, and the heap holds the state S -/
def G (X : MC) (Q : State → Prop) (S : St) (pc : Nat) (lv : List (Nat × Value)) (st : List Value) : Prop := match X with
  | (p, l, e, R, s, m, args, below, meth, c, b) => ∀ (H : Heap) (locs : List Loc) (ls : Array Slot), va_P (bD b) vwCl (world b S) H → va_S (AW b s.heap.size) s.heap H locs → lv_has ls c.maxLocals lv → W p l e R s m args below meth c H locs 0 0 Q (F0 m pc ls st)
def Cx (X : MC) (cc : ByteArray) (own : String) (Ts : List Cond) (nL : Nat) (rm : Room) (ret : Option FieldType) : Prop := match X with
  | (p, l, e, R, s, m, args, below, meth, c, b) => p.tables.exec = Jvm.exec ∧ c.code = cc ∧ c.maxLocals = nL ∧ s.vm.findClass own = some m.cls ∧ (∀ w ∈ Ts, w.before args s = true) ∧ meth.sig.returnType = ret ∧ meth.locks = false ∧ R = rm ∧ va_K (bD b) vwCl (btys b) s ∧ adOK b ∧ EnvP b (AW b s.heap.size) s s.heap
def QM {ρ : Type} (mk : ρ → Option Value) (X : MC) (r : ρ × St) : State → Prop := match X with
  | (p, l, e, R, s, m, args, below, meth, c, b) => MQ below (QW b (mk r.1) r.2 (AW b s.heap.size)) args s 0 0 (AW b s.heap.size)
theorem PreW_calling {b : Bw} {S : St} {sz : Nat} {vs : List Value} : FrameBlind (va_Pc vs (PreW b S sz)) := by
  intro a U g mk h
  obtain ⟨h0, h1, h2, h3, h4, h5⟩ := h
  exact ⟨h0, h1, h2, va_K.moved (u := U) (U := U.calling g mk a) (Vm.Alike.refl U.vm) h3, h4, EnvP.same (s := U) (U := U.calling g mk a) rfl h5⟩
theorem Ct.of {ρ : Type} {l : Launch} {b : Bw} {y : MethodName} {ws ws' : List Cond} {rm : Room} {vs : List Value} {S : St} {mk : ρ → Option Value} {o : Option (ρ × St)} {cc : ByteArray} {nL : Nat} {ret : Option FieldType} (hy : plainName y.cls = true) (hw : ws = .code y cc nL ret :: ws') (hvs : (lg_sl vs).length ≤ nL)
    (body : ∀ X : MC, Cx X cc y.cls ws nL rm ret → Xl X = l → Xb X = b → ∀ r, o = some r → G X (QM mk X r) S 0 (lv_args 0 vs) []) : Ct l b y ws rm vs S mk o := by
  intro sz r hor
  refine Met.ofW (cc := cc) (maxL := nL) (ret := ret) hy hw ?_
  intro p e s m args below meth c s₁ B hml hv
  obtain ⟨rfl, hsz, hP, hK, hA, hE⟩ := hv
  subst hsz
  have hl := lv_entry vs (n := nL) hvs
  rw [lg_entry_eq]
  have hX := body (p, l, e, (headSpec ws rm).room, s, m, vs.toArray, below, meth, c, b) ⟨B.exec, B.bytes, hml, findClass_of_methodNamed B.named, atoms_spec (ws := ws) B.pre, B.returns, B.notSynchronized, rfl, hK, hA, hE⟩ rfl rfl r hor
  exact hX s.heap [] _ hP va_S.rf (by rw [hml]; exact hl)
theorem sw_ne {x k : Int32} (h : ¬ x = k) : x.toInt ≠ k.toInt := fun e => h (Int32.toInt_inj.mp e)
theorem sw_out_2 {x : Int32} (h0 : ¬ x = 0) (h1 : ¬ x = 1) (h2 : ¬ x = 2) : x.toInt < 0 ∨ 2 < x.toInt := by
  have e0 : x.toInt ≠ 0 := sw_ne h0
  have e1 : x.toInt ≠ 1 := sw_ne h1
  have e2 : x.toInt ≠ 2 := sw_ne h2
  omega
theorem sw_out_3 {x : Int32} (h0 : ¬ x = 0) (h1 : ¬ x = 1) (h2 : ¬ x = 2) (h3 : ¬ x = 3) : x.toInt < 0 ∨ 3 < x.toInt := by
  have e0 : x.toInt ≠ 0 := sw_ne h0
  have e1 : x.toInt ≠ 1 := sw_ne h1
  have e2 : x.toInt ≠ 2 := sw_ne h2
  have e3 : x.toInt ≠ 3 := sw_ne h3
  omega
theorem sw_out_5 {x : Int32} (h0 : ¬ x = 0) (h1 : ¬ x = 1) (h2 : ¬ x = 2) (h3 : ¬ x = 3) (h4 : ¬ x = 4) (h5 : ¬ x = 5) : x.toInt < 0 ∨ 5 < x.toInt := by
  have e0 : x.toInt ≠ 0 := sw_ne h0
  have e1 : x.toInt ≠ 1 := sw_ne h1
  have e2 : x.toInt ≠ 2 := sw_ne h2
  have e3 : x.toInt ≠ 3 := sw_ne h3
  have e4 : x.toInt ≠ 4 := sw_ne h4
  have e5 : x.toInt ≠ 5 := sw_ne h5
  omega
theorem sw_out_11 {x : Int32} (h0 : ¬ x = 0) (h1 : ¬ x = 1) (h2 : ¬ x = 2) (h3 : ¬ x = 3) (h4 : ¬ x = 4) (h5 : ¬ x = 5) (h6 : ¬ x = 6) (h7 : ¬ x = 7) (h8 : ¬ x = 8) (h9 : ¬ x = 9) (h10 : ¬ x = 10) (h11 : ¬ x = 11) : x.toInt < 0 ∨ 11 < x.toInt := by
  have e0 : x.toInt ≠ 0 := sw_ne h0
  have e1 : x.toInt ≠ 1 := sw_ne h1
  have e2 : x.toInt ≠ 2 := sw_ne h2
  have e3 : x.toInt ≠ 3 := sw_ne h3
  have e4 : x.toInt ≠ 4 := sw_ne h4
  have e5 : x.toInt ≠ 5 := sw_ne h5
  have e6 : x.toInt ≠ 6 := sw_ne h6
  have e7 : x.toInt ≠ 7 := sw_ne h7
  have e8 : x.toInt ≠ 8 := sw_ne h8
  have e9 : x.toInt ≠ 9 := sw_ne h9
  have e10 : x.toInt ≠ 10 := sw_ne h10
  have e11 : x.toInt ≠ 11 := sw_ne h11
  omega
theorem sw_out_12 {x : Int32} (h0 : ¬ x = 0) (h1 : ¬ x = 1) (h2 : ¬ x = 2) (h3 : ¬ x = 3) (h4 : ¬ x = 4) (h5 : ¬ x = 5) (h6 : ¬ x = 6) (h7 : ¬ x = 7) (h8 : ¬ x = 8) (h9 : ¬ x = 9) (h10 : ¬ x = 10) (h11 : ¬ x = 11) (h12 : ¬ x = 12) : x.toInt < 0 ∨ 12 < x.toInt := by
  have e0 : x.toInt ≠ 0 := sw_ne h0
  have e1 : x.toInt ≠ 1 := sw_ne h1
  have e2 : x.toInt ≠ 2 := sw_ne h2
  have e3 : x.toInt ≠ 3 := sw_ne h3
  have e4 : x.toInt ≠ 4 := sw_ne h4
  have e5 : x.toInt ≠ 5 := sw_ne h5
  have e6 : x.toInt ≠ 6 := sw_ne h6
  have e7 : x.toInt ≠ 7 := sw_ne h7
  have e8 : x.toInt ≠ 8 := sw_ne h8
  have e9 : x.toInt ≠ 9 := sw_ne h9
  have e10 : x.toInt ≠ 10 := sw_ne h10
  have e11 : x.toInt ≠ 11 := sw_ne h11
  have e12 : x.toInt ≠ 12 := sw_ne h12
  omega
theorem sw_out_17 {x : Int32} (h0 : ¬ x = 0) (h1 : ¬ x = 1) (h2 : ¬ x = 2) (h3 : ¬ x = 3) (h4 : ¬ x = 4) (h5 : ¬ x = 5) (h6 : ¬ x = 6) (h7 : ¬ x = 7) (h8 : ¬ x = 8) (h9 : ¬ x = 9) (h10 : ¬ x = 10) (h11 : ¬ x = 11) (h12 : ¬ x = 12) (h13 : ¬ x = 13) (h14 : ¬ x = 14) (h15 : ¬ x = 15) (h16 : ¬ x = 16) (h17 : ¬ x = 17) : x.toInt < 0 ∨ 17 < x.toInt := by
  have e0 : x.toInt ≠ 0 := sw_ne h0
  have e1 : x.toInt ≠ 1 := sw_ne h1
  have e2 : x.toInt ≠ 2 := sw_ne h2
  have e3 : x.toInt ≠ 3 := sw_ne h3
  have e4 : x.toInt ≠ 4 := sw_ne h4
  have e5 : x.toInt ≠ 5 := sw_ne h5
  have e6 : x.toInt ≠ 6 := sw_ne h6
  have e7 : x.toInt ≠ 7 := sw_ne h7
  have e8 : x.toInt ≠ 8 := sw_ne h8
  have e9 : x.toInt ≠ 9 := sw_ne h9
  have e10 : x.toInt ≠ 10 := sw_ne h10
  have e11 : x.toInt ≠ 11 := sw_ne h11
  have e12 : x.toInt ≠ 12 := sw_ne h12
  have e13 : x.toInt ≠ 13 := sw_ne h13
  have e14 : x.toInt ≠ 14 := sw_ne h14
  have e15 : x.toInt ≠ 15 := sw_ne h15
  have e16 : x.toInt ≠ 16 := sw_ne h16
  have e17 : x.toInt ≠ 17 := sw_ne h17
  omega

section GROWS
variable {X : MC} {Q : State → Prop} {S : St} {pc : Nat} {lv : List (Nat × Value)} {st : List Value} {cc : ByteArray} {own : String} {Ts : List Cond} {nL : Nat} {rm : Room} {ret : Option FieldType} {α : Type} {r0 : α}
theorem g_iload_n (C : Cx X cc own Ts nL rm ret) {k : Fin 4} {i : Nat} {x : Int32} (hd : decode cc pc = .ok (.iload_n k, 1)) (hi : (k : Nat) = i) (n : Nat) (hn : lv[n]? = some (i, .int x)) (kk : G X Q S (pc + 1) lv (.int x :: st)) : G X Q S pc lv st := by
  obtain ⟨p, l, e, R, s, m, args, below, meth, c, b⟩ := X
  obtain ⟨hx, hb, hml, hown, hts, hr, hlk, rfl, hK, hA, hE⟩ := C
  intro H locs ls hP hS hl
  exact lv_iload_n hx hb hd hi (lv_at hl n hn) (kk H locs ls hP hS hl)
theorem g_iload (C : Cx X cc own Ts nL rm ret) {i : Nat} {x : Int32} (hd : decode cc pc = .ok (.iload i, 2)) (n : Nat) (hn : lv[n]? = some (i, .int x)) (kk : G X Q S (pc + 2) lv (.int x :: st)) : G X Q S pc lv st := by
  obtain ⟨p, l, e, R, s, m, args, below, meth, c, b⟩ := X
  obtain ⟨hx, hb, hml, hown, hts, hr, hlk, rfl, hK, hA, hE⟩ := C
  intro H locs ls hP hS hl
  exact lv_iload hx hb hd (lv_at hl n hn) (kk H locs ls hP hS hl)
theorem g_lload_n (C : Cx X cc own Ts nL rm ret) {k : Fin 4} {i : Nat} {x : Int64} (hd : decode cc pc = .ok (.lload_n k, 1)) (hi : (k : Nat) = i) (n : Nat) (hn : lv[n]? = some (i, .long x)) (kk : G X Q S (pc + 1) lv (.long x :: st)) : G X Q S pc lv st := by
  obtain ⟨p, l, e, R, s, m, args, below, meth, c, b⟩ := X
  obtain ⟨hx, hb, hml, hown, hts, hr, hlk, rfl, hK, hA, hE⟩ := C
  intro H locs ls hP hS hl
  exact lv_lload_n hx hb hd hi (lv_at hl n hn) (kk H locs ls hP hS hl)
theorem g_lload (C : Cx X cc own Ts nL rm ret) {i : Nat} {x : Int64} (hd : decode cc pc = .ok (.lload i, 2)) (n : Nat) (hn : lv[n]? = some (i, .long x)) (kk : G X Q S (pc + 2) lv (.long x :: st)) : G X Q S pc lv st := by
  obtain ⟨p, l, e, R, s, m, args, below, meth, c, b⟩ := X
  obtain ⟨hx, hb, hml, hown, hts, hr, hlk, rfl, hK, hA, hE⟩ := C
  intro H locs ls hP hS hl
  exact lv_lload hx hb hd (lv_at hl n hn) (kk H locs ls hP hS hl)
theorem g_aload_n (C : Cx X cc own Ts nL rm ret) {k : Fin 4} {i : Nat} {x : Nat} (hd : decode cc pc = .ok (.aload_n k, 1)) (hi : (k : Nat) = i) (n : Nat) (hn : lv[n]? = some (i, .ref x)) (kk : G X Q S (pc + 1) lv (.ref x :: st)) : G X Q S pc lv st := by
  obtain ⟨p, l, e, R, s, m, args, below, meth, c, b⟩ := X
  obtain ⟨hx, hb, hml, hown, hts, hr, hlk, rfl, hK, hA, hE⟩ := C
  intro H locs ls hP hS hl
  exact lv_aload_n hx hb hd hi (lv_at hl n hn) (kk H locs ls hP hS hl)
theorem g_aload (C : Cx X cc own Ts nL rm ret) {i : Nat} {x : Nat} (hd : decode cc pc = .ok (.aload i, 2)) (n : Nat) (hn : lv[n]? = some (i, .ref x)) (kk : G X Q S (pc + 2) lv (.ref x :: st)) : G X Q S pc lv st := by
  obtain ⟨p, l, e, R, s, m, args, below, meth, c, b⟩ := X
  obtain ⟨hx, hb, hml, hown, hts, hr, hlk, rfl, hK, hA, hE⟩ := C
  intro H locs ls hP hS hl
  exact lv_aload hx hb hd (lv_at hl n hn) (kk H locs ls hP hS hl)
theorem g_iconst (C : Cx X cc own Ts nL rm ret) {n : Int} {v : Int32} (hd : decode cc pc = .ok (.iconst n, 1)) (hv : Int32.ofInt n = v) (kk : G X Q S (pc + 1) lv (.int v :: st)) : G X Q S pc lv st := by
  obtain ⟨p, l, e, R, s, m, args, below, meth, c, b⟩ := X
  obtain ⟨hx, hb, hml, hown, hts, hr, hlk, rfl, hK, hA, hE⟩ := C
  intro H locs ls hP hS hl
  exact lv_iconst hx hb hd hv (kk H locs ls hP hS hl)
theorem g_bipush (C : Cx X cc own Ts nL rm ret) {n : Int} {v : Int32} (hd : decode cc pc = .ok (.bipush n, 2)) (hv : (Int8.ofInt n).toInt32 = v) (kk : G X Q S (pc + 2) lv (.int v :: st)) : G X Q S pc lv st := by
  obtain ⟨p, l, e, R, s, m, args, below, meth, c, b⟩ := X
  obtain ⟨hx, hb, hml, hown, hts, hr, hlk, rfl, hK, hA, hE⟩ := C
  intro H locs ls hP hS hl
  exact lv_bipush hx hb hd hv (kk H locs ls hP hS hl)
theorem g_sipush (C : Cx X cc own Ts nL rm ret) {n : Int} {v : Int32} (hd : decode cc pc = .ok (.sipush n, 3)) (hv : (Int16.ofInt n).toInt32 = v) (kk : G X Q S (pc + 3) lv (.int v :: st)) : G X Q S pc lv st := by
  obtain ⟨p, l, e, R, s, m, args, below, meth, c, b⟩ := X
  obtain ⟨hx, hb, hml, hown, hts, hr, hlk, rfl, hK, hA, hE⟩ := C
  intro H locs ls hP hS hl
  exact lv_sipush hx hb hd hv (kk H locs ls hP hS hl)
theorem g_lconst (C : Cx X cc own Ts nL rm ret) {n : Fin 2} {v : Int64} (hd : decode cc pc = .ok (.lconst n, 1)) (hv : Int64.ofNat (n : Nat) = v) (kk : G X Q S (pc + 1) lv (.long v :: st)) : G X Q S pc lv st := by
  obtain ⟨p, l, e, R, s, m, args, below, meth, c, b⟩ := X
  obtain ⟨hx, hb, hml, hown, hts, hr, hlk, rfl, hK, hA, hE⟩ := C
  intro H locs ls hP hS hl
  exact lv_lconst hx hb hd hv (kk H locs ls hP hS hl)
theorem g_ldc (C : Cx X cc own Ts nL rm ret) {index : Nat} {v : Int32} (hw : Cond.constant own index v ∈ Ts) (hd : decode cc pc = .ok (.ldc index, 2)) (kk : G X Q S (pc + 2) lv (.int v :: st)) : G X Q S pc lv st := by
  obtain ⟨p, l, e, R, s, m, args, below, meth, c, b⟩ := X
  obtain ⟨hx, hb, hml, hown, hts, hr, hlk, rfl, hK, hA, hE⟩ := C
  intro H locs ls hP hS hl
  exact lv_ldc hx hb hown (hts _ hw) hd (kk H locs ls hP hS hl)
theorem g_ldc2 (C : Cx X cc own Ts nL rm ret) {index : Nat} {v : Int64} (hw : Cond.constantLong own index v ∈ Ts) (hd : decode cc pc = .ok (.ldc2_w index, 3)) (kk : G X Q S (pc + 3) lv (.long v :: st)) : G X Q S pc lv st := by
  obtain ⟨p, l, e, R, s, m, args, below, meth, c, b⟩ := X
  obtain ⟨hx, hb, hml, hown, hts, hr, hlk, rfl, hK, hA, hE⟩ := C
  intro H locs ls hP hS hl
  exact lv_ldc2 hx hb hown (hts _ hw) hd (kk H locs ls hP hS hl)
theorem g_ldcS (C : Cx X cc own Ts nL rm ret) {index i : Nat} {tx : String} (hw : (own, index, tx, i) ∈ strRefs) (hd : decode cc pc = .ok (.ldc index, 2)) (kk : G X Q S (pc + 2) lv (.ref (bK (Xb X) i) :: st)) : G X Q S pc lv st := by
  obtain ⟨p, l, e, R, s, m, args, below, meth, c, b⟩ := X
  obtain ⟨hx, hb, hml, hown, hts, hr, hlk, rfl, hK, hA, hE⟩ := C
  intro H locs ls hP hS hl
  exact va_ldcS hx hb hown (hE.2.2.1 _ hw) hd (kk H locs ls hP hS hl)
theorem g_istore_n (C : Cx X cc own Ts nL rm ret) {k : Fin 4} {i : Nat} {x : Int32} (lv1 : List (Nat × Value)) (hd : decode cc pc = .ok (.istore_n k, 1)) (hi : (k : Nat) = i) (hn : i < nL) (hq : (i, Value.int x) :: lv.filter (fun q => !(q.1 == i) && !(q.1 + 1 == i && q.2.category == 2)) = lv1) (kk : G X Q S (pc + 1) lv1 st) : G X Q S pc lv (.int x :: st) := by
  obtain ⟨p, l, e, R, s, m, args, below, meth, c, b⟩ := X
  obtain ⟨hx, hb, hml, hown, hts, hr, hlk, rfl, hK, hA, hE⟩ := C
  intro H locs ls hP hS hl
  exact lv_istore_n hx hb hd hi hl (by rw [hml]; exact hn) hq (fun ls1 hl1 => kk H locs ls1 hP hS hl1)
theorem g_istore (C : Cx X cc own Ts nL rm ret) {i : Nat} {x : Int32} (lv1 : List (Nat × Value)) (hd : decode cc pc = .ok (.istore i, 2)) (hn : i < nL) (hq : (i, Value.int x) :: lv.filter (fun q => !(q.1 == i) && !(q.1 + 1 == i && q.2.category == 2)) = lv1) (kk : G X Q S (pc + 2) lv1 st) : G X Q S pc lv (.int x :: st) := by
  obtain ⟨p, l, e, R, s, m, args, below, meth, c, b⟩ := X
  obtain ⟨hx, hb, hml, hown, hts, hr, hlk, rfl, hK, hA, hE⟩ := C
  intro H locs ls hP hS hl
  exact lv_istore hx hb hd hl (by rw [hml]; exact hn) hq (fun ls1 hl1 => kk H locs ls1 hP hS hl1)
theorem g_lstore_n (C : Cx X cc own Ts nL rm ret) {k : Fin 4} {i : Nat} {x : Int64} (lv1 : List (Nat × Value)) (hd : decode cc pc = .ok (.lstore_n k, 1)) (hi : (k : Nat) = i) (hn : i + 1 < nL) (hq : (i, Value.long x) :: lv.filter (fun q => !(q.1 == i) && (!(q.1 == i + 1) && !(q.1 + 1 == i && q.2.category == 2))) = lv1) (kk : G X Q S (pc + 1) lv1 st) : G X Q S pc lv (.long x :: st) := by
  obtain ⟨p, l, e, R, s, m, args, below, meth, c, b⟩ := X
  obtain ⟨hx, hb, hml, hown, hts, hr, hlk, rfl, hK, hA, hE⟩ := C
  intro H locs ls hP hS hl
  exact lv_lstore_n hx hb hd hi hl (by rw [hml]; exact hn) hq (fun ls1 hl1 => kk H locs ls1 hP hS hl1)
theorem g_lstore (C : Cx X cc own Ts nL rm ret) {i : Nat} {x : Int64} (lv1 : List (Nat × Value)) (hd : decode cc pc = .ok (.lstore i, 2)) (hn : i + 1 < nL) (hq : (i, Value.long x) :: lv.filter (fun q => !(q.1 == i) && (!(q.1 == i + 1) && !(q.1 + 1 == i && q.2.category == 2))) = lv1) (kk : G X Q S (pc + 2) lv1 st) : G X Q S pc lv (.long x :: st) := by
  obtain ⟨p, l, e, R, s, m, args, below, meth, c, b⟩ := X
  obtain ⟨hx, hb, hml, hown, hts, hr, hlk, rfl, hK, hA, hE⟩ := C
  intro H locs ls hP hS hl
  exact lv_lstore hx hb hd hl (by rw [hml]; exact hn) hq (fun ls1 hl1 => kk H locs ls1 hP hS hl1)
theorem g_astore_n (C : Cx X cc own Ts nL rm ret) {k : Fin 4} {i : Nat} {x : Nat} (lv1 : List (Nat × Value)) (hd : decode cc pc = .ok (.astore_n k, 1)) (hi : (k : Nat) = i) (hn : i < nL) (hq : (i, Value.ref x) :: lv.filter (fun q => !(q.1 == i) && !(q.1 + 1 == i && q.2.category == 2)) = lv1) (kk : G X Q S (pc + 1) lv1 st) : G X Q S pc lv (.ref x :: st) := by
  obtain ⟨p, l, e, R, s, m, args, below, meth, c, b⟩ := X
  obtain ⟨hx, hb, hml, hown, hts, hr, hlk, rfl, hK, hA, hE⟩ := C
  intro H locs ls hP hS hl
  exact lv_astore_n hx hb hd hi hl (by rw [hml]; exact hn) hq (fun ls1 hl1 => kk H locs ls1 hP hS hl1)
theorem g_astore (C : Cx X cc own Ts nL rm ret) {i : Nat} {x : Nat} (lv1 : List (Nat × Value)) (hd : decode cc pc = .ok (.astore i, 2)) (hn : i < nL) (hq : (i, Value.ref x) :: lv.filter (fun q => !(q.1 == i) && !(q.1 + 1 == i && q.2.category == 2)) = lv1) (kk : G X Q S (pc + 2) lv1 st) : G X Q S pc lv (.ref x :: st) := by
  obtain ⟨p, l, e, R, s, m, args, below, meth, c, b⟩ := X
  obtain ⟨hx, hb, hml, hown, hts, hr, hlk, rfl, hK, hA, hE⟩ := C
  intro H locs ls hP hS hl
  exact lv_astore hx hb hd hl (by rw [hml]; exact hn) hq (fun ls1 hl1 => kk H locs ls1 hP hS hl1)
theorem g_iinc (C : Cx X cc own Ts nL rm ret) {i : Nat} {x v : Int32} {j : Int} (lv1 : List (Nat × Value)) (hd : decode cc pc = .ok (.iinc i j, 3)) (n : Nat) (hk : lv[n]? = some (i, .int x)) (hv : x + Int32.ofInt j = v) (hn : i < nL) (hq : (i, Value.int v) :: lv.filter (fun q => !(q.1 == i) && !(q.1 + 1 == i && q.2.category == 2)) = lv1) (kk : G X Q S (pc + 3) lv1 st) : G X Q S pc lv st := by
  obtain ⟨p, l, e, R, s, m, args, below, meth, c, b⟩ := X
  obtain ⟨hx, hb, hml, hown, hts, hr, hlk, rfl, hK, hA, hE⟩ := C
  intro H locs ls hP hS hl
  exact lv_iinc hx hb hd hl hk hv (by rw [hml]; exact hn) hq (fun ls1 hl1 => kk H locs ls1 hP hS hl1)
theorem g_iadd (C : Cx X cc own Ts nL rm ret) {x y : Int32} (hd : decode cc pc = .ok (.iadd, 1)) (kk : G X Q S (pc + 1) lv (.int (x + y) :: st)) : G X Q S pc lv (.int y :: .int x :: st) := by
  obtain ⟨p, l, e, R, s, m, args, below, meth, c, b⟩ := X
  obtain ⟨hx, hb, hml, hown, hts, hr, hlk, rfl, hK, hA, hE⟩ := C
  intro H locs ls hP hS hl
  exact lv_iadd hx hb hd (kk H locs ls hP hS hl)
theorem g_isub (C : Cx X cc own Ts nL rm ret) {x y : Int32} (hd : decode cc pc = .ok (.isub, 1)) (kk : G X Q S (pc + 1) lv (.int (x - y) :: st)) : G X Q S pc lv (.int y :: .int x :: st) := by
  obtain ⟨p, l, e, R, s, m, args, below, meth, c, b⟩ := X
  obtain ⟨hx, hb, hml, hown, hts, hr, hlk, rfl, hK, hA, hE⟩ := C
  intro H locs ls hP hS hl
  exact lv_isub hx hb hd (kk H locs ls hP hS hl)
theorem g_imul (C : Cx X cc own Ts nL rm ret) {x y : Int32} (hd : decode cc pc = .ok (.imul, 1)) (kk : G X Q S (pc + 1) lv (.int (x * y) :: st)) : G X Q S pc lv (.int y :: .int x :: st) := by
  obtain ⟨p, l, e, R, s, m, args, below, meth, c, b⟩ := X
  obtain ⟨hx, hb, hml, hown, hts, hr, hlk, rfl, hK, hA, hE⟩ := C
  intro H locs ls hP hS hl
  exact lv_imul hx hb hd (kk H locs ls hP hS hl)
theorem g_iand (C : Cx X cc own Ts nL rm ret) {x y : Int32} (hd : decode cc pc = .ok (.iand, 1)) (kk : G X Q S (pc + 1) lv (.int (x &&& y) :: st)) : G X Q S pc lv (.int y :: .int x :: st) := by
  obtain ⟨p, l, e, R, s, m, args, below, meth, c, b⟩ := X
  obtain ⟨hx, hb, hml, hown, hts, hr, hlk, rfl, hK, hA, hE⟩ := C
  intro H locs ls hP hS hl
  exact lv_iand hx hb hd (kk H locs ls hP hS hl)
theorem g_ladd (C : Cx X cc own Ts nL rm ret) {x y : Int64} (hd : decode cc pc = .ok (.ladd, 1)) (kk : G X Q S (pc + 1) lv (.long (x + y) :: st)) : G X Q S pc lv (.long y :: .long x :: st) := by
  obtain ⟨p, l, e, R, s, m, args, below, meth, c, b⟩ := X
  obtain ⟨hx, hb, hml, hown, hts, hr, hlk, rfl, hK, hA, hE⟩ := C
  intro H locs ls hP hS hl
  exact lv_ladd hx hb hd (kk H locs ls hP hS hl)
theorem g_lsub (C : Cx X cc own Ts nL rm ret) {x y : Int64} (hd : decode cc pc = .ok (.lsub, 1)) (kk : G X Q S (pc + 1) lv (.long (x - y) :: st)) : G X Q S pc lv (.long y :: .long x :: st) := by
  obtain ⟨p, l, e, R, s, m, args, below, meth, c, b⟩ := X
  obtain ⟨hx, hb, hml, hown, hts, hr, hlk, rfl, hK, hA, hE⟩ := C
  intro H locs ls hP hS hl
  exact lv_lsub hx hb hd (kk H locs ls hP hS hl)
theorem g_lmul (C : Cx X cc own Ts nL rm ret) {x y : Int64} (hd : decode cc pc = .ok (.lmul, 1)) (kk : G X Q S (pc + 1) lv (.long (x * y) :: st)) : G X Q S pc lv (.long y :: .long x :: st) := by
  obtain ⟨p, l, e, R, s, m, args, below, meth, c, b⟩ := X
  obtain ⟨hx, hb, hml, hown, hts, hr, hlk, rfl, hK, hA, hE⟩ := C
  intro H locs ls hP hS hl
  exact lv_lmul hx hb hd (kk H locs ls hP hS hl)
theorem g_land (C : Cx X cc own Ts nL rm ret) {x y : Int64} (hd : decode cc pc = .ok (.land, 1)) (kk : G X Q S (pc + 1) lv (.long (x &&& y) :: st)) : G X Q S pc lv (.long y :: .long x :: st) := by
  obtain ⟨p, l, e, R, s, m, args, below, meth, c, b⟩ := X
  obtain ⟨hx, hb, hml, hown, hts, hr, hlk, rfl, hK, hA, hE⟩ := C
  intro H locs ls hP hS hl
  exact lv_land hx hb hd (kk H locs ls hP hS hl)
theorem g_lor (C : Cx X cc own Ts nL rm ret) {x y : Int64} (hd : decode cc pc = .ok (.lor, 1)) (kk : G X Q S (pc + 1) lv (.long (x ||| y) :: st)) : G X Q S pc lv (.long y :: .long x :: st) := by
  obtain ⟨p, l, e, R, s, m, args, below, meth, c, b⟩ := X
  obtain ⟨hx, hb, hml, hown, hts, hr, hlk, rfl, hK, hA, hE⟩ := C
  intro H locs ls hP hS hl
  exact lv_lor hx hb hd (kk H locs ls hP hS hl)
theorem g_lxor (C : Cx X cc own Ts nL rm ret) {x y : Int64} (hd : decode cc pc = .ok (.lxor, 1)) (kk : G X Q S (pc + 1) lv (.long (x ^^^ y) :: st)) : G X Q S pc lv (.long y :: .long x :: st) := by
  obtain ⟨p, l, e, R, s, m, args, below, meth, c, b⟩ := X
  obtain ⟨hx, hb, hml, hown, hts, hr, hlk, rfl, hK, hA, hE⟩ := C
  intro H locs ls hP hS hl
  exact lv_lxor hx hb hd (kk H locs ls hP hS hl)
theorem g_idiv (C : Cx X cc own Ts nL rm ret) {x y : Int32} {K : Option α} (h : chk (nzI y) K = some r0) (hd : decode cc pc = .ok (.idiv, 1)) (kk : K = some r0 → G X Q S (pc + 1) lv (.int (x / y) :: st)) : G X Q S pc lv (.int y :: .int x :: st) := by
  obtain ⟨p, l, e, R, s, m, args, below, meth, c, b⟩ := X
  obtain ⟨hx, hb, hml, hown, hts, hr, hlk, rfl, hK, hA, hE⟩ := C
  intro H locs ls hP hS hl
  exact lv_idiv hx hb hd (of_decide_eq_true (chk_some h).1) (kk (chk_some h).2 H locs ls hP hS hl)
theorem g_irem (C : Cx X cc own Ts nL rm ret) {x y : Int32} {K : Option α} (h : chk (nzI y) K = some r0) (hd : decode cc pc = .ok (.irem, 1)) (kk : K = some r0 → G X Q S (pc + 1) lv (.int (x - x / y * y) :: st)) : G X Q S pc lv (.int y :: .int x :: st) := by
  obtain ⟨p, l, e, R, s, m, args, below, meth, c, b⟩ := X
  obtain ⟨hx, hb, hml, hown, hts, hr, hlk, rfl, hK, hA, hE⟩ := C
  intro H locs ls hP hS hl
  exact lv_irem hx hb hd (of_decide_eq_true (chk_some h).1) (kk (chk_some h).2 H locs ls hP hS hl)
theorem g_ldiv (C : Cx X cc own Ts nL rm ret) {x y : Int64} {K : Option α} (h : chk (nzL y) K = some r0) (hd : decode cc pc = .ok (.ldiv, 1)) (kk : K = some r0 → G X Q S (pc + 1) lv (.long (x / y) :: st)) : G X Q S pc lv (.long y :: .long x :: st) := by
  obtain ⟨p, l, e, R, s, m, args, below, meth, c, b⟩ := X
  obtain ⟨hx, hb, hml, hown, hts, hr, hlk, rfl, hK, hA, hE⟩ := C
  intro H locs ls hP hS hl
  exact lv_ldiv hx hb hd (of_decide_eq_true (chk_some h).1) (kk (chk_some h).2 H locs ls hP hS hl)
theorem g_lrem (C : Cx X cc own Ts nL rm ret) {x y : Int64} {K : Option α} (h : chk (nzL y) K = some r0) (hd : decode cc pc = .ok (.lrem, 1)) (kk : K = some r0 → G X Q S (pc + 1) lv (.long (x - x / y * y) :: st)) : G X Q S pc lv (.long y :: .long x :: st) := by
  obtain ⟨p, l, e, R, s, m, args, below, meth, c, b⟩ := X
  obtain ⟨hx, hb, hml, hown, hts, hr, hlk, rfl, hK, hA, hE⟩ := C
  intro H locs ls hP hS hl
  exact lv_lrem hx hb hd (of_decide_eq_true (chk_some h).1) (kk (chk_some h).2 H locs ls hP hS hl)
theorem g_lshl (C : Cx X cc own Ts nL rm ret) {x : Int64} {y : Int32} (hd : decode cc pc = .ok (.lshl, 1)) (kk : G X Q S (pc + 1) lv (.long (x <<< (y.toInt64 &&& 63)) :: st)) : G X Q S pc lv (.int y :: .long x :: st) := by
  obtain ⟨p, l, e, R, s, m, args, below, meth, c, b⟩ := X
  obtain ⟨hx, hb, hml, hown, hts, hr, hlk, rfl, hK, hA, hE⟩ := C
  intro H locs ls hP hS hl
  exact lv_lshl hx hb hd rfl (kk H locs ls hP hS hl)
theorem g_lshr (C : Cx X cc own Ts nL rm ret) {x : Int64} {y : Int32} (hd : decode cc pc = .ok (.lshr, 1)) (kk : G X Q S (pc + 1) lv (.long (x >>> (y.toInt64 &&& 63)) :: st)) : G X Q S pc lv (.int y :: .long x :: st) := by
  obtain ⟨p, l, e, R, s, m, args, below, meth, c, b⟩ := X
  obtain ⟨hx, hb, hml, hown, hts, hr, hlk, rfl, hK, hA, hE⟩ := C
  intro H locs ls hP hS hl
  exact lv_lshr hx hb hd rfl (kk H locs ls hP hS hl)
theorem g_lushr (C : Cx X cc own Ts nL rm ret) {x : Int64} {y : Int32} (hd : decode cc pc = .ok (.lushr, 1)) (kk : G X Q S (pc + 1) lv (.long (lus x y) :: st)) : G X Q S pc lv (.int y :: .long x :: st) := by
  obtain ⟨p, l, e, R, s, m, args, below, meth, c, b⟩ := X
  obtain ⟨hx, hb, hml, hown, hts, hr, hlk, rfl, hK, hA, hE⟩ := C
  intro H locs ls hP hS hl
  exact lv_lushr hx hb hd rfl (kk H locs ls hP hS hl)
theorem g_i2l (C : Cx X cc own Ts nL rm ret) {x : Int32} (hd : decode cc pc = .ok (.i2l, 1)) (kk : G X Q S (pc + 1) lv (.long x.toInt64 :: st)) : G X Q S pc lv (.int x :: st) := by
  obtain ⟨p, l, e, R, s, m, args, below, meth, c, b⟩ := X
  obtain ⟨hx, hb, hml, hown, hts, hr, hlk, rfl, hK, hA, hE⟩ := C
  intro H locs ls hP hS hl
  exact lv_i2l hx hb hd rfl (kk H locs ls hP hS hl)
theorem g_l2i (C : Cx X cc own Ts nL rm ret) {x : Int64} (hd : decode cc pc = .ok (.l2i, 1)) (kk : G X Q S (pc + 1) lv (.int x.toInt32 :: st)) : G X Q S pc lv (.long x :: st) := by
  obtain ⟨p, l, e, R, s, m, args, below, meth, c, b⟩ := X
  obtain ⟨hx, hb, hml, hown, hts, hr, hlk, rfl, hK, hA, hE⟩ := C
  intro H locs ls hP hS hl
  exact lv_l2i hx hb hd rfl (kk H locs ls hP hS hl)
theorem g_i2b (C : Cx X cc own Ts nL rm ret) {x : Int32} (hd : decode cc pc = .ok (.i2b, 1)) (kk : G X Q S (pc + 1) lv (.int x.toInt8.toInt32 :: st)) : G X Q S pc lv (.int x :: st) := by
  obtain ⟨p, l, e, R, s, m, args, below, meth, c, b⟩ := X
  obtain ⟨hx, hb, hml, hown, hts, hr, hlk, rfl, hK, hA, hE⟩ := C
  intro H locs ls hP hS hl
  exact lv_i2b hx hb hd rfl (kk H locs ls hP hS hl)
theorem g_lcmp (C : Cx X cc own Ts nL rm ret) {x y : Int64} (hd : decode cc pc = .ok (.lcmp, 1)) (kk : G X Q S (pc + 1) lv (.int (lg_cmp x y) :: st)) : G X Q S pc lv (.long y :: .long x :: st) := by
  obtain ⟨p, l, e, R, s, m, args, below, meth, c, b⟩ := X
  obtain ⟨hx, hb, hml, hown, hts, hr, hlk, rfl, hK, hA, hE⟩ := C
  intro H locs ls hP hS hl
  exact W.lcmp hx hb hd (kk H locs ls hP hS hl)
theorem g_dup (C : Cx X cc own Ts nL rm ret) {v : Value} (hd : decode cc pc = .ok (.dup, 1)) (hc : v.category = 1) (kk : G X Q S (pc + 1) lv (v :: v :: st)) : G X Q S pc lv (v :: st) := by
  obtain ⟨p, l, e, R, s, m, args, below, meth, c, b⟩ := X
  obtain ⟨hx, hb, hml, hown, hts, hr, hlk, rfl, hK, hA, hE⟩ := C
  intro H locs ls hP hS hl
  exact lv_dup hx hb hd hc (kk H locs ls hP hS hl)
theorem g_pop (C : Cx X cc own Ts nL rm ret) {v : Value} (hd : decode cc pc = .ok (.pop, 1)) (hc : v.category = 1) (kk : G X Q S (pc + 1) lv st) : G X Q S pc lv (v :: st) := by
  obtain ⟨p, l, e, R, s, m, args, below, meth, c, b⟩ := X
  obtain ⟨hx, hb, hml, hown, hts, hr, hlk, rfl, hK, hA, hE⟩ := C
  intro H locs ls hP hS hl
  exact lv_pop hx hb hd hc (kk H locs ls hP hS hl)
theorem g_if_eq (C : Cx X cc own Ts nL rm ret) {x : Int32} {off : Int} {tgt : Nat} {A B : Option α} (h : (if x = 0 then A else B) = some r0) (hd : decode cc pc = .ok (.ifCond .eq off, 3)) (ht : (pc : Int) + off = (tgt : Int)) (kt : A = some r0 → G X Q S tgt lv st) (kf : B = some r0 → G X Q S (pc + 3) lv st) : G X Q S pc lv (.int x :: st) := by
  obtain ⟨p, l, e, R, s, m, args, below, meth, c, b⟩ := X
  obtain ⟨hx, hb, hml, hown, hts, hr, hlk, rfl, hK, hA, hE⟩ := C
  intro H locs ls hP hS hl
  exact lv_if_eq hx hb hd ht (fun q => kt (ite_t h q) H locs ls hP hS hl) (fun q => kf (ite_f h q) H locs ls hP hS hl)
theorem g_if_ne (C : Cx X cc own Ts nL rm ret) {x : Int32} {off : Int} {tgt : Nat} {A B : Option α} (h : (if x = 0 then B else A) = some r0) (hd : decode cc pc = .ok (.ifCond .ne off, 3)) (ht : (pc : Int) + off = (tgt : Int)) (kt : A = some r0 → G X Q S tgt lv st) (kf : B = some r0 → G X Q S (pc + 3) lv st) : G X Q S pc lv (.int x :: st) := by
  obtain ⟨p, l, e, R, s, m, args, below, meth, c, b⟩ := X
  obtain ⟨hx, hb, hml, hown, hts, hr, hlk, rfl, hK, hA, hE⟩ := C
  intro H locs ls hP hS hl
  exact lv_if_ne hx hb hd ht (fun q => kt (ite_f h q) H locs ls hP hS hl) (fun q => kf (ite_t h q) H locs ls hP hS hl)
theorem g_if_lt (C : Cx X cc own Ts nL rm ret) {x : Int32} {off : Int} {tgt : Nat} {A B : Option α} (h : (if x < 0 then A else B) = some r0) (hd : decode cc pc = .ok (.ifCond .lt off, 3)) (ht : (pc : Int) + off = (tgt : Int)) (kt : A = some r0 → G X Q S tgt lv st) (kf : B = some r0 → G X Q S (pc + 3) lv st) : G X Q S pc lv (.int x :: st) := by
  obtain ⟨p, l, e, R, s, m, args, below, meth, c, b⟩ := X
  obtain ⟨hx, hb, hml, hown, hts, hr, hlk, rfl, hK, hA, hE⟩ := C
  intro H locs ls hP hS hl
  exact lv_if_lt hx hb hd ht (fun q => kt (ite_t h q) H locs ls hP hS hl) (fun q => kf (ite_f h q) H locs ls hP hS hl)
theorem g_if_ge (C : Cx X cc own Ts nL rm ret) {x : Int32} {off : Int} {tgt : Nat} {A B : Option α} (h : (if 0 ≤ x then A else B) = some r0) (hd : decode cc pc = .ok (.ifCond .ge off, 3)) (ht : (pc : Int) + off = (tgt : Int)) (kt : A = some r0 → G X Q S tgt lv st) (kf : B = some r0 → G X Q S (pc + 3) lv st) : G X Q S pc lv (.int x :: st) := by
  obtain ⟨p, l, e, R, s, m, args, below, meth, c, b⟩ := X
  obtain ⟨hx, hb, hml, hown, hts, hr, hlk, rfl, hK, hA, hE⟩ := C
  intro H locs ls hP hS hl
  exact lv_if_ge hx hb hd ht (fun q => kt (ite_t h q) H locs ls hP hS hl) (fun q => kf (ite_f h q) H locs ls hP hS hl)
theorem g_if_gt (C : Cx X cc own Ts nL rm ret) {x : Int32} {off : Int} {tgt : Nat} {A B : Option α} (h : (if 0 < x then A else B) = some r0) (hd : decode cc pc = .ok (.ifCond .gt off, 3)) (ht : (pc : Int) + off = (tgt : Int)) (kt : A = some r0 → G X Q S tgt lv st) (kf : B = some r0 → G X Q S (pc + 3) lv st) : G X Q S pc lv (.int x :: st) := by
  obtain ⟨p, l, e, R, s, m, args, below, meth, c, b⟩ := X
  obtain ⟨hx, hb, hml, hown, hts, hr, hlk, rfl, hK, hA, hE⟩ := C
  intro H locs ls hP hS hl
  exact lv_if_gt hx hb hd ht (fun q => kt (ite_t h q) H locs ls hP hS hl) (fun q => kf (ite_f h q) H locs ls hP hS hl)
theorem g_if_le (C : Cx X cc own Ts nL rm ret) {x : Int32} {off : Int} {tgt : Nat} {A B : Option α} (h : (if x ≤ 0 then A else B) = some r0) (hd : decode cc pc = .ok (.ifCond .le off, 3)) (ht : (pc : Int) + off = (tgt : Int)) (kt : A = some r0 → G X Q S tgt lv st) (kf : B = some r0 → G X Q S (pc + 3) lv st) : G X Q S pc lv (.int x :: st) := by
  obtain ⟨p, l, e, R, s, m, args, below, meth, c, b⟩ := X
  obtain ⟨hx, hb, hml, hown, hts, hr, hlk, rfl, hK, hA, hE⟩ := C
  intro H locs ls hP hS hl
  exact lv_if_le hx hb hd ht (fun q => kt (ite_t h q) H locs ls hP hS hl) (fun q => kf (ite_f h q) H locs ls hP hS hl)
theorem g_icmp_eq (C : Cx X cc own Ts nL rm ret) {x y : Int32} {off : Int} {tgt : Nat} {A B : Option α} (h : (if x = y then A else B) = some r0) (hd : decode cc pc = .ok (.if_icmp .eq off, 3)) (ht : (pc : Int) + off = (tgt : Int)) (kt : A = some r0 → G X Q S tgt lv st) (kf : B = some r0 → G X Q S (pc + 3) lv st) : G X Q S pc lv (.int y :: .int x :: st) := by
  obtain ⟨p, l, e, R, s, m, args, below, meth, c, b⟩ := X
  obtain ⟨hx, hb, hml, hown, hts, hr, hlk, rfl, hK, hA, hE⟩ := C
  intro H locs ls hP hS hl
  exact lv_icmp_eq hx hb hd ht (fun q => kt (ite_t h q) H locs ls hP hS hl) (fun q => kf (ite_f h q) H locs ls hP hS hl)
theorem g_icmp_ne (C : Cx X cc own Ts nL rm ret) {x y : Int32} {off : Int} {tgt : Nat} {A B : Option α} (h : (if x = y then B else A) = some r0) (hd : decode cc pc = .ok (.if_icmp .ne off, 3)) (ht : (pc : Int) + off = (tgt : Int)) (kt : A = some r0 → G X Q S tgt lv st) (kf : B = some r0 → G X Q S (pc + 3) lv st) : G X Q S pc lv (.int y :: .int x :: st) := by
  obtain ⟨p, l, e, R, s, m, args, below, meth, c, b⟩ := X
  obtain ⟨hx, hb, hml, hown, hts, hr, hlk, rfl, hK, hA, hE⟩ := C
  intro H locs ls hP hS hl
  exact lv_icmp_ne hx hb hd ht (fun q => kt (ite_f h q) H locs ls hP hS hl) (fun q => kf (ite_t h q) H locs ls hP hS hl)
theorem g_icmp_lt (C : Cx X cc own Ts nL rm ret) {x y : Int32} {off : Int} {tgt : Nat} {A B : Option α} (h : (if x < y then A else B) = some r0) (hd : decode cc pc = .ok (.if_icmp .lt off, 3)) (ht : (pc : Int) + off = (tgt : Int)) (kt : A = some r0 → G X Q S tgt lv st) (kf : B = some r0 → G X Q S (pc + 3) lv st) : G X Q S pc lv (.int y :: .int x :: st) := by
  obtain ⟨p, l, e, R, s, m, args, below, meth, c, b⟩ := X
  obtain ⟨hx, hb, hml, hown, hts, hr, hlk, rfl, hK, hA, hE⟩ := C
  intro H locs ls hP hS hl
  exact lv_icmp_lt hx hb hd ht (fun q => kt (ite_t h q) H locs ls hP hS hl) (fun q => kf (ite_f h q) H locs ls hP hS hl)
theorem g_icmp_ge (C : Cx X cc own Ts nL rm ret) {x y : Int32} {off : Int} {tgt : Nat} {A B : Option α} (h : (if y ≤ x then A else B) = some r0) (hd : decode cc pc = .ok (.if_icmp .ge off, 3)) (ht : (pc : Int) + off = (tgt : Int)) (kt : A = some r0 → G X Q S tgt lv st) (kf : B = some r0 → G X Q S (pc + 3) lv st) : G X Q S pc lv (.int y :: .int x :: st) := by
  obtain ⟨p, l, e, R, s, m, args, below, meth, c, b⟩ := X
  obtain ⟨hx, hb, hml, hown, hts, hr, hlk, rfl, hK, hA, hE⟩ := C
  intro H locs ls hP hS hl
  exact lv_icmp_ge hx hb hd ht (fun q => kt (ite_t h q) H locs ls hP hS hl) (fun q => kf (ite_f h q) H locs ls hP hS hl)
theorem g_icmp_gt (C : Cx X cc own Ts nL rm ret) {x y : Int32} {off : Int} {tgt : Nat} {A B : Option α} (h : (if y < x then A else B) = some r0) (hd : decode cc pc = .ok (.if_icmp .gt off, 3)) (ht : (pc : Int) + off = (tgt : Int)) (kt : A = some r0 → G X Q S tgt lv st) (kf : B = some r0 → G X Q S (pc + 3) lv st) : G X Q S pc lv (.int y :: .int x :: st) := by
  obtain ⟨p, l, e, R, s, m, args, below, meth, c, b⟩ := X
  obtain ⟨hx, hb, hml, hown, hts, hr, hlk, rfl, hK, hA, hE⟩ := C
  intro H locs ls hP hS hl
  exact lv_icmp_gt hx hb hd ht (fun q => kt (ite_t h q) H locs ls hP hS hl) (fun q => kf (ite_f h q) H locs ls hP hS hl)
theorem g_icmp_le (C : Cx X cc own Ts nL rm ret) {x y : Int32} {off : Int} {tgt : Nat} {A B : Option α} (h : (if x ≤ y then A else B) = some r0) (hd : decode cc pc = .ok (.if_icmp .le off, 3)) (ht : (pc : Int) + off = (tgt : Int)) (kt : A = some r0 → G X Q S tgt lv st) (kf : B = some r0 → G X Q S (pc + 3) lv st) : G X Q S pc lv (.int y :: .int x :: st) := by
  obtain ⟨p, l, e, R, s, m, args, below, meth, c, b⟩ := X
  obtain ⟨hx, hb, hml, hown, hts, hr, hlk, rfl, hK, hA, hE⟩ := C
  intro H locs ls hP hS hl
  exact lv_icmp_le hx hb hd ht (fun q => kt (ite_t h q) H locs ls hP hS hl) (fun q => kf (ite_f h q) H locs ls hP hS hl)
theorem g_goto (C : Cx X cc own Ts nL rm ret) {off : Int} {tgt : Nat} (hd : decode cc pc = .ok (.goto off, 3)) (ht : (pc : Int) + off = (tgt : Int)) (kk : G X Q S tgt lv st) : G X Q S pc lv st := by
  obtain ⟨p, l, e, R, s, m, args, below, meth, c, b⟩ := X
  obtain ⟨hx, hb, hml, hown, hts, hr, hlk, rfl, hK, hA, hE⟩ := C
  intro H locs ls hP hS hl
  exact lv_goto hx hb hd ht (kk H locs ls hP hS hl)
theorem g_swIn (C : Cx X cc own Ts nL rm ret) {dflt lo hi : Int} {offs : Array Int} {len : Nat} {x : Int32} (v : Int32) (hx0 : x = v) {off : Int} {tgt : Nat} (hd : decode cc pc = .ok (.tableswitch dflt lo hi offs, len)) (h1 : ¬ v.toInt < lo) (h2 : ¬ hi < v.toInt) (ho : offs[(v.toInt - lo).toNat]? = some off) (ht : (pc : Int) + off = (tgt : Int)) (kk : G X Q S tgt lv st) : G X Q S pc lv (.int x :: st) := by
  obtain ⟨p, l, e, R, s, m, args, below, meth, c, b⟩ := X
  obtain ⟨hx, hb, hml, hown, hts, hr, hlk, rfl, hK, hA, hE⟩ := C
  intro H locs ls hP hS hl
  exact lv_tableIn hx hb hd (by rw [hx0]; exact h1) (by rw [hx0]; exact h2) (by rw [hx0]; exact ho) ht (kk H locs ls hP hS hl)
theorem g_swOut (C : Cx X cc own Ts nL rm ret) {dflt lo hi : Int} {offs : Array Int} {len : Nat} {x : Int32} {tgt : Nat} (h : x.toInt < lo ∨ hi < x.toInt) (hd : decode cc pc = .ok (.tableswitch dflt lo hi offs, len)) (ht : (pc : Int) + dflt = (tgt : Int)) (kk : G X Q S tgt lv st) : G X Q S pc lv (.int x :: st) := by
  obtain ⟨p, l, e, R, s, m, args, below, meth, c, b⟩ := X
  obtain ⟨hx, hb, hml, hown, hts, hr, hlk, rfl, hK, hA, hE⟩ := C
  intro H locs ls hP hS hl
  exact lv_tableOut hx hb hd h ht (kk H locs ls hP hS hl)
end GROWS
section GROWS2
variable {X : MC} {Q : State → Prop} {S : St} {pc : Nat} {lv : List (Nat × Value)} {st : List Value} {cc : ByteArray} {own : String} {Ts : List Cond} {nL : Nat} {rm : Room} {ret : Option FieldType} {α : Type} {r0 : α}
theorem g_weak {lv1 : List (Nat × Value)} (ks : List Nat) (hk : lv_pick lv ks = lv1) (kk : G X Q S pc lv1 st) : G X Q S pc lv st := by
  obtain ⟨p, l, e, R, s, m, args, below, meth, c, b⟩ := X
  intro H locs ls hP hS hl
  exact kk H locs ls hP hS (lv_sub hl ks hk)
theorem g_leti {x : Int32} {f : Int32 → Option α} (h : vlet x f = some r0) (kk : ∀ y : Int32, f y = some r0 → G X Q S pc lv (.int y :: st)) : G X Q S pc lv (.int x :: st) := kk x h
theorem g_letl {x : Int64} {f : Int64 → Option α} (h : vlet x f = some r0) (kk : ∀ y : Int64, f y = some r0 → G X Q S pc lv (.long y :: st)) : G X Q S pc lv (.long x :: st) := kk x h
theorem g_letr {x : Nat} {f : Nat → Option α} (h : vlet x f = some r0) (kk : ∀ y : Nat, f y = some r0 → G X Q S pc lv (.ref (ad X y) :: st)) : G X Q S pc lv (.ref (ad X x) :: st) := kk x h
/-- getfield of a cell of the world -/
theorem g_get (C : Cx X cc own Ts nL rm ret) (q0 : Nat) {ci N : Nat} {fs : List Value} {Cn : String} {T : u_T} (he : (world (Xb X) S)[q0]? = some (bad (Xb X) q0, .inr (ci, fs))) (hc : vwCl[ci]? = some (Cn, T, N)) (k : Nat) (hk : k < N) (hin : ∀ w ∈ u_ws Cn T N, w ∈ Ts) {index : Nat} (hlink : Cond.fieldLink own index (T k).1 (T k).2.1 (T k).2.2.1 ∈ Ts) {v : Value} (hv : fs[k]? = some v) (hd : decode cc pc = .ok (.getfield index, 3)) (kk : G X Q S (pc + 3) lv (v :: st)) : G X Q S pc lv (.ref (ad X q0) :: st) := by
  obtain ⟨p, l, e, R, s, m, args, below, meth, c, b⟩ := X
  obtain ⟨hx, hb, hml, hown, hts, hr, hlk, rfl, hK, hA, hE⟩ := C
  intro H locs ls hP hS hl
  exact va_get hx hb hts hin hown hK hP q0 he hc k hk (hts _ hlink) (fun _ q => q) hv hd (kk H locs ls hP hS hl)
theorem g_getN (C : Cx X cc own Ts nL rm ret) (q0 : Nat) {ci N : Nat} {fs : List Value} {Cn host : String} {T : u_T} (he : (world (Xb X) S)[q0]? = some (bad (Xb X) q0, .inr (ci, fs))) (hc : vwCl[ci]? = some (Cn, T, N)) (k : Nat) (hk : k < N) (hin : ∀ w ∈ u_ws Cn T N, w ∈ Ts) {index : Nat} (hlink : Cond.fieldLinkNest own index (T k).1 (T k).2.1 (T k).2.2.1 host ∈ nestWs) {v : Value} (hv : fs[k]? = some v) (hd : decode cc pc = .ok (.getfield index, 3)) (kk : G X Q S (pc + 3) lv (v :: st)) : G X Q S pc lv (.ref (ad X q0) :: st) := by
  obtain ⟨p, l, e, R, s, m, args, below, meth, c, b⟩ := X
  obtain ⟨hx, hb, hml, hown, hts, hr, hlk, rfl, hK, hA, hE⟩ := C
  intro H locs ls hP hS hl
  exact va_getN hx hb hts hin hown hK hP q0 he hc k hk (va_Nw.use rfl (hE.1 _ hlink)) (fun _ q => q) hv hd (kk H locs ls hP hS hl)
theorem g_put (C : Cx X cc own Ts nL rm ret) (q0 : Nat) {ci N : Nat} {fs : List Value} {Cn : String} {T : u_T} {v : Value} {S1 : St} (he : (world (Xb X) S)[q0]? = some (bad (Xb X) q0, .inr (ci, fs))) (hc : vwCl[ci]? = some (Cn, T, N)) (k : Nat) (hk : k < N) (hin : ∀ w ∈ u_ws Cn T N, w ∈ Ts) {ty0 : Nat → FieldType} (hty : ∀ k, k < N → parseFieldDescriptor (T k).2.2.1 = some (ty0 k)) (hnm : ∀ a, a < N → ∀ b, b < N → a ≠ b → (T a).2.1 ≠ (T b).2.1) {index : Nat} (hlink : Cond.fieldLink own index (T k).1 (T k).2.1 (T k).2.2.1 ∈ Ts) (hfin : (T k).2.2.2 = false) (hn : narrow (ty0 k) v = v) (hfit : fits (ty0 k) v = true) (hlen : k < fs.length)
    (hset : (world (Xb X) S).set q0 (bad (Xb X) q0, .inr (ci, fs.set k v)) = world (Xb X) S1) (hd : decode cc pc = .ok (.putfield index, 3)) {f : St → Option α} (h : vlet S1 f = some r0) (kk : ∀ S2, f S2 = some r0 → G X Q S2 (pc + 3) lv st) : G X Q S pc lv (v :: .ref (ad X q0) :: st) := by
  obtain ⟨p, l, e, R, s, m, args, below, meth, c, b⟩ := X
  obtain ⟨hx, hb, hml, hown, hts, hr, hlk, rfl, hK, hA, hE⟩ := C
  intro H locs ls hP hS hl
  refine va_put hx hb hts hin ty0 hty hnm hown hK hP (world_D S hA (fun k hk => AW_in hk)) hS q0 he hc k hk (hts _ hlink) (fun _ q => q) hfin (hty k hk) hn hfit hlen hd (fun H1 locs1 hP1 _ hS1 => ?_)
  have hP2 : va_P (bD b) vwCl (world b S1) H1 := by
    have e1 : (world b S).set q0 (bad b q0, .inr (ci, fs.set k v)) = world b S1 := hset
    rw [← e1]; exact hP1
  exact kk S1 h H1 locs1 ls hP2 hS1 hl
theorem g_iald (C : Cx X cc own Ts nL rm ret) (q0 : Nat) {n : Nat} {i : Int32} {K : Option α} (he : (world (Xb X) S)[q0]? = some (bad (Xb X) q0, .inl (bcy (Xb X) 1, n, .inl (gA S q0)))) (h : chk (inb i n) K = some r0) (hd : decode cc pc = .ok (.iaload, 1)) (kk : K = some r0 → G X Q S (pc + 1) lv (.int (rd S q0 i) :: st)) : G X Q S pc lv (.int i :: .ref (ad X q0) :: st) := by
  obtain ⟨p, l, e, R, s, m, args, below, meth, c, b⟩ := X
  obtain ⟨hx, hb, hml, hown, hts, hr, hlk, rfl, hK, hA, hE⟩ := C
  intro H locs ls hP hS hl
  exact va_iald hx hb hK hP q0 1 he rfl (inb_in (chk_some h).1) hd (kk (chk_some h).2 H locs ls hP hS hl)
theorem g_bald (C : Cx X cc own Ts nL rm ret) (q0 : Nat) {n : Nat} {i : Int32} {K : Option α} (he : (world (Xb X) S)[q0]? = some (bad (Xb X) q0, .inl (bcy (Xb X) 0, n, .inl (gA S q0)))) (h : chk (inb i n) K = some r0) (hd : decode cc pc = .ok (.baload, 1)) (kk : K = some r0 → G X Q S (pc + 1) lv (.int (rd S q0 i) :: st)) : G X Q S pc lv (.int i :: .ref (ad X q0) :: st) := by
  obtain ⟨p, l, e, R, s, m, args, below, meth, c, b⟩ := X
  obtain ⟨hx, hb, hml, hown, hts, hr, hlk, rfl, hK, hA, hE⟩ := C
  intro H locs ls hP hS hl
  exact va_bald hx hb hK hP q0 0 he rfl (inb_in (chk_some h).1) hd (kk (chk_some h).2 H locs ls hP hS hl)
theorem g_zald (C : Cx X cc own Ts nL rm ret) (q0 : Nat) {n : Nat} {i : Int32} {K : Option α} (he : (world (Xb X) S)[q0]? = some (bad (Xb X) q0, .inl (bcy (Xb X) 3, n, .inl (gA S q0)))) (h : chk (inb i n) K = some r0) (hd : decode cc pc = .ok (.baload, 1)) (kk : K = some r0 → G X Q S (pc + 1) lv (.int (rd S q0 i) :: st)) : G X Q S pc lv (.int i :: .ref (ad X q0) :: st) := by
  obtain ⟨p, l, e, R, s, m, args, below, meth, c, b⟩ := X
  obtain ⟨hx, hb, hml, hown, hts, hr, hlk, rfl, hK, hA, hE⟩ := C
  intro H locs ls hP hS hl
  exact va_zald hx hb hK hP q0 3 he rfl (inb_in (chk_some h).1) hd (kk (chk_some h).2 H locs ls hP hS hl)
theorem g_lald (C : Cx X cc own Ts nL rm ret) (q0 : Nat) {i : Int32} {K : Option α} (h : chk (isL q0) (chk (inb i 400) K) = some r0) (hd : decode cc pc = .ok (.laload, 1)) (kk : K = some r0 → G X Q S (pc + 1) lv (.long (rdL S q0 i) :: st)) : G X Q S pc lv (.int i :: .ref (ad X q0) :: st) := by
  obtain ⟨p, l, e, R, s, m, args, below, meth, c, b⟩ := X
  obtain ⟨hx, hb, hml, hown, hts, hr, hlk, rfl, hK, hA, hE⟩ := C
  intro H locs ls hP hS hl
  obtain ⟨h1, h2⟩ := chk_some h
  obtain ⟨h3, h4⟩ := chk_some h2
  exact va_lald hx hb hK hP q0 2 (wl b S q0 (of_decide_eq_true h1)) rfl (inb_in h3) hd (kk h4 H locs ls hP hS hl)
theorem g_iast (C : Cx X cc own Ts nL rm ret) (q0 : Nat) {n : Nat} {i x : Int32} {f : St → Option α} (he : (world (Xb X) S)[q0]? = some (bad (Xb X) q0, .inl (bcy (Xb X) 1, n, .inl (gA S q0)))) (hset : ∀ g : Nat → Int32, (world (Xb X) S).set q0 (bad (Xb X) q0, .inl (bcy (Xb X) 1, n, .inl g)) = world (Xb X) (pA S q0 g)) (h : chk (inb i n) (vlet (wr S q0 i x) f) = some r0) (hd : decode cc pc = .ok (.iastore, 1)) (kk : ∀ S2, f S2 = some r0 → G X Q S2 (pc + 1) lv st) : G X Q S pc lv (.int x :: .int i :: .ref (ad X q0) :: st) := by
  obtain ⟨p, l, e, R, s, m, args, below, meth, c, b⟩ := X
  obtain ⟨hx, hb, hml, hown, hts, hr, hlk, rfl, hK, hA, hE⟩ := C
  intro H locs ls hP hS hl
  refine va_iast hx hb hK hP (world_D S hA (fun k hk => AW_in hk)) hS q0 1 he rfl (inb_in (chk_some h).1) hd (fun H1 locs1 hP1 _ hS1 => ?_)
  have hP2 : va_P (bD b) vwCl (world b (wr S q0 i x)) H1 := by
    have e1 := hset (upd (gA S q0) i.toNatClampNeg x)
    have e2 : world b (pA S q0 (upd (gA S q0) i.toNatClampNeg x)) = world b (wr S q0 i x) := rfl
    rw [← e2]; rw [show Xb (p, l, e, R, s, m, args, below, meth, c, b) = b from rfl] at e1; rw [← e1]; exact hP1
  exact kk _ (chk_some h).2 H1 locs1 ls hP2 hS1 hl
theorem g_bast (C : Cx X cc own Ts nL rm ret) (q0 : Nat) {n : Nat} {i x : Int32} {f : St → Option α} (he : (world (Xb X) S)[q0]? = some (bad (Xb X) q0, .inl (bcy (Xb X) 0, n, .inl (gA S q0)))) (hset : ∀ g : Nat → Int32, (world (Xb X) S).set q0 (bad (Xb X) q0, .inl (bcy (Xb X) 0, n, .inl g)) = world (Xb X) (pA S q0 g)) (h : chk (inb i n) (vlet (wr S q0 i (vp_nar .byte x)) f) = some r0) (hd : decode cc pc = .ok (.bastore, 1)) (kk : ∀ S2, f S2 = some r0 → G X Q S2 (pc + 1) lv st) : G X Q S pc lv (.int x :: .int i :: .ref (ad X q0) :: st) := by
  obtain ⟨p, l, e, R, s, m, args, below, meth, c, b⟩ := X
  obtain ⟨hx, hb, hml, hown, hts, hr, hlk, rfl, hK, hA, hE⟩ := C
  intro H locs ls hP hS hl
  refine va_bast hx hb hK hP (world_D S hA (fun k hk => AW_in hk)) hS q0 0 he rfl (inb_in (chk_some h).1) hd (fun H1 locs1 hP1 _ hS1 => ?_)
  have hP2 : va_P (bD b) vwCl (world b (wr S q0 i (vp_nar .byte x))) H1 := by
    have e1 := hset (upd (gA S q0) i.toNatClampNeg (vp_nar .byte x))
    have e2 : world b (pA S q0 (upd (gA S q0) i.toNatClampNeg (vp_nar .byte x))) = world b (wr S q0 i (vp_nar .byte x)) := rfl
    rw [← e2]; rw [show Xb (p, l, e, R, s, m, args, below, meth, c, b) = b from rfl] at e1; rw [← e1]; exact hP1
  exact kk _ (chk_some h).2 H1 locs1 ls hP2 hS1 hl
theorem g_zast (C : Cx X cc own Ts nL rm ret) (q0 : Nat) {n : Nat} {i x : Int32} {f : St → Option α} (he : (world (Xb X) S)[q0]? = some (bad (Xb X) q0, .inl (bcy (Xb X) 3, n, .inl (gA S q0)))) (hset : ∀ g : Nat → Int32, (world (Xb X) S).set q0 (bad (Xb X) q0, .inl (bcy (Xb X) 3, n, .inl g)) = world (Xb X) (pA S q0 g)) (h : chk (inb i n) (vlet (wr S q0 i (vp_nar .boolean x)) f) = some r0) (hd : decode cc pc = .ok (.bastore, 1)) (kk : ∀ S2, f S2 = some r0 → G X Q S2 (pc + 1) lv st) : G X Q S pc lv (.int x :: .int i :: .ref (ad X q0) :: st) := by
  obtain ⟨p, l, e, R, s, m, args, below, meth, c, b⟩ := X
  obtain ⟨hx, hb, hml, hown, hts, hr, hlk, rfl, hK, hA, hE⟩ := C
  intro H locs ls hP hS hl
  refine va_zast hx hb hK hP (world_D S hA (fun k hk => AW_in hk)) hS q0 3 he rfl (inb_in (chk_some h).1) hd (fun H1 locs1 hP1 _ hS1 => ?_)
  have hP2 : va_P (bD b) vwCl (world b (wr S q0 i (vp_nar .boolean x))) H1 := by
    have e1 := hset (upd (gA S q0) i.toNatClampNeg (vp_nar .boolean x))
    have e2 : world b (pA S q0 (upd (gA S q0) i.toNatClampNeg (vp_nar .boolean x))) = world b (wr S q0 i (vp_nar .boolean x)) := rfl
    rw [← e2]; rw [show Xb (p, l, e, R, s, m, args, below, meth, c, b) = b from rfl] at e1; rw [← e1]; exact hP1
  exact kk _ (chk_some h).2 H1 locs1 ls hP2 hS1 hl
theorem g_last (C : Cx X cc own Ts nL rm ret) (q0 : Nat) {i : Int32} {x : Int64} {f : St → Option α} (h : chk (isL q0) (chk (inb i 400) (vlet (wrL S q0 i x) f)) = some r0) (hd : decode cc pc = .ok (.lastore, 1)) (kk : ∀ S2, f S2 = some r0 → G X Q S2 (pc + 1) lv st) : G X Q S pc lv (.long x :: .int i :: .ref (ad X q0) :: st) := by
  obtain ⟨p, l, e, R, s, m, args, below, meth, c, b⟩ := X
  obtain ⟨hx, hb, hml, hown, hts, hr, hlk, rfl, hK, hA, hE⟩ := C
  intro H locs ls hP hS hl
  obtain ⟨h1, h2⟩ := chk_some h
  obtain ⟨h3, h4⟩ := chk_some h2
  refine va_last hx hb hK hP (world_D S hA (fun k hk => AW_in hk)) hS q0 2 (wl b S q0 (of_decide_eq_true h1)) rfl (inb_in h3) hd (fun H1 locs1 hP1 _ hS1 => ?_)
  have hP2 : va_P (bD b) vwCl (world b (wrL S q0 i x)) H1 := by
    have e1 := wls b S q0 (of_decide_eq_true h1) (vp_updL (gL S q0) i.toNatClampNeg x)
    have e2 : world b (pL S q0 (vp_updL (gL S q0) i.toNatClampNeg x)) = world b (wrL S q0 i x) := rfl
    rw [← e2, ← e1]; exact hP1
  exact kk _ h4 H1 locs1 ls hP2 hS1 hl
theorem va_aldg {p : Program} {l : Launch} {e : Env} {R : Room} {s : State} {m : MethodId} {args : Array Value} {below : List Frame} {meth : Method} {c : Code} {H : Heap} {locs : List Loc} {cells slots : Nat} {Q : State → Prop} {cc : ByteArray} {pc : Nat} {ls : Array Slot} {rest : List Value} {D : va_G} {cl : List vw_C} {a : Nat} {tys : List (ClassId × FieldType)} {ws : va_W} (hexec : p.tables.exec = Jvm.exec) (hb : c.code = cc) (hK : va_K D cl tys s) (hP : va_P D cl ws H) (q0 t0 : Nat) {cA : ClassId} {n : Nat} {f : Nat → Option Nat} (ha : ws[q0]? = some (a, .inl (cA, n, .inr (.inr (.inr (.inr f)))))) (ht : tys[t0]? = some (cA, .array .int)) {i : Int32} (hin : vp_in i n) (hdg : decode cc pc = .ok (.aaload, 1))
    (kk : W p l e R s m args below meth c H locs cells slots Q (F0 m (pc + 1) ls (va_rf (f i.toNatClampNeg) :: rest))) : W p l e R s m args below meth c H locs cells slots Q (F0 m pc ls (.int i :: .ref a :: rest)) := by
  have hlt : i.toNatClampNeg < n := Nat.not_le.mp fun q => hin (Or.inr q)
  exact W.aald (v := va_rf (f i.toNatClampNeg)) (ty := .array .int) hexec hb (hP q0 _ ha) ((hK.2 t0 _ ht).1 n (fun j => va_rf (f j))) rfl (fun q => by cases q) (by show ¬ (i < 0 ∨ (arrV _ _ _).slots.size ≤ _); rw [arrV_size]; exact hin) (by show (arrV _ _ _).slots[_]? = _; rw [arrV_read _ _ hlt]) rfl rfl hdg kk
theorem g_aald (C : Cx X cc own Ts nL rm ret) (q0 : Nat) {n b0 : Nat} {i : Int32} (q1 : Nat) {K : Option α} (he : (world (Xb X) S)[q0]? = some (bad (Xb X) q0, .inl (bcy (Xb X) 4, n, .inr (.inr (.inr (.inr (fun j => if j < n then some (bad (Xb X) (b0 + j)) else none))))))) (hq : b0 + i.toNatClampNeg = q1) (h : chk (inb i n) K = some r0) (hd : decode cc pc = .ok (.aaload, 1)) (kk : i.toNatClampNeg < n → K = some r0 → G X Q S (pc + 1) lv (.ref (ad X q1) :: st)) : G X Q S pc lv (.int i :: .ref (ad X q0) :: st) := by
  obtain ⟨p, l, e, R, s, m, args, below, meth, c, b⟩ := X
  obtain ⟨hx, hb, hml, hown, hts, hr, hlk, rfl, hK, hA, hE⟩ := C
  intro H locs ls hP hS hl
  subst hq
  have hin := inb_in (chk_some h).1
  have hlt : i.toNatClampNeg < n := Nat.not_le.mp fun q => hin (Or.inr q)
  refine va_aldg hx hb hK hP q0 4 he rfl hin hd ?_
  rw [if_pos hlt]
  exact kk hlt (chk_some h).2 H locs ls hP hS hl
theorem g_aaldc (C : Cx X cc own Ts nL rm ret) (q0 : Nat) {n b0 : Nat} {i : Int32} (q1 : Nat) (he : (world (Xb X) S)[q0]? = some (bad (Xb X) q0, .inl (bcy (Xb X) 4, n, .inr (.inr (.inr (.inr (fun j => if j < n then some (bad (Xb X) (b0 + j)) else none))))))) (hq : b0 + i.toNatClampNeg = q1) (hin : inb i n = true) (hd : decode cc pc = .ok (.aaload, 1)) (kk : G X Q S (pc + 1) lv (.ref (ad X q1) :: st)) : G X Q S pc lv (.int i :: .ref (ad X q0) :: st) :=
  g_aald (r0 := ()) C q0 q1 (K := some ()) he hq (by rw [hin]; rfl) hd (fun _ _ => kk)
theorem g_alen (C : Cx X cc own Ts nL rm ret) (q0 : Nat) {ty : FieldType} (t0 : Nat) {x : vp_A} {cA : ClassId} (he : (world (Xb X) S)[q0]? = some (bad (Xb X) q0, .inl (cA, x))) (ht : (btys (Xb X))[t0]? = some (cA, ty)) {v : Int32} (hv : Int32.ofNat x.1 = v) (hd : decode cc pc = .ok (.arraylength, 1)) (kk : G X Q S (pc + 1) lv (.int v :: st)) : G X Q S pc lv (.ref (ad X q0) :: st) := by
  obtain ⟨p, l, e, R, s, m, args, below, meth, c, b⟩ := X
  obtain ⟨hx, hb, hml, hown, hts, hr, hlk, rfl, hK, hA, hE⟩ := C
  intro H locs ls hP hS hl
  exact va_alen hx hb hK hP q0 t0 he ht hv hd (kk H locs ls hP hS hl)
theorem g_getsN (C : Cx X cc own Ts nL rm ret) (j : Nat) (hj : j < 3) {index : Nat} {host : String} (hlink : Cond.fieldLinkNest own index RX3 (tblN j) "[I" host ∈ nestWs) (hd : decode cc pc = .ok (.getstatic index, 3)) (kk : G X Q S (pc + 3) lv (.ref (bT (Xb X) j) :: st)) : G X Q S pc lv st := by
  obtain ⟨p, l, e, R, s, m, args, below, meth, c, b⟩ := X
  obtain ⟨hx, hb, hml, hown, hts, hr, hlk, rfl, hK, hA, hE⟩ := C
  intro H locs ls hP hS hl
  exact va_getsN hx hb (hE.2.2.2.2.2 j hj).1 hS hown (va_Nw.use rfl (hE.1 _ hlink)) (fun _ q => q) hd (kk H locs ls hP hS hl)
theorem g_tld (C : Cx X cc own Ts nL rm ret) (j : Nat) (hj : j < 3) {i : Int32} {K : Option α} (h : chk (inb i 13) K = some r0) (hd : decode cc pc = .ok (.iaload, 1)) (kk : K = some r0 → G X Q S (pc + 1) lv (.int (tbr j i) :: st)) : G X Q S pc lv (.int i :: .ref (bT (Xb X) j) :: st) := by
  obtain ⟨p, l, e, R, s, m, args, below, meth, c, b⟩ := X
  obtain ⟨hx, hb, hml, hown, hts, hr, hlk, rfl, hK, hA, hE⟩ := C
  intro H locs ls hP hS hl
  exact va_ti hx hb (hE.2.2.2.2.2 j hj).2 hS (inb_in (chk_some h).1) rfl hd (kk (chk_some h).2 H locs ls hP hS hl)
theorem g_mmin (C : Cx X cc own Ts nL rm ret) {index : Nat} (h1 : Cond.methodLink own index Lib.Math.min.name ∈ Ts) (h2 : Cond.static Lib.Math.min.name ∈ Ts) (h3 : Cond.initialized "java/lang/Math" ∈ Ts) (h4 : Cond.code Lib.Math.min.name Lib.Math.min.code 2 (some .int) ∈ Ts) (hfr : 1 ≤ rm.frames) (hlo : (st.map fun v => v.category).sum + 13 ≤ rm.locals) {x y : Int32} (hd : decode cc pc = .ok (.invokestatic index, 3)) (kk : G X Q S (pc + 3) lv (.int (imin x y) :: st)) : G X Q S pc lv (.int y :: .int x :: st) := by
  obtain ⟨p, l, e, R, s, m, args, below, meth, c, b⟩ := X
  obtain ⟨hx, hb, hml, hown, hts, hr, hlk, rfl, hK, hA, hE⟩ := C
  intro H locs ls hP hS hl
  exact va_mmin hx hb hl.1.symm hown (hts _ h1) (hts _ h2) (hts _ h3) (hts _ h4) hfr hlo (Nat.zero_le _) (Nat.zero_le _) hd (kk H locs ls hP hS hl)
theorem g_mmax (C : Cx X cc own Ts nL rm ret) {index : Nat} (h1 : Cond.methodLink own index Lib.Math.max.name ∈ Ts) (h2 : Cond.static Lib.Math.max.name ∈ Ts) (h3 : Cond.initialized "java/lang/Math" ∈ Ts) (h4 : Cond.code Lib.Math.max.name Lib.Math.max.code 2 (some .int) ∈ Ts) (hfr : 1 ≤ rm.frames) (hlo : (st.map fun v => v.category).sum + 13 ≤ rm.locals) {x y : Int32} (hd : decode cc pc = .ok (.invokestatic index, 3)) (kk : G X Q S (pc + 3) lv (.int (imax x y) :: st)) : G X Q S pc lv (.int y :: .int x :: st) := by
  obtain ⟨p, l, e, R, s, m, args, below, meth, c, b⟩ := X
  obtain ⟨hx, hb, hml, hown, hts, hr, hlk, rfl, hK, hA, hE⟩ := C
  intro H locs ls hP hS hl
  exact va_mmax hx hb hl.1.symm hown (hts _ h1) (hts _ h2) (hts _ h3) (hts _ h4) hfr hlo (Nat.zero_le _) (Nat.zero_le _) hd (kk H locs ls hP hS hl)
/-! returns -/
theorem g_iret (C : Cx X cc own Ts nL rm (some .int)) {v : Int32} {r : Int32 × St} (h : some (v, S) = some r) (hd : decode cc pc = .ok (.ireturn, 1)) : G X (QM mkI X r) S pc lv [.int v] := by
  obtain ⟨p, l, e, R, s, m, args, below, meth, c, b⟩ := X
  obtain ⟨hx, hb, hml, hown, hts, hr, hlk, rfl, hK, hA, hE⟩ := C
  intro H locs ls hP hS hl
  cases h
  exact W.iret hx hb hr (fun t ht hW => ⟨rfl, by rw [ht]; exact hP, hS.F ht⟩) hS.2.2 hd hlk
theorem g_zret (C : Cx X cc own Ts nL rm (some .boolean)) {v : Int32} {r : Int32 × St} (h : chk (isB v) (some (v, S)) = some r) (hd : decode cc pc = .ok (.ireturn, 1)) : G X (QM mkI X r) S pc lv [.int v] := by
  obtain ⟨p, l, e, R, s, m, args, below, meth, c, b⟩ := X
  obtain ⟨hx, hb, hml, hown, hts, hr, hlk, rfl, hK, hA, hE⟩ := C
  intro H locs ls hP hS hl
  obtain ⟨h1, h2⟩ := chk_some h
  cases h2
  have hn : narrow .boolean (.int v) = .int v := by
    rcases of_decide_eq_true h1 with rfl | rfl <;> rfl
  exact W.zret hx hb hr hn (fun t ht hW => ⟨rfl, by rw [ht]; exact hP, hS.F ht⟩) hS.2.2 hd hlk
theorem g_zretc (C : Cx X cc own Ts nL rm (some .boolean)) {v : Int32} {r : Int32 × St} (hv : isB v = true) (h : some (v, S) = some r) (hd : decode cc pc = .ok (.ireturn, 1)) : G X (QM mkI X r) S pc lv [.int v] := g_zret C (by rw [hv]; exact h) hd
theorem g_lret (C : Cx X cc own Ts nL rm (some .long)) {v : Int64} {r : Int64 × St} (h : some (v, S) = some r) (hd : decode cc pc = .ok (.lreturn, 1)) : G X (QM mkL X r) S pc lv [.long v] := by
  obtain ⟨p, l, e, R, s, m, args, below, meth, c, b⟩ := X
  obtain ⟨hx, hb, hml, hown, hts, hr, hlk, rfl, hK, hA, hE⟩ := C
  intro H locs ls hP hS hl
  cases h
  exact W.lret hx hb hr (fun t ht hW => ⟨rfl, by rw [ht]; exact hP, hS.F ht⟩) hS.2.2 hd hlk
theorem g_vret (C : Cx X cc own Ts nL rm none) {r : Unit × St} (h : some ((), S) = some r) (hd : decode cc pc = .ok (.return_, 1)) : G X (QM mkV X r) S pc lv [] := by
  obtain ⟨p, l, e, R, s, m, args, below, meth, c, b⟩ := X
  obtain ⟨hx, hb, hml, hown, hts, hr, hlk, rfl, hK, hA, hE⟩ := C
  intro H locs ls hP hS hl
  cases h
  exact W.vret hx hb hr (fun t ht hW => ⟨rfl, by rw [ht]; exact hP, hS.F ht⟩) hS.2.2 hd hlk
theorem g_sret (C : Cx X cc own Ts nL rm (some (.object "java/lang/String"))) {i : Nat} {r : Nat × St} (h : some (i, S) = some r) (hd : decode cc pc = .ok (.areturn, 1)) : G X (QM (mkS (Xb X)) X r) S pc lv [.ref (bK (Xb X) i)] := by
  obtain ⟨p, l, e, R, s, m, args, below, meth, c, b⟩ := X
  obtain ⟨hx, hb, hml, hown, hts, hr, hlk, rfl, hK, hA, hE⟩ := C
  intro H locs ls hP hS hl
  cases h
  exact W.aret hx hb hr (Or.inl ⟨_, rfl⟩) (Or.inr ⟨_, rfl⟩) (fun t ht hW => ⟨rfl, by rw [ht]; exact hP, hS.F ht⟩) hS.2.2 hd hlk
end GROWS2
/-! ===== calls ===== -/
section GCALL
variable {p : Program} {l : Launch} {e : Env} {R : Room} {s : State} {m : MethodId} {args : Array Value} {below : List Frame} {meth : Method} {c : Code} {H : Heap} {locs : List Loc} {Q : State → Prop}
theorem va_callQ {pc : Nat} {ls : Array Slot} {rest st0 : List Value} {a : Array Value} {A0 A1 : Nat → Prop} {H0 : Heap} {free : Addr → Prop} {b : Bw} {v : Option Value} {S1 : St} (hr : va_Run p l e R s m args below meth c H locs 0 0 0 0 (F0 m pc ls st0) rest (QW b v S1 A1 a) free) (hS : va_S A0 H0 H locs) (hA : ∀ q, q < H.size → A1 q → A0 q) (hf : ∀ q, free q → A0 q)
    (kk : ∀ (H1 : Heap) (locs1 : List Loc), va_P (bD b) vwCl (world b S1) H1 → va_S A0 H0 H1 locs1 → W p l e R s m args below meth c H1 locs1 0 0 Q (F0 m (pc + 3) ls (v.toList ++ rest))) : W p l e R s m args below meth c H locs 0 0 Q (F0 m pc ls st0) := by
  intro T hT X
  obtain ⟨v1, st₀, t, T', L, h0, X', hL, e1, e2, ⟨hv, hP1, hz, hk⟩, st⟩ := hr T hT X
  cases hv
  rw [h0] at hz hk
  obtain ⟨t2, a1, b1⟩ := kk T'.heap (locs ++ L) (by rw [e1]; exact hP1)
    ⟨Nat.le_trans hS.1 (by rw [e1]; exact hz), fun q h1 h2 => by rw [e1, hk q (Nat.lt_of_lt_of_le h1 hS.1) (fun z => h2 (hA q (Nat.lt_of_lt_of_le h1 hS.1) z))]; exact hS.2.1 q h1 h2, fun q hq => by
      rcases List.mem_append.mp hq with h | h
      · exact hS.2.2 q h
      · exact hf _ (hL q h)⟩ T' rfl X'
  exact ⟨t2, st t2 a1, b1⟩
theorem AW_sub {b : Bw} {s0 : Nat} {s1 : Nat} (h : s0 ≤ s1) : ∀ q, AW b s1 q → AW b s0 q := fun q hq => hq.elim Or.inl (fun z => Or.inr (Nat.le_trans h z))
theorem pre_of {b : Bw} {S : St} (hP : va_P (bD b) vwCl (world b S) H) (hS : va_S (AW b s.heap.size) s.heap H locs) (hK : va_K (bD b) vwCl (btys b) s) (hA : adOK b) (hE : EnvP b (AW b s.heap.size) s s.heap) (As : List Value) : ∀ U : State, U.heap = H → s.WarmedH U.vm → va_Pc As (PreW b S H.size) As.toArray U := by
  intro U hU hW
  refine ⟨rfl, by rw [hU], by rw [hU]; exact hP, va_K.moved hW.alike hK, hA, ?_⟩
  rw [hU]
  exact ((hE.warm hW).kept hS.2.1).narrow (AW_sub hS.1)
end GCALL
section GROWS3
variable {X : MC} {Q : State → Prop} {S : St} {pc : Nat} {lv : List (Nat × Value)} {st stk : List Value} {cc : ByteArray} {own : String} {Ts : List Cond} {nL : Nat} {rm : Room} {ret : Option FieldType} {α ρ : Type} {r0 : α} {mk : ρ → Option Value} {y : MethodName} {ws ws' : List Cond} {bytes : ByteArray} {maxL n index : Nat} {ret1 : Option FieldType} {rm1 : Room} {o1 : Option (ρ × St)} {As : List Value} {f : ρ → St → Option α}
theorem g_callV (C : Cx X cc own Ts nL rm ret) (q0 : Nat) {ci N : Nat} {fs : List Value} {Cn : String} {T : u_T} (hM : Ct (Xl X) (Xb X) y ws rm1 (.ref (ad X q0) :: As) S mk o1) (hg : GoodIn Ts (wsV own index Cn y ws)) (hw : ws = .code y bytes maxL ret1 :: ws') (hrc : rm1.cells = 0) (hrs : rm1.slots = 0) (hd1 : y.cls = Cn ∧ y.cls ≠ "java/lang/invoke/MethodHandle" ∧ y.cls ≠ "java/lang/invoke/VarHandle" ∧ (parseMethodDescriptor y.desc).map (fun d => d.parameters.length) = some n) (hroom : rm1.frames + 1 ≤ rm.frames ∧ 8 + (maxL + 11) + rm1.locals ≤ rm.locals) (he : (world (Xb X) S)[q0]? = some (bad (Xb X) q0, .inr (ci, fs))) (hc : vwCl[ci]? = some (Cn, T, N)) (hn : As.length = n) (hst : stk = As.reverse ++ .ref (ad X q0) :: st) (hcat : (st.map fun v => v.category).sum ≤ 8) (hd : decode cc pc = .ok (.invokevirtual index, 3)) (h : bnd o1 f = some r0) (kk : ∀ a S1, f a S1 = some r0 → G X Q S1 (pc + 3) lv ((mk a).toList ++ st)) : G X Q S pc lv stk := by
  obtain ⟨p, l, e, R, s, m, args, below, meth, c, b⟩ := X
  obtain ⟨hx, hb, hml, hown, hts, hr, hlk, rfl, hK, hA, hE⟩ := C
  intro H locs ls hP hS hl
  obtain ⟨q, hq1, hq2⟩ := bnd_some h
  have cw : CallW R s args own Cn index y bytes maxL ret1 ws rm1 0 0 n := cwV n hts hg hw hrc hrs hd1 hroom
  refine va_callQ (va_runV (As := As) (rest := st) ⟨hx, hb, hml, hown, hts⟩ (hM H.size q hq1) cw ⟨PreW_calling, va_recv hK hP hc he, pre_of hP hS hK hA hE (.ref (bad b q0) :: As)⟩ rfl hn (hl.1.trans hml) hst (lv_room hcat) hd ⟨Nat.zero_le _, Nat.zero_le _⟩) hS (fun z _ hz => AW_sub hS.1 z hz) (AW_sub hS.1) (fun H1 locs1 hP1 hS1 => ?_)
  exact kk q.1 q.2 hq2 H1 locs1 ls hP1 hS1 hl
theorem g_callS (C : Cx X cc own Ts nL rm ret) (hM : Ct (Xl X) (Xb X) y ws rm1 As S mk o1) (hg : GoodIn Ts (va_wsS own index y ws)) (hw : ws = .code y bytes maxL ret1 :: ws') (hrc : rm1.cells = 0) (hrs : rm1.slots = 0) (hd1 : y.cls ≠ "java/lang/invoke/MethodHandle" ∧ y.cls ≠ "java/lang/invoke/VarHandle" ∧ (parseMethodDescriptor y.desc).map (fun d => d.parameters.length) = some n) (hroom : rm1.frames + 1 ≤ rm.frames ∧ 8 + (maxL + 11) + rm1.locals ≤ rm.locals) (hn : As.length = n) (hst : stk = As.reverse ++ st) (hcat : (st.map fun v => v.category).sum ≤ 8) (hd : decode cc pc = .ok (.invokestatic index, 3)) (h : bnd o1 f = some r0) (kk : ∀ a S1, f a S1 = some r0 → G X Q S1 (pc + 3) lv ((mk a).toList ++ st)) : G X Q S pc lv stk := by
  obtain ⟨p, l, e, R, s, m, args, below, meth, c, b⟩ := X
  obtain ⟨hx, hb, hml, hown, hts, hr, hlk, rfl, hK, hA, hE⟩ := C
  intro H locs ls hP hS hl
  obtain ⟨q, hq1, hq2⟩ := bnd_some h
  refine va_callQ (va_runS (As := As) (rest := st) ⟨hx, hb, hml, hown, hts⟩ (hM H.size q hq1) (va_cwS (R := R) (mc := 0) (ms := 0) (bytes := bytes) (maxL := maxL) (ret := ret1) n hts hg hw hrc hrs hd1 hroom) ⟨PreW_calling, pre_of hP hS hK hA hE As⟩ rfl hn (hl.1.trans hml) hst (lv_room hcat) hd ⟨Nat.zero_le _, Nat.zero_le _⟩) hS (fun z _ hz => AW_sub hS.1 z hz) (AW_sub hS.1) (fun H1 locs1 hP1 hS1 => ?_)
  exact kk q.1 q.2 hq2 H1 locs1 ls hP1 hS1 hl
theorem g_callSN (C : Cx X cc own Ts nL rm ret) {host : String} (hM : Ct (Xl X) (Xb X) y ws rm1 As S mk o1) (hg : GoodIn Ts ws) (hw : ws = .code y bytes maxL ret1 :: ws') (hrc : rm1.cells = 0) (hrs : rm1.slots = 0) (hlink : Cond.methodLinkNest own index y host ∈ nestWs) (hini : Cond.initialized y.cls ∈ Ts) (hstt : Cond.static y ∈ Ts) (hd1 : y.cls ≠ "java/lang/invoke/MethodHandle" ∧ y.cls ≠ "java/lang/invoke/VarHandle" ∧ (parseMethodDescriptor y.desc).map (fun d => d.parameters.length) = some n) (hroom : rm1.frames + 1 ≤ rm.frames ∧ 8 + (maxL + 11) + rm1.locals ≤ rm.locals) (hn : As.length = n) (hst : stk = As.reverse ++ st) (hcat : (st.map fun v => v.category).sum ≤ 8) (hd : decode cc pc = .ok (.invokestatic index, 3)) (h : bnd o1 f = some r0) (kk : ∀ a S1, f a S1 = some r0 → G X Q S1 (pc + 3) lv ((mk a).toList ++ st)) : G X Q S pc lv stk := by
  obtain ⟨p, l, e, R, s, m, args, below, meth, c, b⟩ := X
  obtain ⟨hx, hb, hml, hown, hts, hr, hlk, rfl, hK, hA, hE⟩ := C
  intro H locs ls hP hS hl
  obtain ⟨q, hq1, hq2⟩ := bnd_some h
  have cw : va_CN R s args own index y host bytes maxL ret1 ws rm1 0 0 n := va_cnB n hts hg hw hrc hrs (hE.1 _ hlink) (hts _ hini) hd1 hroom
  refine va_callQ (va_runSN (As := As) (rest := st) ⟨hx, hb, hml, hown, hts⟩ (hM H.size q hq1) ⟨cw, hts _ hstt, trivial⟩ ⟨PreW_calling, pre_of hP hS hK hA hE As⟩ rfl hn (hl.1.trans hml) hst (lv_room hcat) hd ⟨Nat.zero_le _, Nat.zero_le _⟩) hS (fun z _ hz => AW_sub hS.1 z hz) (AW_sub hS.1) (fun H1 locs1 hP1 hS1 => ?_)
  exact kk q.1 q.2 hq2 H1 locs1 ls hP1 hS1 hl
/-- a call on a text -/
theorem g_callT (C : Cx X cc own Ts nL rm ret) (i : Nat) (hi : i < 16) (hM : Ct (Xl X) (Xb X) y ws rm1 (.ref (bK (Xb X) i) :: As) S mk o1) (hg : GoodIn Ts (wsV own index "java/lang/String" y ws)) (hw : ws = .code y bytes maxL ret1 :: ws') (hrc : rm1.cells = 0) (hrs : rm1.slots = 0) (hd1 : y.cls = "java/lang/String" ∧ y.cls ≠ "java/lang/invoke/MethodHandle" ∧ y.cls ≠ "java/lang/invoke/VarHandle" ∧ (parseMethodDescriptor y.desc).map (fun d => d.parameters.length) = some n) (hroom : rm1.frames + 1 ≤ rm.frames ∧ 8 + (maxL + 11) + rm1.locals ≤ rm.locals) (hn : As.length = n) (hst : stk = As.reverse ++ .ref (bK (Xb X) i) :: st) (hcat : (st.map fun v => v.category).sum ≤ 8) (hd : decode cc pc = .ok (.invokevirtual index, 3)) (h : bnd o1 f = some r0) (kk : ∀ a S1, f a S1 = some r0 → G X Q S1 (pc + 3) lv ((mk a).toList ++ st)) : G X Q S pc lv stk := by
  obtain ⟨p, l, e, R, s, m, args, below, meth, c, b⟩ := X
  obtain ⟨hx, hb, hml, hown, hts, hr, hlk, rfl, hK, hA, hE⟩ := C
  intro H locs ls hP hS hl
  obtain ⟨q, hq1, hq2⟩ := bnd_some h
  have cw : CallW R s args own "java/lang/String" index y bytes maxL ret1 ws rm1 0 0 n := cwV n hts hg hw hrc hrs hd1 hroom
  refine va_callQ (va_runV (As := As) (rest := st) ⟨hx, hb, hml, hown, hts⟩ (hM H.size q hq1) cw ⟨PreW_calling, vk_recv hE.2.1 hi hS, pre_of hP hS hK hA hE (.ref (bK b i) :: As)⟩ rfl hn (hl.1.trans hml) hst (lv_room hcat) hd ⟨Nat.zero_le _, Nat.zero_le _⟩) hS (fun z _ hz => AW_sub hS.1 z hz) (AW_sub hS.1) (fun H1 locs1 hP1 hS1 => ?_)
  exact kk q.1 q.2 hq2 H1 locs1 ls hP1 hS1 hl
end GROWS3
/-- words of a part of a list -/
theorem mem_drop {L small : List Cond} (p : Nat) (h : (L.drop p).take small.length = small) : ∀ w ∈ small, w ∈ L := fun w hw => List.mem_of_mem_drop (List.mem_of_mem_take (h.symm ▸ hw))
end
section
def rmJ0_charAt_5068e : Room := { frames := 4, cells := 0, slots := 0, locals := 103 }
def rmJ0_length_8abf5 : Room := { frames := 1, cells := 0, slots := 0, locals := 20 }
def rmJ9_floorDiv_f86c9 : Room := { frames := 0, cells := 0, slots := 0, locals := 0 }
def rmJ9_floorMod_1978a : Room := { frames := 1, cells := 0, slots := 0, locals := 25 }
def rmJ9_floorMod_f86c9 : Room := { frames := 0, cells := 0, slots := 0, locals := 0 }
def rmX0_add : Room := { frames := 0, cells := 0, slots := 0, locals := 0 }
def rmX0_bent : Room := { frames := 2, cells := 0, slots := 0, locals := 48 }
def rmX0_shareWith : Room := { frames := 1, cells := 0, slots := 0, locals := 22 }
def rmX10_append : Room := { frames := 0, cells := 0, slots := 0, locals := 0 }
def rmX10_at : Room := { frames := 0, cells := 0, slots := 0, locals := 0 }
def rmX10_clear : Room := { frames := 0, cells := 0, slots := 0, locals := 0 }
def rmX11_arc : Room := { frames := 2, cells := 0, slots := 0, locals := 45 }
def rmX11_count : Room := { frames := 0, cells := 0, slots := 0, locals := 0 }
def rmX11_event : Room := { frames := 2, cells := 0, slots := 0, locals := 43 }
def rmX11_feed : Room := { frames := 1, cells := 0, slots := 0, locals := 24 }
def rmX11_isTick : Room := { frames := 1, cells := 0, slots := 0, locals := 22 }
def rmX11_isVoice : Room := { frames := 1, cells := 0, slots := 0, locals := 22 }
def rmX11_isWithin : Room := { frames := 0, cells := 0, slots := 0, locals := 0 }
def rmX11_level : Room := { frames := 2, cells := 0, slots := 0, locals := 47 }
def rmX11_levelAt : Room := { frames := 3, cells := 0, slots := 0, locals := 73 }
def rmX11_mark : Room := { frames := 2, cells := 0, slots := 0, locals := 43 }
def rmX11_meter : Room := { frames := 1, cells := 0, slots := 0, locals := 22 }
def rmX11_note : Room := { frames := 2, cells := 0, slots := 0, locals := 42 }
def rmX11_perform : Room := { frames := 5, cells := 0, slots := 0, locals := 124 }
def rmX11_plain : Room := { frames := 1, cells := 0, slots := 0, locals := 22 }
def rmX11_quotient : Room := { frames := 1, cells := 0, slots := 0, locals := 25 }
def rmX11_read : Room := { frames := 9, cells := 0, slots := 0, locals := 218 }
def rmX11_rule : Room := { frames := 2, cells := 0, slots := 0, locals := 43 }
def rmX11_sounding : Room := { frames := 2, cells := 0, slots := 0, locals := 44 }
def rmX11_span : Room := { frames := 2, cells := 0, slots := 0, locals := 45 }
def rmX11_timeOf : Room := { frames := 3, cells := 0, slots := 0, locals := 72 }
def rmX11_value : Room := { frames := 2, cells := 0, slots := 0, locals := 45 }
def rmX11_why : Room := { frames := 2, cells := 0, slots := 0, locals := 42 }
def rmX12_arc : Room := { frames := 1, cells := 0, slots := 0, locals := 25 }
def rmX12_at : Room := { frames := 0, cells := 0, slots := 0, locals := 0 }
def rmX12_count : Room := { frames := 0, cells := 0, slots := 0, locals := 0 }
def rmX12_counts : Room := { frames := 0, cells := 0, slots := 0, locals := 0 }
def rmX12_cut : Room := { frames := 0, cells := 0, slots := 0, locals := 0 }
def rmX12_event : Room := { frames := 1, cells := 0, slots := 0, locals := 25 }
def rmX12_feed : Room := { frames := 1, cells := 0, slots := 0, locals := 25 }
def rmX12_floor : Room := { frames := 0, cells := 0, slots := 0, locals := 0 }
def rmX12_has : Room := { frames := 0, cells := 0, slots := 0, locals := 0 }
def rmX12_highAt : Room := { frames := 1, cells := 0, slots := 0, locals := 25 }
def rmX12_highest : Room := { frames := 0, cells := 0, slots := 0, locals := 0 }
def rmX12_in : Room := { frames := 0, cells := 0, slots := 0, locals := 0 }
def rmX12_isAhead : Room := { frames := 0, cells := 0, slots := 0, locals := 0 }
def rmX12_isNote : Room := { frames := 1, cells := 0, slots := 0, locals := 25 }
def rmX12_isNumber : Room := { frames := 1, cells := 0, slots := 0, locals := 25 }
def rmX12_lesser : Room := { frames := 0, cells := 0, slots := 0, locals := 0 }
def rmX12_level : Room := { frames := 1, cells := 0, slots := 0, locals := 25 }
def rmX12_levelAt : Room := { frames := 2, cells := 0, slots := 0, locals := 48 }
def rmX12_levelBy : Room := { frames := 0, cells := 0, slots := 0, locals := 0 }
def rmX12_longOf : Room := { frames := 2, cells := 0, slots := 0, locals := 48 }
def rmX12_loudOf : Room := { frames := 2, cells := 0, slots := 0, locals := 48 }
def rmX12_lowest : Room := { frames := 0, cells := 0, slots := 0, locals := 0 }
def rmX12_mark : Room := { frames := 2, cells := 0, slots := 0, locals := 46 }
def rmX12_meter : Room := { frames := 1, cells := 0, slots := 0, locals := 25 }
def rmX12_named : Room := { frames := 2, cells := 0, slots := 0, locals := 47 }
def rmX12_note : Room := { frames := 1, cells := 0, slots := 0, locals := 25 }
def rmX12_number : Room := { frames := 1, cells := 0, slots := 0, locals := 25 }
def rmX12_onOf : Room := { frames := 2, cells := 0, slots := 0, locals := 48 }
def rmX12_perform : Room := { frames := 5, cells := 0, slots := 0, locals := 126 }
def rmX12_performNote : Room := { frames := 4, cells := 0, slots := 0, locals := 103 }
def rmX12_plain : Room := { frames := 0, cells := 0, slots := 0, locals := 0 }
def rmX12_read : Room := { frames := 4, cells := 0, slots := 0, locals := 90 }
def rmX12_rolledAhead : Room := { frames := 1, cells := 0, slots := 0, locals := 22 }
def rmX12_rule : Room := { frames := 1, cells := 0, slots := 0, locals := 25 }
def rmX12_sounding : Room := { frames := 0, cells := 0, slots := 0, locals := 0 }
def rmX12_sounds : Room := { frames := 2, cells := 0, slots := 0, locals := 50 }
def rmX12_span : Room := { frames := 2, cells := 0, slots := 0, locals := 46 }
def rmX12_take : Room := { frames := 1, cells := 0, slots := 0, locals := 25 }
def rmX12_takeRule : Room := { frames := 3, cells := 0, slots := 0, locals := 68 }
def rmX12_time : Room := { frames := 1, cells := 0, slots := 0, locals := 25 }
def rmX12_timeOf : Room := { frames := 2, cells := 0, slots := 0, locals := 50 }
def rmX12_trill : Room := { frames := 3, cells := 0, slots := 0, locals := 77 }
def rmX12_usual : Room := { frames := 0, cells := 0, slots := 0, locals := 0 }
def rmX12_value : Room := { frames := 2, cells := 0, slots := 0, locals := 48 }
def rmX12_why : Room := { frames := 1, cells := 0, slots := 0, locals := 25 }
def rmX12_word : Room := { frames := 0, cells := 0, slots := 0, locals := 0 }
def rmX12_wordOf : Room := { frames := 1, cells := 0, slots := 0, locals := 27 }
def rmX1_add : Room := { frames := 0, cells := 0, slots := 0, locals := 0 }
def rmX1_bend : Room := { frames := 3, cells := 0, slots := 0, locals := 72 }
def rmX1_clear : Room := { frames := 0, cells := 0, slots := 0, locals := 0 }
def rmX1_endAtRepeat : Room := { frames := 1, cells := 0, slots := 0, locals := 23 }
def rmX1_endAtRepeats : Room := { frames := 2, cells := 0, slots := 0, locals := 46 }
def rmX1_endOf : Room := { frames := 0, cells := 0, slots := 0, locals := 0 }
def rmX1_firstBeginOf : Room := { frames := 0, cells := 0, slots := 0, locals := 0 }
def rmX1_has : Room := { frames := 1, cells := 0, slots := 0, locals := 22 }
def rmX1_howManyOf : Room := { frames := 0, cells := 0, slots := 0, locals := 0 }
def rmX1_lastEndOf : Room := { frames := 1, cells := 0, slots := 0, locals := 21 }
def rmX1_repeats : Room := { frames := 0, cells := 0, slots := 0, locals := 0 }
def rmX1_soundingAt : Room := { frames := 1, cells := 0, slots := 0, locals := 21 }
def rmX1_takeInOrder : Room := { frames := 3, cells := 0, slots := 0, locals := 68 }
def rmX2_at : Room := { frames := 2, cells := 0, slots := 0, locals := 48 }
def rmX2_moveUpFrom : Room := { frames := 0, cells := 0, slots := 0, locals := 0 }
def rmX2_put : Room := { frames := 1, cells := 0, slots := 0, locals := 22 }
def rmX3_has : Room := { frames := 1, cells := 0, slots := 0, locals := 22 }
def rmX3_wordOf : Room := { frames := 0, cells := 0, slots := 0, locals := 0 }
def rmX4_add : Room := { frames := 0, cells := 0, slots := 0, locals := 0 }
def rmX4_changeMarks : Room := { frames := 0, cells := 0, slots := 0, locals := 0 }
def rmX4_has : Room := { frames := 1, cells := 0, slots := 0, locals := 22 }
def rmX4_isInChord : Room := { frames := 0, cells := 0, slots := 0, locals := 0 }
def rmX4_isLower : Room := { frames := 0, cells := 0, slots := 0, locals := 0 }
def rmX4_rolledAhead : Room := { frames := 1, cells := 0, slots := 0, locals := 23 }
def rmX5_keyOf : Room := { frames := 0, cells := 0, slots := 0, locals := 0 }
def rmX5_merge : Room := { frames := 0, cells := 0, slots := 0, locals := 0 }
def rmX5_partAt : Room := { frames := 2, cells := 0, slots := 0, locals := 47 }
def rmX5_sort : Room := { frames := 1, cells := 0, slots := 0, locals := 26 }
def rmX6_addLean : Room := { frames := 2, cells := 0, slots := 0, locals := 51 }
def rmX6_addPart : Room := { frames := 1, cells := 0, slots := 0, locals := 27 }
def rmX6_addParts : Room := { frames := 3, cells := 0, slots := 0, locals := 77 }
def rmX6_addTrill : Room := { frames := 2, cells := 0, slots := 0, locals := 51 }
def rmX6_addTurn : Room := { frames := 2, cells := 0, slots := 0, locals := 51 }
def rmX6_drawOf : Room := { frames := 1, cells := 0, slots := 0, locals := 25 }
def rmX6_isMarked : Room := { frames := 0, cells := 0, slots := 0, locals := 0 }
def rmX6_longOf : Room := { frames := 2, cells := 0, slots := 0, locals := 45 }
def rmX6_loudOf : Room := { frames := 3, cells := 0, slots := 0, locals := 73 }
def rmX6_makeParts : Room := { frames := 4, cells := 0, slots := 0, locals := 99 }
def rmX6_onOf : Room := { frames := 2, cells := 0, slots := 0, locals := 50 }
def rmX6_roll : Room := { frames := 2, cells := 0, slots := 0, locals := 46 }
def rmX6_takeNote : Room := { frames := 0, cells := 0, slots := 0, locals := 0 }
def rmX7_findFault : Room := { frames := 8, cells := 0, slots := 0, locals := 195 }
def rmX7_isWord : Room := { frames := 5, cells := 0, slots := 0, locals := 124 }
def rmX7_kindAt : Room := { frames := 1, cells := 0, slots := 0, locals := 22 }
def rmX7_nameThere : Room := { frames := 6, cells := 0, slots := 0, locals := 147 }
def rmX7_takeNumber : Room := { frames := 3, cells := 0, slots := 0, locals := 65 }
def rmX7_takePiece : Room := { frames := 2, cells := 0, slots := 0, locals := 44 }
def rmX7_takeRule : Room := { frames := 7, cells := 0, slots := 0, locals := 169 }
def rmX8_areFull : Room := { frames := 0, cells := 0, slots := 0, locals := 0 }
def rmX8_clear : Room := { frames := 0, cells := 0, slots := 0, locals := 0 }
def rmX8_countingFor : Room := { frames := 0, cells := 0, slots := 0, locals := 0 }
def rmX8_dropStaged : Room := { frames := 0, cells := 0, slots := 0, locals := 0 }
def rmX8_has : Room := { frames := 1, cells := 0, slots := 0, locals := 22 }
def rmX8_isOutrankedBy : Room := { frames := 0, cells := 0, slots := 0, locals := 0 }
def rmX8_keepStaged : Room := { frames := 2, cells := 0, slots := 0, locals := 46 }
def rmX8_letCount : Room := { frames := 1, cells := 0, slots := 0, locals := 22 }
def rmX8_numberFor : Room := { frames := 1, cells := 0, slots := 0, locals := 22 }
def rmX8_stage : Room := { frames := 1, cells := 0, slots := 0, locals := 20 }
def rmX9_beat : Room := { frames := 0, cells := 0, slots := 0, locals := 0 }
def rmX9_beginsBar : Room := { frames := 1, cells := 0, slots := 0, locals := 21 }
def rmX9_beginsBeat : Room := { frames := 1, cells := 0, slots := 0, locals := 21 }
def rmX9_isMultiple : Room := { frames := 0, cells := 0, slots := 0, locals := 0 }
theorem hd_J0_charAt_5068e : yJ0_charAt_5068e.cls = "java/lang/String" ∧ yJ0_charAt_5068e.cls ≠ "java/lang/invoke/MethodHandle" ∧ yJ0_charAt_5068e.cls ≠ "java/lang/invoke/VarHandle" ∧ (parseMethodDescriptor yJ0_charAt_5068e.desc).map (fun d => d.parameters.length) = some 1 := by decide +kernel
theorem hd_J0_length_8abf5 : yJ0_length_8abf5.cls = "java/lang/String" ∧ yJ0_length_8abf5.cls ≠ "java/lang/invoke/MethodHandle" ∧ yJ0_length_8abf5.cls ≠ "java/lang/invoke/VarHandle" ∧ (parseMethodDescriptor yJ0_length_8abf5.desc).map (fun d => d.parameters.length) = some 0 := by decide +kernel
theorem hd_J9_floorDiv_f86c9 : yJ9_floorDiv_f86c9.cls ≠ "java/lang/invoke/MethodHandle" ∧ yJ9_floorDiv_f86c9.cls ≠ "java/lang/invoke/VarHandle" ∧ (parseMethodDescriptor yJ9_floorDiv_f86c9.desc).map (fun d => d.parameters.length) = some 2 := by decide +kernel
theorem hd_J9_floorMod_1978a : yJ9_floorMod_1978a.cls ≠ "java/lang/invoke/MethodHandle" ∧ yJ9_floorMod_1978a.cls ≠ "java/lang/invoke/VarHandle" ∧ (parseMethodDescriptor yJ9_floorMod_1978a.desc).map (fun d => d.parameters.length) = some 2 := by decide +kernel
theorem hd_J9_floorMod_f86c9 : yJ9_floorMod_f86c9.cls ≠ "java/lang/invoke/MethodHandle" ∧ yJ9_floorMod_f86c9.cls ≠ "java/lang/invoke/VarHandle" ∧ (parseMethodDescriptor yJ9_floorMod_f86c9.desc).map (fun d => d.parameters.length) = some 2 := by decide +kernel
theorem hd_X0_add : yX0_add.cls = RX0 ∧ yX0_add.cls ≠ "java/lang/invoke/MethodHandle" ∧ yX0_add.cls ≠ "java/lang/invoke/VarHandle" ∧ (parseMethodDescriptor yX0_add.desc).map (fun d => d.parameters.length) = some 3 := by decide +kernel
theorem hd_X0_bent : yX0_bent.cls = RX0 ∧ yX0_bent.cls ≠ "java/lang/invoke/MethodHandle" ∧ yX0_bent.cls ≠ "java/lang/invoke/VarHandle" ∧ (parseMethodDescriptor yX0_bent.desc).map (fun d => d.parameters.length) = some 1 := by decide +kernel
theorem hd_X0_shareWith : yX0_shareWith.cls = RX0 ∧ yX0_shareWith.cls ≠ "java/lang/invoke/MethodHandle" ∧ yX0_shareWith.cls ≠ "java/lang/invoke/VarHandle" ∧ (parseMethodDescriptor yX0_shareWith.desc).map (fun d => d.parameters.length) = some 2 := by decide +kernel
theorem hd_X10_append : yX10_append.cls = RX10 ∧ yX10_append.cls ≠ "java/lang/invoke/MethodHandle" ∧ yX10_append.cls ≠ "java/lang/invoke/VarHandle" ∧ (parseMethodDescriptor yX10_append.desc).map (fun d => d.parameters.length) = some 2 := by decide +kernel
theorem hd_X10_at : yX10_at.cls = RX10 ∧ yX10_at.cls ≠ "java/lang/invoke/MethodHandle" ∧ yX10_at.cls ≠ "java/lang/invoke/VarHandle" ∧ (parseMethodDescriptor yX10_at.desc).map (fun d => d.parameters.length) = some 1 := by decide +kernel
theorem hd_X10_clear : yX10_clear.cls = RX10 ∧ yX10_clear.cls ≠ "java/lang/invoke/MethodHandle" ∧ yX10_clear.cls ≠ "java/lang/invoke/VarHandle" ∧ (parseMethodDescriptor yX10_clear.desc).map (fun d => d.parameters.length) = some 0 := by decide +kernel
theorem hd_X11_arc : yX11_arc.cls = RX11 ∧ yX11_arc.cls ≠ "java/lang/invoke/MethodHandle" ∧ yX11_arc.cls ≠ "java/lang/invoke/VarHandle" ∧ (parseMethodDescriptor yX11_arc.desc).map (fun d => d.parameters.length) = some 3 := by decide +kernel
theorem hd_X11_count : yX11_count.cls = RX11 ∧ yX11_count.cls ≠ "java/lang/invoke/MethodHandle" ∧ yX11_count.cls ≠ "java/lang/invoke/VarHandle" ∧ (parseMethodDescriptor yX11_count.desc).map (fun d => d.parameters.length) = some 1 := by decide +kernel
theorem hd_X11_event : yX11_event.cls = RX11 ∧ yX11_event.cls ≠ "java/lang/invoke/MethodHandle" ∧ yX11_event.cls ≠ "java/lang/invoke/VarHandle" ∧ (parseMethodDescriptor yX11_event.desc).map (fun d => d.parameters.length) = some 2 := by decide +kernel
theorem hd_X11_feed : yX11_feed.cls = RX11 ∧ yX11_feed.cls ≠ "java/lang/invoke/MethodHandle" ∧ yX11_feed.cls ≠ "java/lang/invoke/VarHandle" ∧ (parseMethodDescriptor yX11_feed.desc).map (fun d => d.parameters.length) = some 2 := by decide +kernel
theorem hd_X11_isTick : yX11_isTick.cls ≠ "java/lang/invoke/MethodHandle" ∧ yX11_isTick.cls ≠ "java/lang/invoke/VarHandle" ∧ (parseMethodDescriptor yX11_isTick.desc).map (fun d => d.parameters.length) = some 1 := by decide +kernel
theorem hd_X11_isVoice : yX11_isVoice.cls ≠ "java/lang/invoke/MethodHandle" ∧ yX11_isVoice.cls ≠ "java/lang/invoke/VarHandle" ∧ (parseMethodDescriptor yX11_isVoice.desc).map (fun d => d.parameters.length) = some 1 := by decide +kernel
theorem hd_X11_isWithin : yX11_isWithin.cls ≠ "java/lang/invoke/MethodHandle" ∧ yX11_isWithin.cls ≠ "java/lang/invoke/VarHandle" ∧ (parseMethodDescriptor yX11_isWithin.desc).map (fun d => d.parameters.length) = some 3 := by decide +kernel
theorem hd_X11_level : yX11_level.cls = RX11 ∧ yX11_level.cls ≠ "java/lang/invoke/MethodHandle" ∧ yX11_level.cls ≠ "java/lang/invoke/VarHandle" ∧ (parseMethodDescriptor yX11_level.desc).map (fun d => d.parameters.length) = some 3 := by decide +kernel
theorem hd_X11_levelAt : yX11_levelAt.cls = RX11 ∧ yX11_levelAt.cls ≠ "java/lang/invoke/MethodHandle" ∧ yX11_levelAt.cls ≠ "java/lang/invoke/VarHandle" ∧ (parseMethodDescriptor yX11_levelAt.desc).map (fun d => d.parameters.length) = some 1 := by decide +kernel
theorem hd_X11_mark : yX11_mark.cls = RX11 ∧ yX11_mark.cls ≠ "java/lang/invoke/MethodHandle" ∧ yX11_mark.cls ≠ "java/lang/invoke/VarHandle" ∧ (parseMethodDescriptor yX11_mark.desc).map (fun d => d.parameters.length) = some 2 := by decide +kernel
theorem hd_X11_meter : yX11_meter.cls = RX11 ∧ yX11_meter.cls ≠ "java/lang/invoke/MethodHandle" ∧ yX11_meter.cls ≠ "java/lang/invoke/VarHandle" ∧ (parseMethodDescriptor yX11_meter.desc).map (fun d => d.parameters.length) = some 2 := by decide +kernel
theorem hd_X11_note : yX11_note.cls = RX11 ∧ yX11_note.cls ≠ "java/lang/invoke/MethodHandle" ∧ yX11_note.cls ≠ "java/lang/invoke/VarHandle" ∧ (parseMethodDescriptor yX11_note.desc).map (fun d => d.parameters.length) = some 5 := by decide +kernel
theorem hd_X11_perform : yX11_perform.cls = RX11 ∧ yX11_perform.cls ≠ "java/lang/invoke/MethodHandle" ∧ yX11_perform.cls ≠ "java/lang/invoke/VarHandle" ∧ (parseMethodDescriptor yX11_perform.desc).map (fun d => d.parameters.length) = some 0 := by decide +kernel
theorem hd_X11_plain : yX11_plain.cls = RX11 ∧ yX11_plain.cls ≠ "java/lang/invoke/MethodHandle" ∧ yX11_plain.cls ≠ "java/lang/invoke/VarHandle" ∧ (parseMethodDescriptor yX11_plain.desc).map (fun d => d.parameters.length) = some 0 := by decide +kernel
theorem hd_X11_quotient : yX11_quotient.cls ≠ "java/lang/invoke/MethodHandle" ∧ yX11_quotient.cls ≠ "java/lang/invoke/VarHandle" ∧ (parseMethodDescriptor yX11_quotient.desc).map (fun d => d.parameters.length) = some 2 := by decide +kernel
theorem hd_X11_read : yX11_read.cls = RX11 ∧ yX11_read.cls ≠ "java/lang/invoke/MethodHandle" ∧ yX11_read.cls ≠ "java/lang/invoke/VarHandle" ∧ (parseMethodDescriptor yX11_read.desc).map (fun d => d.parameters.length) = some 0 := by decide +kernel
theorem hd_X11_rule : yX11_rule.cls = RX11 ∧ yX11_rule.cls ≠ "java/lang/invoke/MethodHandle" ∧ yX11_rule.cls ≠ "java/lang/invoke/VarHandle" ∧ (parseMethodDescriptor yX11_rule.desc).map (fun d => d.parameters.length) = some 2 := by decide +kernel
theorem hd_X11_sounding : yX11_sounding.cls = RX11 ∧ yX11_sounding.cls ≠ "java/lang/invoke/MethodHandle" ∧ yX11_sounding.cls ≠ "java/lang/invoke/VarHandle" ∧ (parseMethodDescriptor yX11_sounding.desc).map (fun d => d.parameters.length) = some 1 := by decide +kernel
theorem hd_X11_span : yX11_span.cls = RX11 ∧ yX11_span.cls ≠ "java/lang/invoke/MethodHandle" ∧ yX11_span.cls ≠ "java/lang/invoke/VarHandle" ∧ (parseMethodDescriptor yX11_span.desc).map (fun d => d.parameters.length) = some 2 := by decide +kernel
theorem hd_X11_timeOf : yX11_timeOf.cls = RX11 ∧ yX11_timeOf.cls ≠ "java/lang/invoke/MethodHandle" ∧ yX11_timeOf.cls ≠ "java/lang/invoke/VarHandle" ∧ (parseMethodDescriptor yX11_timeOf.desc).map (fun d => d.parameters.length) = some 1 := by decide +kernel
theorem hd_X11_value : yX11_value.cls = RX11 ∧ yX11_value.cls ≠ "java/lang/invoke/MethodHandle" ∧ yX11_value.cls ≠ "java/lang/invoke/VarHandle" ∧ (parseMethodDescriptor yX11_value.desc).map (fun d => d.parameters.length) = some 2 := by decide +kernel
theorem hd_X11_why : yX11_why.cls = RX11 ∧ yX11_why.cls ≠ "java/lang/invoke/MethodHandle" ∧ yX11_why.cls ≠ "java/lang/invoke/VarHandle" ∧ (parseMethodDescriptor yX11_why.desc).map (fun d => d.parameters.length) = some 2 := by decide +kernel
theorem hd_X12_arc : yX12_arc.cls = RX12 ∧ yX12_arc.cls ≠ "java/lang/invoke/MethodHandle" ∧ yX12_arc.cls ≠ "java/lang/invoke/VarHandle" ∧ (parseMethodDescriptor yX12_arc.desc).map (fun d => d.parameters.length) = some 3 := by decide +kernel
theorem hd_X12_at : yX12_at.cls = RX12 ∧ yX12_at.cls ≠ "java/lang/invoke/MethodHandle" ∧ yX12_at.cls ≠ "java/lang/invoke/VarHandle" ∧ (parseMethodDescriptor yX12_at.desc).map (fun d => d.parameters.length) = some 1 := by decide +kernel
theorem hd_X12_count : yX12_count.cls = RX12 ∧ yX12_count.cls ≠ "java/lang/invoke/MethodHandle" ∧ yX12_count.cls ≠ "java/lang/invoke/VarHandle" ∧ (parseMethodDescriptor yX12_count.desc).map (fun d => d.parameters.length) = some 1 := by decide +kernel
theorem hd_X12_counts : yX12_counts.cls = RX12 ∧ yX12_counts.cls ≠ "java/lang/invoke/MethodHandle" ∧ yX12_counts.cls ≠ "java/lang/invoke/VarHandle" ∧ (parseMethodDescriptor yX12_counts.desc).map (fun d => d.parameters.length) = some 2 := by decide +kernel
theorem hd_X12_cut : yX12_cut.cls = RX12 ∧ yX12_cut.cls ≠ "java/lang/invoke/MethodHandle" ∧ yX12_cut.cls ≠ "java/lang/invoke/VarHandle" ∧ (parseMethodDescriptor yX12_cut.desc).map (fun d => d.parameters.length) = some 1 := by decide +kernel
theorem hd_X12_event : yX12_event.cls = RX12 ∧ yX12_event.cls ≠ "java/lang/invoke/MethodHandle" ∧ yX12_event.cls ≠ "java/lang/invoke/VarHandle" ∧ (parseMethodDescriptor yX12_event.desc).map (fun d => d.parameters.length) = some 2 := by decide +kernel
theorem hd_X12_feed : yX12_feed.cls = RX12 ∧ yX12_feed.cls ≠ "java/lang/invoke/MethodHandle" ∧ yX12_feed.cls ≠ "java/lang/invoke/VarHandle" ∧ (parseMethodDescriptor yX12_feed.desc).map (fun d => d.parameters.length) = some 2 := by decide +kernel
theorem hd_X12_floor : yX12_floor.cls ≠ "java/lang/invoke/MethodHandle" ∧ yX12_floor.cls ≠ "java/lang/invoke/VarHandle" ∧ (parseMethodDescriptor yX12_floor.desc).map (fun d => d.parameters.length) = some 2 := by decide +kernel
theorem hd_X12_has : yX12_has.cls = RX12 ∧ yX12_has.cls ≠ "java/lang/invoke/MethodHandle" ∧ yX12_has.cls ≠ "java/lang/invoke/VarHandle" ∧ (parseMethodDescriptor yX12_has.desc).map (fun d => d.parameters.length) = some 2 := by decide +kernel
theorem hd_X12_highAt : yX12_highAt.cls = RX12 ∧ yX12_highAt.cls ≠ "java/lang/invoke/MethodHandle" ∧ yX12_highAt.cls ≠ "java/lang/invoke/VarHandle" ∧ (parseMethodDescriptor yX12_highAt.desc).map (fun d => d.parameters.length) = some 1 := by decide +kernel
theorem hd_X12_highest : yX12_highest.cls ≠ "java/lang/invoke/MethodHandle" ∧ yX12_highest.cls ≠ "java/lang/invoke/VarHandle" ∧ (parseMethodDescriptor yX12_highest.desc).map (fun d => d.parameters.length) = some 1 := by decide +kernel
theorem hd_X12_in : yX12_in.cls ≠ "java/lang/invoke/MethodHandle" ∧ yX12_in.cls ≠ "java/lang/invoke/VarHandle" ∧ (parseMethodDescriptor yX12_in.desc).map (fun d => d.parameters.length) = some 3 := by decide +kernel
theorem hd_X12_isAhead : yX12_isAhead.cls = RX12 ∧ yX12_isAhead.cls ≠ "java/lang/invoke/MethodHandle" ∧ yX12_isAhead.cls ≠ "java/lang/invoke/VarHandle" ∧ (parseMethodDescriptor yX12_isAhead.desc).map (fun d => d.parameters.length) = some 2 := by decide +kernel
theorem hd_X12_isNote : yX12_isNote.cls = RX12 ∧ yX12_isNote.cls ≠ "java/lang/invoke/MethodHandle" ∧ yX12_isNote.cls ≠ "java/lang/invoke/VarHandle" ∧ (parseMethodDescriptor yX12_isNote.desc).map (fun d => d.parameters.length) = some 1 := by decide +kernel
theorem hd_X12_isNumber : yX12_isNumber.cls = RX12 ∧ yX12_isNumber.cls ≠ "java/lang/invoke/MethodHandle" ∧ yX12_isNumber.cls ≠ "java/lang/invoke/VarHandle" ∧ (parseMethodDescriptor yX12_isNumber.desc).map (fun d => d.parameters.length) = some 2 := by decide +kernel
theorem hd_X12_lesser : yX12_lesser.cls ≠ "java/lang/invoke/MethodHandle" ∧ yX12_lesser.cls ≠ "java/lang/invoke/VarHandle" ∧ (parseMethodDescriptor yX12_lesser.desc).map (fun d => d.parameters.length) = some 2 := by decide +kernel
theorem hd_X12_level : yX12_level.cls = RX12 ∧ yX12_level.cls ≠ "java/lang/invoke/MethodHandle" ∧ yX12_level.cls ≠ "java/lang/invoke/VarHandle" ∧ (parseMethodDescriptor yX12_level.desc).map (fun d => d.parameters.length) = some 3 := by decide +kernel
theorem hd_X12_levelAt : yX12_levelAt.cls = RX12 ∧ yX12_levelAt.cls ≠ "java/lang/invoke/MethodHandle" ∧ yX12_levelAt.cls ≠ "java/lang/invoke/VarHandle" ∧ (parseMethodDescriptor yX12_levelAt.desc).map (fun d => d.parameters.length) = some 1 := by decide +kernel
theorem hd_X12_levelBy : yX12_levelBy.cls = RX12 ∧ yX12_levelBy.cls ≠ "java/lang/invoke/MethodHandle" ∧ yX12_levelBy.cls ≠ "java/lang/invoke/VarHandle" ∧ (parseMethodDescriptor yX12_levelBy.desc).map (fun d => d.parameters.length) = some 2 := by decide +kernel
theorem hd_X12_longOf : yX12_longOf.cls = RX12 ∧ yX12_longOf.cls ≠ "java/lang/invoke/MethodHandle" ∧ yX12_longOf.cls ≠ "java/lang/invoke/VarHandle" ∧ (parseMethodDescriptor yX12_longOf.desc).map (fun d => d.parameters.length) = some 1 := by decide +kernel
theorem hd_X12_loudOf : yX12_loudOf.cls = RX12 ∧ yX12_loudOf.cls ≠ "java/lang/invoke/MethodHandle" ∧ yX12_loudOf.cls ≠ "java/lang/invoke/VarHandle" ∧ (parseMethodDescriptor yX12_loudOf.desc).map (fun d => d.parameters.length) = some 1 := by decide +kernel
theorem hd_X12_lowest : yX12_lowest.cls ≠ "java/lang/invoke/MethodHandle" ∧ yX12_lowest.cls ≠ "java/lang/invoke/VarHandle" ∧ (parseMethodDescriptor yX12_lowest.desc).map (fun d => d.parameters.length) = some 1 := by decide +kernel
theorem hd_X12_mark : yX12_mark.cls = RX12 ∧ yX12_mark.cls ≠ "java/lang/invoke/MethodHandle" ∧ yX12_mark.cls ≠ "java/lang/invoke/VarHandle" ∧ (parseMethodDescriptor yX12_mark.desc).map (fun d => d.parameters.length) = some 2 := by decide +kernel
theorem hd_X12_meter : yX12_meter.cls = RX12 ∧ yX12_meter.cls ≠ "java/lang/invoke/MethodHandle" ∧ yX12_meter.cls ≠ "java/lang/invoke/VarHandle" ∧ (parseMethodDescriptor yX12_meter.desc).map (fun d => d.parameters.length) = some 2 := by decide +kernel
theorem hd_X12_named : yX12_named.cls = RX12 ∧ yX12_named.cls ≠ "java/lang/invoke/MethodHandle" ∧ yX12_named.cls ≠ "java/lang/invoke/VarHandle" ∧ (parseMethodDescriptor yX12_named.desc).map (fun d => d.parameters.length) = some 0 := by decide +kernel
theorem hd_X12_note : yX12_note.cls = RX12 ∧ yX12_note.cls ≠ "java/lang/invoke/MethodHandle" ∧ yX12_note.cls ≠ "java/lang/invoke/VarHandle" ∧ (parseMethodDescriptor yX12_note.desc).map (fun d => d.parameters.length) = some 5 := by decide +kernel
theorem hd_X12_number : yX12_number.cls = RX12 ∧ yX12_number.cls ≠ "java/lang/invoke/MethodHandle" ∧ yX12_number.cls ≠ "java/lang/invoke/VarHandle" ∧ (parseMethodDescriptor yX12_number.desc).map (fun d => d.parameters.length) = some 2 := by decide +kernel
theorem hd_X12_onOf : yX12_onOf.cls = RX12 ∧ yX12_onOf.cls ≠ "java/lang/invoke/MethodHandle" ∧ yX12_onOf.cls ≠ "java/lang/invoke/VarHandle" ∧ (parseMethodDescriptor yX12_onOf.desc).map (fun d => d.parameters.length) = some 1 := by decide +kernel
theorem hd_X12_perform : yX12_perform.cls = RX12 ∧ yX12_perform.cls ≠ "java/lang/invoke/MethodHandle" ∧ yX12_perform.cls ≠ "java/lang/invoke/VarHandle" ∧ (parseMethodDescriptor yX12_perform.desc).map (fun d => d.parameters.length) = some 0 := by decide +kernel
theorem hd_X12_performNote : yX12_performNote.cls = RX12 ∧ yX12_performNote.cls ≠ "java/lang/invoke/MethodHandle" ∧ yX12_performNote.cls ≠ "java/lang/invoke/VarHandle" ∧ (parseMethodDescriptor yX12_performNote.desc).map (fun d => d.parameters.length) = some 1 := by decide +kernel
theorem hd_X12_plain : yX12_plain.cls = RX12 ∧ yX12_plain.cls ≠ "java/lang/invoke/MethodHandle" ∧ yX12_plain.cls ≠ "java/lang/invoke/VarHandle" ∧ (parseMethodDescriptor yX12_plain.desc).map (fun d => d.parameters.length) = some 0 := by decide +kernel
theorem hd_X12_read : yX12_read.cls = RX12 ∧ yX12_read.cls ≠ "java/lang/invoke/MethodHandle" ∧ yX12_read.cls ≠ "java/lang/invoke/VarHandle" ∧ (parseMethodDescriptor yX12_read.desc).map (fun d => d.parameters.length) = some 0 := by decide +kernel
theorem hd_X12_rolledAhead : yX12_rolledAhead.cls = RX12 ∧ yX12_rolledAhead.cls ≠ "java/lang/invoke/MethodHandle" ∧ yX12_rolledAhead.cls ≠ "java/lang/invoke/VarHandle" ∧ (parseMethodDescriptor yX12_rolledAhead.desc).map (fun d => d.parameters.length) = some 1 := by decide +kernel
theorem hd_X12_rule : yX12_rule.cls = RX12 ∧ yX12_rule.cls ≠ "java/lang/invoke/MethodHandle" ∧ yX12_rule.cls ≠ "java/lang/invoke/VarHandle" ∧ (parseMethodDescriptor yX12_rule.desc).map (fun d => d.parameters.length) = some 2 := by decide +kernel
theorem hd_X12_sounding : yX12_sounding.cls = RX12 ∧ yX12_sounding.cls ≠ "java/lang/invoke/MethodHandle" ∧ yX12_sounding.cls ≠ "java/lang/invoke/VarHandle" ∧ (parseMethodDescriptor yX12_sounding.desc).map (fun d => d.parameters.length) = some 1 := by decide +kernel
theorem hd_X12_sounds : yX12_sounds.cls = RX12 ∧ yX12_sounds.cls ≠ "java/lang/invoke/MethodHandle" ∧ yX12_sounds.cls ≠ "java/lang/invoke/VarHandle" ∧ (parseMethodDescriptor yX12_sounds.desc).map (fun d => d.parameters.length) = some 5 := by decide +kernel
theorem hd_X12_span : yX12_span.cls = RX12 ∧ yX12_span.cls ≠ "java/lang/invoke/MethodHandle" ∧ yX12_span.cls ≠ "java/lang/invoke/VarHandle" ∧ (parseMethodDescriptor yX12_span.desc).map (fun d => d.parameters.length) = some 2 := by decide +kernel
theorem hd_X12_take : yX12_take.cls = RX12 ∧ yX12_take.cls ≠ "java/lang/invoke/MethodHandle" ∧ yX12_take.cls ≠ "java/lang/invoke/VarHandle" ∧ (parseMethodDescriptor yX12_take.desc).map (fun d => d.parameters.length) = some 0 := by decide +kernel
theorem hd_X12_takeRule : yX12_takeRule.cls = RX12 ∧ yX12_takeRule.cls ≠ "java/lang/invoke/MethodHandle" ∧ yX12_takeRule.cls ≠ "java/lang/invoke/VarHandle" ∧ (parseMethodDescriptor yX12_takeRule.desc).map (fun d => d.parameters.length) = some 1 := by decide +kernel
theorem hd_X12_time : yX12_time.cls = RX12 ∧ yX12_time.cls ≠ "java/lang/invoke/MethodHandle" ∧ yX12_time.cls ≠ "java/lang/invoke/VarHandle" ∧ (parseMethodDescriptor yX12_time.desc).map (fun d => d.parameters.length) = some 1 := by decide +kernel
theorem hd_X12_timeOf : yX12_timeOf.cls = RX12 ∧ yX12_timeOf.cls ≠ "java/lang/invoke/MethodHandle" ∧ yX12_timeOf.cls ≠ "java/lang/invoke/VarHandle" ∧ (parseMethodDescriptor yX12_timeOf.desc).map (fun d => d.parameters.length) = some 1 := by decide +kernel
theorem hd_X12_trill : yX12_trill.cls = RX12 ∧ yX12_trill.cls ≠ "java/lang/invoke/MethodHandle" ∧ yX12_trill.cls ≠ "java/lang/invoke/VarHandle" ∧ (parseMethodDescriptor yX12_trill.desc).map (fun d => d.parameters.length) = some 3 := by decide +kernel
theorem hd_X12_usual : yX12_usual.cls ≠ "java/lang/invoke/MethodHandle" ∧ yX12_usual.cls ≠ "java/lang/invoke/VarHandle" ∧ (parseMethodDescriptor yX12_usual.desc).map (fun d => d.parameters.length) = some 1 := by decide +kernel
theorem hd_X12_value : yX12_value.cls = RX12 ∧ yX12_value.cls ≠ "java/lang/invoke/MethodHandle" ∧ yX12_value.cls ≠ "java/lang/invoke/VarHandle" ∧ (parseMethodDescriptor yX12_value.desc).map (fun d => d.parameters.length) = some 2 := by decide +kernel
theorem hd_X12_why : yX12_why.cls = RX12 ∧ yX12_why.cls ≠ "java/lang/invoke/MethodHandle" ∧ yX12_why.cls ≠ "java/lang/invoke/VarHandle" ∧ (parseMethodDescriptor yX12_why.desc).map (fun d => d.parameters.length) = some 2 := by decide +kernel
theorem hd_X12_word : yX12_word.cls ≠ "java/lang/invoke/MethodHandle" ∧ yX12_word.cls ≠ "java/lang/invoke/VarHandle" ∧ (parseMethodDescriptor yX12_word.desc).map (fun d => d.parameters.length) = some 6 := by decide +kernel
theorem hd_X12_wordOf : yX12_wordOf.cls ≠ "java/lang/invoke/MethodHandle" ∧ yX12_wordOf.cls ≠ "java/lang/invoke/VarHandle" ∧ (parseMethodDescriptor yX12_wordOf.desc).map (fun d => d.parameters.length) = some 1 := by decide +kernel
theorem hd_X1_add : yX1_add.cls = RX1 ∧ yX1_add.cls ≠ "java/lang/invoke/MethodHandle" ∧ yX1_add.cls ≠ "java/lang/invoke/VarHandle" ∧ (parseMethodDescriptor yX1_add.desc).map (fun d => d.parameters.length) = some 7 := by decide +kernel
theorem hd_X1_bend : yX1_bend.cls = RX1 ∧ yX1_bend.cls ≠ "java/lang/invoke/MethodHandle" ∧ yX1_bend.cls ≠ "java/lang/invoke/VarHandle" ∧ (parseMethodDescriptor yX1_bend.desc).map (fun d => d.parameters.length) = some 1 := by decide +kernel
theorem hd_X1_clear : yX1_clear.cls = RX1 ∧ yX1_clear.cls ≠ "java/lang/invoke/MethodHandle" ∧ yX1_clear.cls ≠ "java/lang/invoke/VarHandle" ∧ (parseMethodDescriptor yX1_clear.desc).map (fun d => d.parameters.length) = some 0 := by decide +kernel
theorem hd_X1_endAtRepeat : yX1_endAtRepeat.cls = RX1 ∧ yX1_endAtRepeat.cls ≠ "java/lang/invoke/MethodHandle" ∧ yX1_endAtRepeat.cls ≠ "java/lang/invoke/VarHandle" ∧ (parseMethodDescriptor yX1_endAtRepeat.desc).map (fun d => d.parameters.length) = some 1 := by decide +kernel
theorem hd_X1_endAtRepeats : yX1_endAtRepeats.cls = RX1 ∧ yX1_endAtRepeats.cls ≠ "java/lang/invoke/MethodHandle" ∧ yX1_endAtRepeats.cls ≠ "java/lang/invoke/VarHandle" ∧ (parseMethodDescriptor yX1_endAtRepeats.desc).map (fun d => d.parameters.length) = some 0 := by decide +kernel
theorem hd_X1_endOf : yX1_endOf.cls = RX1 ∧ yX1_endOf.cls ≠ "java/lang/invoke/MethodHandle" ∧ yX1_endOf.cls ≠ "java/lang/invoke/VarHandle" ∧ (parseMethodDescriptor yX1_endOf.desc).map (fun d => d.parameters.length) = some 1 := by decide +kernel
theorem hd_X1_firstBeginOf : yX1_firstBeginOf.cls = RX1 ∧ yX1_firstBeginOf.cls ≠ "java/lang/invoke/MethodHandle" ∧ yX1_firstBeginOf.cls ≠ "java/lang/invoke/VarHandle" ∧ (parseMethodDescriptor yX1_firstBeginOf.desc).map (fun d => d.parameters.length) = some 1 := by decide +kernel
theorem hd_X1_has : yX1_has.cls = RX1 ∧ yX1_has.cls ≠ "java/lang/invoke/MethodHandle" ∧ yX1_has.cls ≠ "java/lang/invoke/VarHandle" ∧ (parseMethodDescriptor yX1_has.desc).map (fun d => d.parameters.length) = some 1 := by decide +kernel
theorem hd_X1_howManyOf : yX1_howManyOf.cls = RX1 ∧ yX1_howManyOf.cls ≠ "java/lang/invoke/MethodHandle" ∧ yX1_howManyOf.cls ≠ "java/lang/invoke/VarHandle" ∧ (parseMethodDescriptor yX1_howManyOf.desc).map (fun d => d.parameters.length) = some 1 := by decide +kernel
theorem hd_X1_lastEndOf : yX1_lastEndOf.cls = RX1 ∧ yX1_lastEndOf.cls ≠ "java/lang/invoke/MethodHandle" ∧ yX1_lastEndOf.cls ≠ "java/lang/invoke/VarHandle" ∧ (parseMethodDescriptor yX1_lastEndOf.desc).map (fun d => d.parameters.length) = some 1 := by decide +kernel
theorem hd_X1_repeats : yX1_repeats.cls = RX1 ∧ yX1_repeats.cls ≠ "java/lang/invoke/MethodHandle" ∧ yX1_repeats.cls ≠ "java/lang/invoke/VarHandle" ∧ (parseMethodDescriptor yX1_repeats.desc).map (fun d => d.parameters.length) = some 2 := by decide +kernel
theorem hd_X1_soundingAt : yX1_soundingAt.cls = RX1 ∧ yX1_soundingAt.cls ≠ "java/lang/invoke/MethodHandle" ∧ yX1_soundingAt.cls ≠ "java/lang/invoke/VarHandle" ∧ (parseMethodDescriptor yX1_soundingAt.desc).map (fun d => d.parameters.length) = some 1 := by decide +kernel
theorem hd_X1_takeInOrder : yX1_takeInOrder.cls = RX1 ∧ yX1_takeInOrder.cls ≠ "java/lang/invoke/MethodHandle" ∧ yX1_takeInOrder.cls ≠ "java/lang/invoke/VarHandle" ∧ (parseMethodDescriptor yX1_takeInOrder.desc).map (fun d => d.parameters.length) = some 2 := by decide +kernel
theorem hd_X2_at : yX2_at.cls = RX2 ∧ yX2_at.cls ≠ "java/lang/invoke/MethodHandle" ∧ yX2_at.cls ≠ "java/lang/invoke/VarHandle" ∧ (parseMethodDescriptor yX2_at.desc).map (fun d => d.parameters.length) = some 1 := by decide +kernel
theorem hd_X2_moveUpFrom : yX2_moveUpFrom.cls = RX2 ∧ yX2_moveUpFrom.cls ≠ "java/lang/invoke/MethodHandle" ∧ yX2_moveUpFrom.cls ≠ "java/lang/invoke/VarHandle" ∧ (parseMethodDescriptor yX2_moveUpFrom.desc).map (fun d => d.parameters.length) = some 1 := by decide +kernel
theorem hd_X2_put : yX2_put.cls = RX2 ∧ yX2_put.cls ≠ "java/lang/invoke/MethodHandle" ∧ yX2_put.cls ≠ "java/lang/invoke/VarHandle" ∧ (parseMethodDescriptor yX2_put.desc).map (fun d => d.parameters.length) = some 3 := by decide +kernel
theorem hd_X3_has : yX3_has.cls ≠ "java/lang/invoke/MethodHandle" ∧ yX3_has.cls ≠ "java/lang/invoke/VarHandle" ∧ (parseMethodDescriptor yX3_has.desc).map (fun d => d.parameters.length) = some 1 := by decide +kernel
theorem hd_X3_wordOf : yX3_wordOf.cls ≠ "java/lang/invoke/MethodHandle" ∧ yX3_wordOf.cls ≠ "java/lang/invoke/VarHandle" ∧ (parseMethodDescriptor yX3_wordOf.desc).map (fun d => d.parameters.length) = some 1 := by decide +kernel
theorem hd_X4_add : yX4_add.cls = RX4 ∧ yX4_add.cls ≠ "java/lang/invoke/MethodHandle" ∧ yX4_add.cls ≠ "java/lang/invoke/VarHandle" ∧ (parseMethodDescriptor yX4_add.desc).map (fun d => d.parameters.length) = some 5 := by decide +kernel
theorem hd_X4_changeMarks : yX4_changeMarks.cls = RX4 ∧ yX4_changeMarks.cls ≠ "java/lang/invoke/MethodHandle" ∧ yX4_changeMarks.cls ≠ "java/lang/invoke/VarHandle" ∧ (parseMethodDescriptor yX4_changeMarks.desc).map (fun d => d.parameters.length) = some 2 := by decide +kernel
theorem hd_X4_has : yX4_has.cls = RX4 ∧ yX4_has.cls ≠ "java/lang/invoke/MethodHandle" ∧ yX4_has.cls ≠ "java/lang/invoke/VarHandle" ∧ (parseMethodDescriptor yX4_has.desc).map (fun d => d.parameters.length) = some 1 := by decide +kernel
theorem hd_X4_isInChord : yX4_isInChord.cls = RX4 ∧ yX4_isInChord.cls ≠ "java/lang/invoke/MethodHandle" ∧ yX4_isInChord.cls ≠ "java/lang/invoke/VarHandle" ∧ (parseMethodDescriptor yX4_isInChord.desc).map (fun d => d.parameters.length) = some 2 := by decide +kernel
theorem hd_X4_isLower : yX4_isLower.cls = RX4 ∧ yX4_isLower.cls ≠ "java/lang/invoke/MethodHandle" ∧ yX4_isLower.cls ≠ "java/lang/invoke/VarHandle" ∧ (parseMethodDescriptor yX4_isLower.desc).map (fun d => d.parameters.length) = some 2 := by decide +kernel
theorem hd_X4_rolledAhead : yX4_rolledAhead.cls = RX4 ∧ yX4_rolledAhead.cls ≠ "java/lang/invoke/MethodHandle" ∧ yX4_rolledAhead.cls ≠ "java/lang/invoke/VarHandle" ∧ (parseMethodDescriptor yX4_rolledAhead.desc).map (fun d => d.parameters.length) = some 1 := by decide +kernel
theorem hd_X5_keyOf : yX5_keyOf.cls ≠ "java/lang/invoke/MethodHandle" ∧ yX5_keyOf.cls ≠ "java/lang/invoke/VarHandle" ∧ (parseMethodDescriptor yX5_keyOf.desc).map (fun d => d.parameters.length) = some 2 := by decide +kernel
theorem hd_X5_merge : yX5_merge.cls = RX5 ∧ yX5_merge.cls ≠ "java/lang/invoke/MethodHandle" ∧ yX5_merge.cls ≠ "java/lang/invoke/VarHandle" ∧ (parseMethodDescriptor yX5_merge.desc).map (fun d => d.parameters.length) = some 3 := by decide +kernel
theorem hd_X5_partAt : yX5_partAt.cls = RX5 ∧ yX5_partAt.cls ≠ "java/lang/invoke/MethodHandle" ∧ yX5_partAt.cls ≠ "java/lang/invoke/VarHandle" ∧ (parseMethodDescriptor yX5_partAt.desc).map (fun d => d.parameters.length) = some 1 := by decide +kernel
theorem hd_X5_sort : yX5_sort.cls = RX5 ∧ yX5_sort.cls ≠ "java/lang/invoke/MethodHandle" ∧ yX5_sort.cls ≠ "java/lang/invoke/VarHandle" ∧ (parseMethodDescriptor yX5_sort.desc).map (fun d => d.parameters.length) = some 1 := by decide +kernel
theorem hd_X6_addLean : yX6_addLean.cls = RX6 ∧ yX6_addLean.cls ≠ "java/lang/invoke/MethodHandle" ∧ yX6_addLean.cls ≠ "java/lang/invoke/VarHandle" ∧ (parseMethodDescriptor yX6_addLean.desc).map (fun d => d.parameters.length) = some 1 := by decide +kernel
theorem hd_X6_addPart : yX6_addPart.cls = RX6 ∧ yX6_addPart.cls ≠ "java/lang/invoke/MethodHandle" ∧ yX6_addPart.cls ≠ "java/lang/invoke/VarHandle" ∧ (parseMethodDescriptor yX6_addPart.desc).map (fun d => d.parameters.length) = some 4 := by decide +kernel
theorem hd_X6_addParts : yX6_addParts.cls = RX6 ∧ yX6_addParts.cls ≠ "java/lang/invoke/MethodHandle" ∧ yX6_addParts.cls ≠ "java/lang/invoke/VarHandle" ∧ (parseMethodDescriptor yX6_addParts.desc).map (fun d => d.parameters.length) = some 2 := by decide +kernel
theorem hd_X6_addTrill : yX6_addTrill.cls = RX6 ∧ yX6_addTrill.cls ≠ "java/lang/invoke/MethodHandle" ∧ yX6_addTrill.cls ≠ "java/lang/invoke/VarHandle" ∧ (parseMethodDescriptor yX6_addTrill.desc).map (fun d => d.parameters.length) = some 1 := by decide +kernel
theorem hd_X6_addTurn : yX6_addTurn.cls = RX6 ∧ yX6_addTurn.cls ≠ "java/lang/invoke/MethodHandle" ∧ yX6_addTurn.cls ≠ "java/lang/invoke/VarHandle" ∧ (parseMethodDescriptor yX6_addTurn.desc).map (fun d => d.parameters.length) = some 1 := by decide +kernel
theorem hd_X6_drawOf : yX6_drawOf.cls = RX6 ∧ yX6_drawOf.cls ≠ "java/lang/invoke/MethodHandle" ∧ yX6_drawOf.cls ≠ "java/lang/invoke/VarHandle" ∧ (parseMethodDescriptor yX6_drawOf.desc).map (fun d => d.parameters.length) = some 2 := by decide +kernel
theorem hd_X6_isMarked : yX6_isMarked.cls = RX6 ∧ yX6_isMarked.cls ≠ "java/lang/invoke/MethodHandle" ∧ yX6_isMarked.cls ≠ "java/lang/invoke/VarHandle" ∧ (parseMethodDescriptor yX6_isMarked.desc).map (fun d => d.parameters.length) = some 1 := by decide +kernel
theorem hd_X6_longOf : yX6_longOf.cls = RX6 ∧ yX6_longOf.cls ≠ "java/lang/invoke/MethodHandle" ∧ yX6_longOf.cls ≠ "java/lang/invoke/VarHandle" ∧ (parseMethodDescriptor yX6_longOf.desc).map (fun d => d.parameters.length) = some 2 := by decide +kernel
theorem hd_X6_loudOf : yX6_loudOf.cls = RX6 ∧ yX6_loudOf.cls ≠ "java/lang/invoke/MethodHandle" ∧ yX6_loudOf.cls ≠ "java/lang/invoke/VarHandle" ∧ (parseMethodDescriptor yX6_loudOf.desc).map (fun d => d.parameters.length) = some 3 := by decide +kernel
theorem hd_X6_makeParts : yX6_makeParts.cls = RX6 ∧ yX6_makeParts.cls ≠ "java/lang/invoke/MethodHandle" ∧ yX6_makeParts.cls ≠ "java/lang/invoke/VarHandle" ∧ (parseMethodDescriptor yX6_makeParts.desc).map (fun d => d.parameters.length) = some 3 := by decide +kernel
theorem hd_X6_onOf : yX6_onOf.cls = RX6 ∧ yX6_onOf.cls ≠ "java/lang/invoke/MethodHandle" ∧ yX6_onOf.cls ≠ "java/lang/invoke/VarHandle" ∧ (parseMethodDescriptor yX6_onOf.desc).map (fun d => d.parameters.length) = some 3 := by decide +kernel
theorem hd_X6_roll : yX6_roll.cls = RX6 ∧ yX6_roll.cls ≠ "java/lang/invoke/MethodHandle" ∧ yX6_roll.cls ≠ "java/lang/invoke/VarHandle" ∧ (parseMethodDescriptor yX6_roll.desc).map (fun d => d.parameters.length) = some 2 := by decide +kernel
theorem hd_X6_takeNote : yX6_takeNote.cls = RX6 ∧ yX6_takeNote.cls ≠ "java/lang/invoke/MethodHandle" ∧ yX6_takeNote.cls ≠ "java/lang/invoke/VarHandle" ∧ (parseMethodDescriptor yX6_takeNote.desc).map (fun d => d.parameters.length) = some 2 := by decide +kernel
theorem hd_X7_findFault : yX7_findFault.cls = RX7 ∧ yX7_findFault.cls ≠ "java/lang/invoke/MethodHandle" ∧ yX7_findFault.cls ≠ "java/lang/invoke/VarHandle" ∧ (parseMethodDescriptor yX7_findFault.desc).map (fun d => d.parameters.length) = some 2 := by decide +kernel
theorem hd_X7_isWord : yX7_isWord.cls = RX7 ∧ yX7_isWord.cls ≠ "java/lang/invoke/MethodHandle" ∧ yX7_isWord.cls ≠ "java/lang/invoke/VarHandle" ∧ (parseMethodDescriptor yX7_isWord.desc).map (fun d => d.parameters.length) = some 2 := by decide +kernel
theorem hd_X7_kindAt : yX7_kindAt.cls ≠ "java/lang/invoke/MethodHandle" ∧ yX7_kindAt.cls ≠ "java/lang/invoke/VarHandle" ∧ (parseMethodDescriptor yX7_kindAt.desc).map (fun d => d.parameters.length) = some 2 := by decide +kernel
theorem hd_X7_nameThere : yX7_nameThere.cls = RX7 ∧ yX7_nameThere.cls ≠ "java/lang/invoke/MethodHandle" ∧ yX7_nameThere.cls ≠ "java/lang/invoke/VarHandle" ∧ (parseMethodDescriptor yX7_nameThere.desc).map (fun d => d.parameters.length) = some 1 := by decide +kernel
theorem hd_X7_takeNumber : yX7_takeNumber.cls = RX7 ∧ yX7_takeNumber.cls ≠ "java/lang/invoke/MethodHandle" ∧ yX7_takeNumber.cls ≠ "java/lang/invoke/VarHandle" ∧ (parseMethodDescriptor yX7_takeNumber.desc).map (fun d => d.parameters.length) = some 3 := by decide +kernel
theorem hd_X7_takePiece : yX7_takePiece.cls = RX7 ∧ yX7_takePiece.cls ≠ "java/lang/invoke/MethodHandle" ∧ yX7_takePiece.cls ≠ "java/lang/invoke/VarHandle" ∧ (parseMethodDescriptor yX7_takePiece.desc).map (fun d => d.parameters.length) = some 1 := by decide +kernel
theorem hd_X7_takeRule : yX7_takeRule.cls = RX7 ∧ yX7_takeRule.cls ≠ "java/lang/invoke/MethodHandle" ∧ yX7_takeRule.cls ≠ "java/lang/invoke/VarHandle" ∧ (parseMethodDescriptor yX7_takeRule.desc).map (fun d => d.parameters.length) = some 2 := by decide +kernel
theorem hd_X8_areFull : yX8_areFull.cls = RX8 ∧ yX8_areFull.cls ≠ "java/lang/invoke/MethodHandle" ∧ yX8_areFull.cls ≠ "java/lang/invoke/VarHandle" ∧ (parseMethodDescriptor yX8_areFull.desc).map (fun d => d.parameters.length) = some 0 := by decide +kernel
theorem hd_X8_clear : yX8_clear.cls = RX8 ∧ yX8_clear.cls ≠ "java/lang/invoke/MethodHandle" ∧ yX8_clear.cls ≠ "java/lang/invoke/VarHandle" ∧ (parseMethodDescriptor yX8_clear.desc).map (fun d => d.parameters.length) = some 0 := by decide +kernel
theorem hd_X8_countingFor : yX8_countingFor.cls = RX8 ∧ yX8_countingFor.cls ≠ "java/lang/invoke/MethodHandle" ∧ yX8_countingFor.cls ≠ "java/lang/invoke/VarHandle" ∧ (parseMethodDescriptor yX8_countingFor.desc).map (fun d => d.parameters.length) = some 2 := by decide +kernel
theorem hd_X8_dropStaged : yX8_dropStaged.cls = RX8 ∧ yX8_dropStaged.cls ≠ "java/lang/invoke/MethodHandle" ∧ yX8_dropStaged.cls ≠ "java/lang/invoke/VarHandle" ∧ (parseMethodDescriptor yX8_dropStaged.desc).map (fun d => d.parameters.length) = some 0 := by decide +kernel
theorem hd_X8_has : yX8_has.cls = RX8 ∧ yX8_has.cls ≠ "java/lang/invoke/MethodHandle" ∧ yX8_has.cls ≠ "java/lang/invoke/VarHandle" ∧ (parseMethodDescriptor yX8_has.desc).map (fun d => d.parameters.length) = some 1 := by decide +kernel
theorem hd_X8_isOutrankedBy : yX8_isOutrankedBy.cls = RX8 ∧ yX8_isOutrankedBy.cls ≠ "java/lang/invoke/MethodHandle" ∧ yX8_isOutrankedBy.cls ≠ "java/lang/invoke/VarHandle" ∧ (parseMethodDescriptor yX8_isOutrankedBy.desc).map (fun d => d.parameters.length) = some 2 := by decide +kernel
theorem hd_X8_keepStaged : yX8_keepStaged.cls = RX8 ∧ yX8_keepStaged.cls ≠ "java/lang/invoke/MethodHandle" ∧ yX8_keepStaged.cls ≠ "java/lang/invoke/VarHandle" ∧ (parseMethodDescriptor yX8_keepStaged.desc).map (fun d => d.parameters.length) = some 0 := by decide +kernel
theorem hd_X8_letCount : yX8_letCount.cls = RX8 ∧ yX8_letCount.cls ≠ "java/lang/invoke/MethodHandle" ∧ yX8_letCount.cls ≠ "java/lang/invoke/VarHandle" ∧ (parseMethodDescriptor yX8_letCount.desc).map (fun d => d.parameters.length) = some 1 := by decide +kernel
theorem hd_X8_numberFor : yX8_numberFor.cls = RX8 ∧ yX8_numberFor.cls ≠ "java/lang/invoke/MethodHandle" ∧ yX8_numberFor.cls ≠ "java/lang/invoke/VarHandle" ∧ (parseMethodDescriptor yX8_numberFor.desc).map (fun d => d.parameters.length) = some 2 := by decide +kernel
theorem hd_X8_stage : yX8_stage.cls = RX8 ∧ yX8_stage.cls ≠ "java/lang/invoke/MethodHandle" ∧ yX8_stage.cls ≠ "java/lang/invoke/VarHandle" ∧ (parseMethodDescriptor yX8_stage.desc).map (fun d => d.parameters.length) = some 4 := by decide +kernel
theorem hd_X9_beat : yX9_beat.cls = RX9 ∧ yX9_beat.cls ≠ "java/lang/invoke/MethodHandle" ∧ yX9_beat.cls ≠ "java/lang/invoke/VarHandle" ∧ (parseMethodDescriptor yX9_beat.desc).map (fun d => d.parameters.length) = some 2 := by decide +kernel
theorem hd_X9_beginsBar : yX9_beginsBar.cls = RX9 ∧ yX9_beginsBar.cls ≠ "java/lang/invoke/MethodHandle" ∧ yX9_beginsBar.cls ≠ "java/lang/invoke/VarHandle" ∧ (parseMethodDescriptor yX9_beginsBar.desc).map (fun d => d.parameters.length) = some 1 := by decide +kernel
theorem hd_X9_beginsBeat : yX9_beginsBeat.cls = RX9 ∧ yX9_beginsBeat.cls ≠ "java/lang/invoke/MethodHandle" ∧ yX9_beginsBeat.cls ≠ "java/lang/invoke/VarHandle" ∧ (parseMethodDescriptor yX9_beginsBeat.desc).map (fun d => d.parameters.length) = some 1 := by decide +kernel
theorem hd_X9_isMultiple : yX9_isMultiple.cls ≠ "java/lang/invoke/MethodHandle" ∧ yX9_isMultiple.cls ≠ "java/lang/invoke/VarHandle" ∧ (parseMethodDescriptor yX9_isMultiple.desc).map (fun d => d.parameters.length) = some 2 := by decide +kernel
theorem k21_X0_add : (.fieldLink RX0 21 "StyleRows$Arcs" "howMany" "I" : Cond) ∈ wsX0_add := List.mem_of_getElem? (i := 1) rfl
theorem in_X0_X0_add : ∀ w ∈ u_ws RX0 TX0 4, w ∈ wsX0_add := mem_drop 5 rfl
theorem k11_X0_add : (.fieldLink RX0 11 "StyleRows$Arcs" "froms" "[I" : Cond) ∈ wsX0_add := List.mem_of_getElem? (i := 2) rfl
theorem k15_X0_add : (.fieldLink RX0 15 "StyleRows$Arcs" "tos" "[I" : Cond) ∈ wsX0_add := List.mem_of_getElem? (i := 3) rfl
theorem k18_X0_add : (.fieldLink RX0 18 "StyleRows$Arcs" "bys" "[I" : Cond) ∈ wsX0_add := List.mem_of_getElem? (i := 4) rfl
theorem k21_X0_bent : (.fieldLink RX0 21 "StyleRows$Arcs" "howMany" "I" : Cond) ∈ wsX0_bent := List.mem_of_getElem? (i := 1) rfl
theorem in_X0_X0_bent : ∀ w ∈ u_ws RX0 TX0 4, w ∈ wsX0_bent := mem_drop 15 rfl
theorem k11_X0_bent : (.fieldLink RX0 11 "StyleRows$Arcs" "froms" "[I" : Cond) ∈ wsX0_bent := List.mem_of_getElem? (i := 2) rfl
theorem k15_X0_bent : (.fieldLink RX0 15 "StyleRows$Arcs" "tos" "[I" : Cond) ∈ wsX0_bent := List.mem_of_getElem? (i := 3) rfl
theorem kiniX11_X0_bent : (.initialized RX11 : Cond) ∈ wsX0_bent := List.mem_of_getElem? (i := 7) rfl
theorem kstX11_isWithin_X0_bent : (.static yX11_isWithin : Cond) ∈ wsX0_bent := List.mem_of_getElem? (i := 6) rfl
theorem k38_X0_bent : (.constantLong RX0 38 (4) : Cond) ∈ wsX0_bent := List.mem_of_getElem? (i := 4) rfl
theorem k18_X0_bent : (.fieldLink RX0 18 "StyleRows$Arcs" "bys" "[I" : Cond) ∈ wsX0_bent := List.mem_of_getElem? (i := 5) rfl
theorem kstX11_quotient_X0_bent : (.static yX11_quotient : Cond) ∈ wsX0_bent := List.mem_of_getElem? (i := 9) rfl
theorem k21_X0_shareWith : (.fieldLink RX0 21 "StyleRows$Arcs" "howMany" "I" : Cond) ∈ wsX0_shareWith := List.mem_of_getElem? (i := 1) rfl
theorem in_X0_X0_shareWith : ∀ w ∈ u_ws RX0 TX0 4, w ∈ wsX0_shareWith := mem_drop 11 rfl
theorem k11_X0_shareWith : (.fieldLink RX0 11 "StyleRows$Arcs" "froms" "[I" : Cond) ∈ wsX0_shareWith := List.mem_of_getElem? (i := 2) rfl
theorem k25_X0_shareWith : (.methodLink RX0 25 Lib.Math.max.name : Cond) ∈ wsX0_shareWith := List.mem_of_getElem? (i := 3) rfl
theorem kstmax_X0_shareWith : (.static Lib.Math.max.name : Cond) ∈ wsX0_shareWith := List.mem_of_getElem? (i := 4) rfl
theorem kini_X0_shareWith : (.initialized "java/lang/Math" : Cond) ∈ wsX0_shareWith := List.mem_of_getElem? (i := 5) rfl
theorem kcomax_X0_shareWith : (.code Lib.Math.max.name Lib.Math.max.code 2 (some .int) : Cond) ∈ wsX0_shareWith := List.mem_of_getElem? (i := 6) rfl
theorem k15_X0_shareWith : (.fieldLink RX0 15 "StyleRows$Arcs" "tos" "[I" : Cond) ∈ wsX0_shareWith := List.mem_of_getElem? (i := 7) rfl
theorem k31_X0_shareWith : (.methodLink RX0 31 Lib.Math.min.name : Cond) ∈ wsX0_shareWith := List.mem_of_getElem? (i := 8) rfl
theorem kstmin_X0_shareWith : (.static Lib.Math.min.name : Cond) ∈ wsX0_shareWith := List.mem_of_getElem? (i := 9) rfl
theorem kcomin_X0_shareWith : (.code Lib.Math.min.name Lib.Math.min.code 2 (some .int) : Cond) ∈ wsX0_shareWith := List.mem_of_getElem? (i := 10) rfl
theorem k15_X10_append : (.fieldLink RX10 15 "StyleRows$Tape" "length" "I" : Cond) ∈ wsX10_append := List.mem_of_getElem? (i := 1) rfl
theorem in_X10_X10_append : ∀ w ∈ u_ws RX10 TX10 2, w ∈ wsX10_append := mem_drop 3 rfl
theorem k11_X10_append : (.fieldLink RX10 11 "StyleRows$Tape" "bytes" "[B" : Cond) ∈ wsX10_append := List.mem_of_getElem? (i := 2) rfl
theorem k15_X10_at : (.fieldLink RX10 15 "StyleRows$Tape" "length" "I" : Cond) ∈ wsX10_at := List.mem_of_getElem? (i := 1) rfl
theorem in_X10_X10_at : ∀ w ∈ u_ws RX10 TX10 2, w ∈ wsX10_at := mem_drop 3 rfl
theorem k11_X10_at : (.fieldLink RX10 11 "StyleRows$Tape" "bytes" "[B" : Cond) ∈ wsX10_at := List.mem_of_getElem? (i := 2) rfl
theorem k15_X10_clear : (.fieldLink RX10 15 "StyleRows$Tape" "length" "I" : Cond) ∈ wsX10_clear := List.mem_of_getElem? (i := 1) rfl
theorem in_X10_X10_clear : ∀ w ∈ u_ws RX10 TX10 2, w ∈ wsX10_clear := mem_drop 2 rfl
theorem k16_X11_arc : (.fieldLink RX11 16 "StyleRows" "score" "LStyleRows$Score;" : Cond) ∈ wsX11_arc := List.mem_of_getElem? (i := 1) rfl
theorem in_X11_X11_arc : ∀ w ∈ u_ws RX11 TX11 8, w ∈ wsX11_arc := mem_drop 29 rfl
theorem in_X9_X11_arc : ∀ w ∈ u_ws RX9 TX9 5, w ∈ wsX11_arc := mem_drop 37 rfl
theorem k16_X11_count : (.fieldLink RX11 16 "StyleRows" "score" "LStyleRows$Score;" : Cond) ∈ wsX11_count := List.mem_of_getElem? (i := 1) rfl
theorem in_X11_X11_count : ∀ w ∈ u_ws RX11 TX11 8, w ∈ wsX11_count := mem_drop 5 rfl
theorem in_X9_X11_count : ∀ w ∈ u_ws RX9 TX9 5, w ∈ wsX11_count := mem_drop 13 rfl
theorem in_X4_X11_count : ∀ w ∈ u_ws RX4 TX4 6, w ∈ wsX11_count := mem_drop 18 rfl
theorem in_X2_X11_count : ∀ w ∈ u_ws RX2 TX2 4, w ∈ wsX11_count := mem_drop 24 rfl
theorem in_X0_X11_count : ∀ w ∈ u_ws RX0 TX0 4, w ∈ wsX11_count := mem_drop 28 rfl
theorem k30_X11_count : (.fieldLink RX11 30 "StyleRows" "rules" "LStyleRows$Rules;" : Cond) ∈ wsX11_count := List.mem_of_getElem? (i := 2) rfl
theorem in_X8_X11_count : ∀ w ∈ u_ws RX8 TX8 4, w ∈ wsX11_count := mem_drop 32 rfl
theorem k58_X11_count : (.fieldLink RX11 58 "StyleRows" "events" "LStyleRows$Events;" : Cond) ∈ wsX11_count := List.mem_of_getElem? (i := 3) rfl
theorem in_X1_X11_count : ∀ w ∈ u_ws RX1 TX1 3, w ∈ wsX11_count := mem_drop 36 rfl
theorem k23_X11_count : (.fieldLink RX11 23 "StyleRows" "tape" "LStyleRows$Tape;" : Cond) ∈ wsX11_count := List.mem_of_getElem? (i := 4) rfl
theorem in_X10_X11_count : ∀ w ∈ u_ws RX10 TX10 2, w ∈ wsX11_count := mem_drop 39 rfl
theorem k16_X1_has : (.fieldLink RX1 16 "StyleRows$Events" "howMany" "I" : Cond) ∈ wsX1_has := List.mem_of_getElem? (i := 1) rfl
theorem in_X1_X1_has : ∀ w ∈ u_ws RX1 TX1 3, w ∈ wsX1_has := mem_drop 5 rfl
theorem kiniX11_X1_has : (.initialized RX11 : Cond) ∈ wsX1_has := List.mem_of_getElem? (i := 3) rfl
theorem kstX11_isWithin_X1_has : (.static yX11_isWithin : Cond) ∈ wsX1_has := List.mem_of_getElem? (i := 2) rfl
theorem k58_X11_event : (.fieldLink RX11 58 "StyleRows" "events" "LStyleRows$Events;" : Cond) ∈ wsX11_event := List.mem_of_getElem? (i := 1) rfl
theorem in_X11_X11_event : ∀ w ∈ u_ws RX11 TX11 8, w ∈ wsX11_event := mem_drop 12 rfl
theorem in_X1_X11_event : ∀ w ∈ u_ws RX1 TX1 3, w ∈ wsX11_event := mem_drop 20 rfl
theorem k23_X11_feed : (.fieldLink RX11 23 "StyleRows" "tape" "LStyleRows$Tape;" : Cond) ∈ wsX11_feed := List.mem_of_getElem? (i := 1) rfl
theorem in_X11_X11_feed : ∀ w ∈ u_ws RX11 TX11 8, w ∈ wsX11_feed := mem_drop 13 rfl
theorem k22_X2_moveUpFrom : (.fieldLink RX2 22 "StyleRows$Levels" "howMany" "I" : Cond) ∈ wsX2_moveUpFrom := List.mem_of_getElem? (i := 1) rfl
theorem in_X2_X2_moveUpFrom : ∀ w ∈ u_ws RX2 TX2 4, w ∈ wsX2_moveUpFrom := mem_drop 5 rfl
theorem k11_X2_moveUpFrom : (.fieldLink RX2 11 "StyleRows$Levels" "ticks" "[I" : Cond) ∈ wsX2_moveUpFrom := List.mem_of_getElem? (i := 2) rfl
theorem k15_X2_moveUpFrom : (.fieldLink RX2 15 "StyleRows$Levels" "heights" "[I" : Cond) ∈ wsX2_moveUpFrom := List.mem_of_getElem? (i := 3) rfl
theorem k18_X2_moveUpFrom : (.fieldLink RX2 18 "StyleRows$Levels" "swelling" "[Z" : Cond) ∈ wsX2_moveUpFrom := List.mem_of_getElem? (i := 4) rfl
theorem k22_X2_put : (.fieldLink RX2 22 "StyleRows$Levels" "howMany" "I" : Cond) ∈ wsX2_put := List.mem_of_getElem? (i := 1) rfl
theorem in_X2_X2_put : ∀ w ∈ u_ws RX2 TX2 4, w ∈ wsX2_put := mem_drop 10 rfl
theorem k11_X2_put : (.fieldLink RX2 11 "StyleRows$Levels" "ticks" "[I" : Cond) ∈ wsX2_put := List.mem_of_getElem? (i := 2) rfl
theorem k15_X2_put : (.fieldLink RX2 15 "StyleRows$Levels" "heights" "[I" : Cond) ∈ wsX2_put := List.mem_of_getElem? (i := 3) rfl
theorem k18_X2_put : (.fieldLink RX2 18 "StyleRows$Levels" "swelling" "[Z" : Cond) ∈ wsX2_put := List.mem_of_getElem? (i := 4) rfl
theorem k16_X11_level : (.fieldLink RX11 16 "StyleRows" "score" "LStyleRows$Score;" : Cond) ∈ wsX11_level := List.mem_of_getElem? (i := 1) rfl
theorem in_X11_X11_level : ∀ w ∈ u_ws RX11 TX11 8, w ∈ wsX11_level := mem_drop 22 rfl
theorem in_X9_X11_level : ∀ w ∈ u_ws RX9 TX9 5, w ∈ wsX11_level := mem_drop 30 rfl
theorem k22_X2_at : (.fieldLink RX2 22 "StyleRows$Levels" "howMany" "I" : Cond) ∈ wsX2_at := List.mem_of_getElem? (i := 1) rfl
theorem in_X2_X2_at : ∀ w ∈ u_ws RX2 TX2 4, w ∈ wsX2_at := mem_drop 12 rfl
theorem k15_X2_at : (.fieldLink RX2 15 "StyleRows$Levels" "heights" "[I" : Cond) ∈ wsX2_at := List.mem_of_getElem? (i := 4) rfl
theorem k18_X2_at : (.fieldLink RX2 18 "StyleRows$Levels" "swelling" "[Z" : Cond) ∈ wsX2_at := List.mem_of_getElem? (i := 3) rfl
theorem k11_X2_at : (.fieldLink RX2 11 "StyleRows$Levels" "ticks" "[I" : Cond) ∈ wsX2_at := List.mem_of_getElem? (i := 2) rfl
theorem kiniX11_X2_at : (.initialized RX11 : Cond) ∈ wsX2_at := List.mem_of_getElem? (i := 6) rfl
theorem kstX11_quotient_X2_at : (.static yX11_quotient : Cond) ∈ wsX2_at := List.mem_of_getElem? (i := 5) rfl
theorem k16_X11_levelAt : (.fieldLink RX11 16 "StyleRows" "score" "LStyleRows$Score;" : Cond) ∈ wsX11_levelAt := List.mem_of_getElem? (i := 1) rfl
theorem in_X11_X11_levelAt : ∀ w ∈ u_ws RX11 TX11 8, w ∈ wsX11_levelAt := mem_drop 24 rfl
theorem in_X9_X11_levelAt : ∀ w ∈ u_ws RX9 TX9 5, w ∈ wsX11_levelAt := mem_drop 32 rfl
theorem k27_X4_has : (.fieldLink RX4 27 "StyleRows$Notes" "howMany" "I" : Cond) ∈ wsX4_has := List.mem_of_getElem? (i := 1) rfl
theorem in_X4_X4_has : ∀ w ∈ u_ws RX4 TX4 6, w ∈ wsX4_has := mem_drop 5 rfl
theorem kiniX11_X4_has : (.initialized RX11 : Cond) ∈ wsX4_has := List.mem_of_getElem? (i := 3) rfl
theorem kstX11_isWithin_X4_has : (.static yX11_isWithin : Cond) ∈ wsX4_has := List.mem_of_getElem? (i := 2) rfl
theorem k24_X4_changeMarks : (.fieldLink RX4 24 "StyleRows$Notes" "marks" "[I" : Cond) ∈ wsX4_changeMarks := List.mem_of_getElem? (i := 1) rfl
theorem in_X4_X4_changeMarks : ∀ w ∈ u_ws RX4 TX4 6, w ∈ wsX4_changeMarks := mem_drop 2 rfl
theorem k16_X11_mark : (.fieldLink RX11 16 "StyleRows" "score" "LStyleRows$Score;" : Cond) ∈ wsX11_mark := List.mem_of_getElem? (i := 1) rfl
theorem in_X11_X11_mark : ∀ w ∈ u_ws RX11 TX11 8, w ∈ wsX11_mark := mem_drop 17 rfl
theorem in_X9_X11_mark : ∀ w ∈ u_ws RX9 TX9 5, w ∈ wsX11_mark := mem_drop 25 rfl
theorem k30_X9_beat : (.fieldLink RX9 30 "StyleRows$Score" "beats" "I" : Cond) ∈ wsX9_beat := List.mem_of_getElem? (i := 1) rfl
theorem in_X9_X9_beat : ∀ w ∈ u_ws RX9 TX9 5, w ∈ wsX9_beat := mem_drop 3 rfl
theorem k34_X9_beat : (.fieldLink RX9 34 "StyleRows$Score" "unit" "I" : Cond) ∈ wsX9_beat := List.mem_of_getElem? (i := 2) rfl
theorem k16_X11_meter : (.fieldLink RX11 16 "StyleRows" "score" "LStyleRows$Score;" : Cond) ∈ wsX11_meter := List.mem_of_getElem? (i := 1) rfl
theorem in_X11_X11_meter : ∀ w ∈ u_ws RX11 TX11 8, w ∈ wsX11_meter := mem_drop 13 rfl
theorem k27_X4_add : (.fieldLink RX4 27 "StyleRows$Notes" "howMany" "I" : Cond) ∈ wsX4_add := List.mem_of_getElem? (i := 1) rfl
theorem in_X4_X4_add : ∀ w ∈ u_ws RX4 TX4 6, w ∈ wsX4_add := mem_drop 7 rfl
theorem k11_X4_add : (.fieldLink RX4 11 "StyleRows$Notes" "voices" "[I" : Cond) ∈ wsX4_add := List.mem_of_getElem? (i := 2) rfl
theorem k15_X4_add : (.fieldLink RX4 15 "StyleRows$Notes" "starts" "[I" : Cond) ∈ wsX4_add := List.mem_of_getElem? (i := 3) rfl
theorem k18_X4_add : (.fieldLink RX4 18 "StyleRows$Notes" "lengths" "[I" : Cond) ∈ wsX4_add := List.mem_of_getElem? (i := 4) rfl
theorem k21_X4_add : (.fieldLink RX4 21 "StyleRows$Notes" "pitches" "[I" : Cond) ∈ wsX4_add := List.mem_of_getElem? (i := 5) rfl
theorem k24_X4_add : (.fieldLink RX4 24 "StyleRows$Notes" "marks" "[I" : Cond) ∈ wsX4_add := List.mem_of_getElem? (i := 6) rfl
theorem k16_X11_note : (.fieldLink RX11 16 "StyleRows" "score" "LStyleRows$Score;" : Cond) ∈ wsX11_note := List.mem_of_getElem? (i := 1) rfl
theorem in_X11_X11_note : ∀ w ∈ u_ws RX11 TX11 8, w ∈ wsX11_note := mem_drop 20 rfl
theorem in_X9_X11_note : ∀ w ∈ u_ws RX9 TX9 5, w ∈ wsX11_note := mem_drop 28 rfl
theorem k16_X1_clear : (.fieldLink RX1 16 "StyleRows$Events" "howMany" "I" : Cond) ∈ wsX1_clear := List.mem_of_getElem? (i := 1) rfl
theorem in_X1_X1_clear : ∀ w ∈ u_ws RX1 TX1 3, w ∈ wsX1_clear := mem_drop 3 rfl
theorem k20_X1_clear : (.fieldLink RX1 20 "StyleRows$Events" "tooMany" "Z" : Cond) ∈ wsX1_clear := List.mem_of_getElem? (i := 2) rfl
theorem k71_X6_takeNote : (.fieldLink RX6 71 "StyleRows$Performer" "note" "I" : Cond) ∈ wsX6_takeNote := List.mem_of_getElem? (i := 1) rfl
theorem in_X6_X6_takeNote : ∀ w ∈ u_ws RX6 TX6 8, w ∈ wsX6_takeNote := mem_drop 5 rfl
theorem in_X4_X6_takeNote : ∀ w ∈ u_ws RX4 TX4 6, w ∈ wsX6_takeNote := mem_drop 13 rfl
theorem k77_X6_takeNote : (.fieldLink RX6 77 "StyleRows$Performer" "voice" "I" : Cond) ∈ wsX6_takeNote := List.mem_of_getElem? (i := 2) rfl
theorem k83_X6_takeNote : (.fieldLink RX6 83 "StyleRows$Performer" "pitch" "I" : Cond) ∈ wsX6_takeNote := List.mem_of_getElem? (i := 3) rfl
theorem k89_X6_takeNote : (.fieldLink RX6 89 "StyleRows$Performer" "marks" "I" : Cond) ∈ wsX6_takeNote := List.mem_of_getElem? (i := 4) rfl
theorem k89_X6_isMarked : (.fieldLink RX6 89 "StyleRows$Performer" "marks" "I" : Cond) ∈ wsX6_isMarked := List.mem_of_getElem? (i := 1) rfl
theorem in_X6_X6_isMarked : ∀ w ∈ u_ws RX6 TX6 8, w ∈ wsX6_isMarked := mem_drop 2 rfl
theorem k18_X8_countingFor : (.fieldLink RX8 18 "StyleRows$Rules" "counting" "[I" : Cond) ∈ wsX8_countingFor := List.mem_of_getElem? (i := 1) rfl
theorem in_X8_X8_countingFor : ∀ w ∈ u_ws RX8 TX8 4, w ∈ wsX8_countingFor := mem_drop 2 rfl
theorem k13_X8_numberFor : (.fieldLink RX8 13 "StyleRows$Rules" "rows" "[[I" : Cond) ∈ wsX8_numberFor := List.mem_of_getElem? (i := 1) rfl
theorem in_X8_X8_numberFor : ∀ w ∈ u_ws RX8 TX8 4, w ∈ wsX8_numberFor := mem_drop 8 rfl
theorem k77_X6_longOf : (.fieldLink RX6 77 "StyleRows$Performer" "voice" "I" : Cond) ∈ wsX6_longOf := List.mem_of_getElem? (i := 1) rfl
theorem in_X6_X6_longOf : ∀ w ∈ u_ws RX6 TX6 8, w ∈ wsX6_longOf := mem_drop 26 rfl
theorem k103_X6_longOf : (.methodLink RX6 103 Lib.Math.min.name : Cond) ∈ wsX6_longOf := List.mem_of_getElem? (i := 2) rfl
theorem kstmin_X6_longOf : (.static Lib.Math.min.name : Cond) ∈ wsX6_longOf := List.mem_of_getElem? (i := 3) rfl
theorem kini_X6_longOf : (.initialized "java/lang/Math" : Cond) ∈ wsX6_longOf := List.mem_of_getElem? (i := 4) rfl
theorem kcomin_X6_longOf : (.code Lib.Math.min.name Lib.Math.min.code 2 (some .int) : Cond) ∈ wsX6_longOf := List.mem_of_getElem? (i := 5) rfl
theorem k108_X6_longOf : (.methodLink RX6 108 Lib.Math.max.name : Cond) ∈ wsX6_longOf := List.mem_of_getElem? (i := 6) rfl
theorem kstmax_X6_longOf : (.static Lib.Math.max.name : Cond) ∈ wsX6_longOf := List.mem_of_getElem? (i := 7) rfl
theorem kcomax_X6_longOf : (.code Lib.Math.max.name Lib.Math.max.code 2 (some .int) : Cond) ∈ wsX6_longOf := List.mem_of_getElem? (i := 8) rfl
theorem k30_X9_beginsBar : (.fieldLink RX9 30 "StyleRows$Score" "beats" "I" : Cond) ∈ wsX9_beginsBar := List.mem_of_getElem? (i := 1) rfl
theorem in_X9_X9_beginsBar : ∀ w ∈ u_ws RX9 TX9 5, w ∈ wsX9_beginsBar := mem_drop 7 rfl
theorem k34_X9_beginsBar : (.fieldLink RX9 34 "StyleRows$Score" "unit" "I" : Cond) ∈ wsX9_beginsBar := List.mem_of_getElem? (i := 2) rfl
theorem k34_X9_beginsBeat : (.fieldLink RX9 34 "StyleRows$Score" "unit" "I" : Cond) ∈ wsX9_beginsBeat := List.mem_of_getElem? (i := 1) rfl
theorem in_X9_X9_beginsBeat : ∀ w ∈ u_ws RX9 TX9 5, w ∈ wsX9_beginsBeat := mem_drop 6 rfl
theorem in_X9_X6_loudOf : ∀ w ∈ u_ws RX9 TX9 5, w ∈ wsX6_loudOf := mem_drop 56 rfl
theorem k103_X6_loudOf : (.methodLink RX6 103 Lib.Math.min.name : Cond) ∈ wsX6_loudOf := List.mem_of_getElem? (i := 2) rfl
theorem kstmin_X6_loudOf : (.static Lib.Math.min.name : Cond) ∈ wsX6_loudOf := List.mem_of_getElem? (i := 3) rfl
theorem kini_X6_loudOf : (.initialized "java/lang/Math" : Cond) ∈ wsX6_loudOf := List.mem_of_getElem? (i := 4) rfl
theorem kcomin_X6_loudOf : (.code Lib.Math.min.name Lib.Math.min.code 2 (some .int) : Cond) ∈ wsX6_loudOf := List.mem_of_getElem? (i := 5) rfl
theorem k108_X6_loudOf : (.methodLink RX6 108 Lib.Math.max.name : Cond) ∈ wsX6_loudOf := List.mem_of_getElem? (i := 6) rfl
theorem kstmax_X6_loudOf : (.static Lib.Math.max.name : Cond) ∈ wsX6_loudOf := List.mem_of_getElem? (i := 7) rfl
theorem kcomax_X6_loudOf : (.code Lib.Math.max.name Lib.Math.max.code 2 (some .int) : Cond) ∈ wsX6_loudOf := List.mem_of_getElem? (i := 8) rfl
theorem k77_X6_loudOf : (.fieldLink RX6 77 "StyleRows$Performer" "voice" "I" : Cond) ∈ wsX6_loudOf := List.mem_of_getElem? (i := 1) rfl
theorem in_X6_X6_loudOf : ∀ w ∈ u_ws RX6 TX6 8, w ∈ wsX6_loudOf := mem_drop 61 rfl
theorem k71_X6_drawOf : (.fieldLink RX6 71 "StyleRows$Performer" "note" "I" : Cond) ∈ wsX6_drawOf := List.mem_of_getElem? (i := 1) rfl
theorem in_X6_X6_drawOf : ∀ w ∈ u_ws RX6 TX6 8, w ∈ wsX6_drawOf := mem_drop 13 rfl
theorem k131_X6_drawOf : (.constantLong RX6 131 (-7046029254386353131) : Cond) ∈ wsX6_drawOf := List.mem_of_getElem? (i := 2) rfl
theorem k133_X6_drawOf : (.constantLong RX6 133 (-4658895280553007687) : Cond) ∈ wsX6_drawOf := List.mem_of_getElem? (i := 3) rfl
theorem k135_X6_drawOf : (.constantLong RX6 135 (2) : Cond) ∈ wsX6_drawOf := List.mem_of_getElem? (i := 4) rfl
theorem k108_X6_drawOf : (.methodLink RX6 108 Lib.Math.max.name : Cond) ∈ wsX6_drawOf := List.mem_of_getElem? (i := 5) rfl
theorem kstmax_X6_drawOf : (.static Lib.Math.max.name : Cond) ∈ wsX6_drawOf := List.mem_of_getElem? (i := 6) rfl
theorem kini_X6_drawOf : (.initialized "java/lang/Math" : Cond) ∈ wsX6_drawOf := List.mem_of_getElem? (i := 7) rfl
theorem kcomax_X6_drawOf : (.code Lib.Math.max.name Lib.Math.max.code 2 (some .int) : Cond) ∈ wsX6_drawOf := List.mem_of_getElem? (i := 8) rfl
theorem k77_X6_onOf : (.fieldLink RX6 77 "StyleRows$Performer" "voice" "I" : Cond) ∈ wsX6_onOf := List.mem_of_getElem? (i := 1) rfl
theorem in_X6_X6_onOf : ∀ w ∈ u_ws RX6 TX6 8, w ∈ wsX6_onOf := mem_drop 30 rfl
theorem k108_X6_onOf : (.methodLink RX6 108 Lib.Math.max.name : Cond) ∈ wsX6_onOf := List.mem_of_getElem? (i := 2) rfl
theorem kstmax_X6_onOf : (.static Lib.Math.max.name : Cond) ∈ wsX6_onOf := List.mem_of_getElem? (i := 3) rfl
theorem kini_X6_onOf : (.initialized "java/lang/Math" : Cond) ∈ wsX6_onOf := List.mem_of_getElem? (i := 4) rfl
theorem kcomax_X6_onOf : (.code Lib.Math.max.name Lib.Math.max.code 2 (some .int) : Cond) ∈ wsX6_onOf := List.mem_of_getElem? (i := 5) rfl
theorem k16_X1_add : (.fieldLink RX1 16 "StyleRows$Events" "howMany" "I" : Cond) ∈ wsX1_add := List.mem_of_getElem? (i := 1) rfl
theorem in_X1_X1_add : ∀ w ∈ u_ws RX1 TX1 3, w ∈ wsX1_add := mem_drop 4 rfl
theorem k13_X1_add : (.fieldLink RX1 13 "StyleRows$Events" "rows" "[[I" : Cond) ∈ wsX1_add := List.mem_of_getElem? (i := 3) rfl
theorem k20_X1_add : (.fieldLink RX1 20 "StyleRows$Events" "tooMany" "Z" : Cond) ∈ wsX1_add := List.mem_of_getElem? (i := 2) rfl
theorem k10_X6_addPart : (.fieldLink RX6 10 "StyleRows$Performer" "parts" "LStyleRows$Events;" : Cond) ∈ wsX6_addPart := List.mem_of_getElem? (i := 1) rfl
theorem in_X6_X6_addPart : ∀ w ∈ u_ws RX6 TX6 8, w ∈ wsX6_addPart := mem_drop 14 rfl
theorem k64_X6_addPart : (.fieldLink RX6 64 "StyleRows$Performer" "on" "I" : Cond) ∈ wsX6_addPart := List.mem_of_getElem? (i := 2) rfl
theorem k71_X6_addPart : (.fieldLink RX6 71 "StyleRows$Performer" "note" "I" : Cond) ∈ wsX6_addPart := List.mem_of_getElem? (i := 3) rfl
theorem k77_X6_addPart : (.fieldLink RX6 77 "StyleRows$Performer" "voice" "I" : Cond) ∈ wsX6_addPart := List.mem_of_getElem? (i := 4) rfl
theorem k47_X6_addPart : (.fieldLink RX6 47 "StyleRows$Performer" "left" "I" : Cond) ∈ wsX6_addPart := List.mem_of_getElem? (i := 5) rfl
theorem k47_X6_addTurn : (.fieldLink RX6 47 "StyleRows$Performer" "left" "I" : Cond) ∈ wsX6_addTurn := List.mem_of_getElem? (i := 1) rfl
theorem in_X6_X6_addTurn : ∀ w ∈ u_ws RX6 TX6 8, w ∈ wsX6_addTurn := mem_drop 36 rfl
theorem k77_X6_addTurn : (.fieldLink RX6 77 "StyleRows$Performer" "voice" "I" : Cond) ∈ wsX6_addTurn := List.mem_of_getElem? (i := 2) rfl
theorem k103_X6_addTurn : (.methodLink RX6 103 Lib.Math.min.name : Cond) ∈ wsX6_addTurn := List.mem_of_getElem? (i := 3) rfl
theorem kstmin_X6_addTurn : (.static Lib.Math.min.name : Cond) ∈ wsX6_addTurn := List.mem_of_getElem? (i := 4) rfl
theorem kini_X6_addTurn : (.initialized "java/lang/Math" : Cond) ∈ wsX6_addTurn := List.mem_of_getElem? (i := 5) rfl
theorem kcomin_X6_addTurn : (.code Lib.Math.min.name Lib.Math.min.code 2 (some .int) : Cond) ∈ wsX6_addTurn := List.mem_of_getElem? (i := 6) rfl
theorem k83_X6_addTurn : (.fieldLink RX6 83 "StyleRows$Performer" "pitch" "I" : Cond) ∈ wsX6_addTurn := List.mem_of_getElem? (i := 7) rfl
theorem k57_X6_addTurn : (.fieldLink RX6 57 "StyleRows$Performer" "loud" "I" : Cond) ∈ wsX6_addTurn := List.mem_of_getElem? (i := 8) rfl
theorem k77_X6_addTrill : (.fieldLink RX6 77 "StyleRows$Performer" "voice" "I" : Cond) ∈ wsX6_addTrill := List.mem_of_getElem? (i := 1) rfl
theorem in_X6_X6_addTrill : ∀ w ∈ u_ws RX6 TX6 8, w ∈ wsX6_addTrill := mem_drop 39 rfl
theorem k47_X6_addTrill : (.fieldLink RX6 47 "StyleRows$Performer" "left" "I" : Cond) ∈ wsX6_addTrill := List.mem_of_getElem? (i := 2) rfl
theorem kiniX11_X6_addTrill : (.initialized RX11 : Cond) ∈ wsX6_addTrill := List.mem_of_getElem? (i := 17) rfl
theorem kstX11_quotient_X6_addTrill : (.static yX11_quotient : Cond) ∈ wsX6_addTrill := List.mem_of_getElem? (i := 16) rfl
theorem k83_X6_addTrill : (.fieldLink RX6 83 "StyleRows$Performer" "pitch" "I" : Cond) ∈ wsX6_addTrill := List.mem_of_getElem? (i := 3) rfl
theorem k57_X6_addTrill : (.fieldLink RX6 57 "StyleRows$Performer" "loud" "I" : Cond) ∈ wsX6_addTrill := List.mem_of_getElem? (i := 4) rfl
theorem k77_X6_addLean : (.fieldLink RX6 77 "StyleRows$Performer" "voice" "I" : Cond) ∈ wsX6_addLean := List.mem_of_getElem? (i := 1) rfl
theorem in_X6_X6_addLean : ∀ w ∈ u_ws RX6 TX6 8, w ∈ wsX6_addLean := mem_drop 39 rfl
theorem k47_X6_addLean : (.fieldLink RX6 47 "StyleRows$Performer" "left" "I" : Cond) ∈ wsX6_addLean := List.mem_of_getElem? (i := 2) rfl
theorem k103_X6_addLean : (.methodLink RX6 103 Lib.Math.min.name : Cond) ∈ wsX6_addLean := List.mem_of_getElem? (i := 3) rfl
theorem kstmin_X6_addLean : (.static Lib.Math.min.name : Cond) ∈ wsX6_addLean := List.mem_of_getElem? (i := 4) rfl
theorem kini_X6_addLean : (.initialized "java/lang/Math" : Cond) ∈ wsX6_addLean := List.mem_of_getElem? (i := 5) rfl
theorem kcomin_X6_addLean : (.code Lib.Math.min.name Lib.Math.min.code 2 (some .int) : Cond) ∈ wsX6_addLean := List.mem_of_getElem? (i := 6) rfl
theorem k83_X6_addLean : (.fieldLink RX6 83 "StyleRows$Performer" "pitch" "I" : Cond) ∈ wsX6_addLean := List.mem_of_getElem? (i := 7) rfl
theorem k57_X6_addLean : (.fieldLink RX6 57 "StyleRows$Performer" "loud" "I" : Cond) ∈ wsX6_addLean := List.mem_of_getElem? (i := 8) rfl
theorem k108_X6_addLean : (.methodLink RX6 108 Lib.Math.max.name : Cond) ∈ wsX6_addLean := List.mem_of_getElem? (i := 9) rfl
theorem kstmax_X6_addLean : (.static Lib.Math.max.name : Cond) ∈ wsX6_addLean := List.mem_of_getElem? (i := 10) rfl
theorem kcomax_X6_addLean : (.code Lib.Math.max.name Lib.Math.max.code 2 (some .int) : Cond) ∈ wsX6_addLean := List.mem_of_getElem? (i := 11) rfl
theorem k24_X4_isInChord : (.fieldLink RX4 24 "StyleRows$Notes" "marks" "[I" : Cond) ∈ wsX4_isInChord := List.mem_of_getElem? (i := 1) rfl
theorem in_X4_X4_isInChord : ∀ w ∈ u_ws RX4 TX4 6, w ∈ wsX4_isInChord := mem_drop 4 rfl
theorem k11_X4_isInChord : (.fieldLink RX4 11 "StyleRows$Notes" "voices" "[I" : Cond) ∈ wsX4_isInChord := List.mem_of_getElem? (i := 2) rfl
theorem k15_X4_isInChord : (.fieldLink RX4 15 "StyleRows$Notes" "starts" "[I" : Cond) ∈ wsX4_isInChord := List.mem_of_getElem? (i := 3) rfl
theorem k21_X4_isLower : (.fieldLink RX4 21 "StyleRows$Notes" "pitches" "[I" : Cond) ∈ wsX4_isLower := List.mem_of_getElem? (i := 1) rfl
theorem in_X4_X4_isLower : ∀ w ∈ u_ws RX4 TX4 6, w ∈ wsX4_isLower := mem_drop 2 rfl
theorem k27_X4_rolledAhead : (.fieldLink RX4 27 "StyleRows$Notes" "howMany" "I" : Cond) ∈ wsX4_rolledAhead := List.mem_of_getElem? (i := 1) rfl
theorem in_X4_X4_rolledAhead : ∀ w ∈ u_ws RX4 TX4 6, w ∈ wsX4_rolledAhead := mem_drop 15 rfl
theorem k71_X6_roll : (.fieldLink RX6 71 "StyleRows$Performer" "note" "I" : Cond) ∈ wsX6_roll := List.mem_of_getElem? (i := 1) rfl
theorem in_X6_X6_roll : ∀ w ∈ u_ws RX6 TX6 8, w ∈ wsX6_roll := mem_drop 38 rfl
theorem k77_X6_roll : (.fieldLink RX6 77 "StyleRows$Performer" "voice" "I" : Cond) ∈ wsX6_roll := List.mem_of_getElem? (i := 2) rfl
theorem k47_X6_roll : (.fieldLink RX6 47 "StyleRows$Performer" "left" "I" : Cond) ∈ wsX6_roll := List.mem_of_getElem? (i := 3) rfl
theorem k103_X6_roll : (.methodLink RX6 103 Lib.Math.min.name : Cond) ∈ wsX6_roll := List.mem_of_getElem? (i := 4) rfl
theorem kstmin_X6_roll : (.static Lib.Math.min.name : Cond) ∈ wsX6_roll := List.mem_of_getElem? (i := 5) rfl
theorem kini_X6_roll : (.initialized "java/lang/Math" : Cond) ∈ wsX6_roll := List.mem_of_getElem? (i := 6) rfl
theorem kcomin_X6_roll : (.code Lib.Math.min.name Lib.Math.min.code 2 (some .int) : Cond) ∈ wsX6_roll := List.mem_of_getElem? (i := 7) rfl
theorem k64_X6_roll : (.fieldLink RX6 64 "StyleRows$Performer" "on" "I" : Cond) ∈ wsX6_roll := List.mem_of_getElem? (i := 8) rfl
theorem k83_X6_addParts : (.fieldLink RX6 83 "StyleRows$Performer" "pitch" "I" : Cond) ∈ wsX6_addParts := List.mem_of_getElem? (i := 1) rfl
theorem in_X6_X6_addParts : ∀ w ∈ u_ws RX6 TX6 8, w ∈ wsX6_addParts := mem_drop 85 rfl
theorem k57_X6_addParts : (.fieldLink RX6 57 "StyleRows$Performer" "loud" "I" : Cond) ∈ wsX6_addParts := List.mem_of_getElem? (i := 2) rfl
theorem k47_X6_addParts : (.fieldLink RX6 47 "StyleRows$Performer" "left" "I" : Cond) ∈ wsX6_addParts := List.mem_of_getElem? (i := 3) rfl
theorem k10_X6_makeParts : (.fieldLink RX6 10 "StyleRows$Performer" "parts" "LStyleRows$Events;" : Cond) ∈ wsX6_makeParts := List.mem_of_getElem? (i := 1) rfl
theorem in_X6_X6_makeParts : ∀ w ∈ u_ws RX6 TX6 8, w ∈ wsX6_makeParts := mem_drop 142 rfl
theorem in_X9_X6_makeParts : ∀ w ∈ u_ws RX9 TX9 5, w ∈ wsX6_makeParts := mem_drop 150 rfl
theorem in_X4_X6_makeParts : ∀ w ∈ u_ws RX4 TX4 6, w ∈ wsX6_makeParts := mem_drop 155 rfl
theorem in_X1_X6_makeParts : ∀ w ∈ u_ws RX1 TX1 3, w ∈ wsX6_makeParts := mem_drop 161 rfl
theorem k47_X6_makeParts : (.fieldLink RX6 47 "StyleRows$Performer" "left" "I" : Cond) ∈ wsX6_makeParts := List.mem_of_getElem? (i := 2) rfl
theorem k57_X6_makeParts : (.fieldLink RX6 57 "StyleRows$Performer" "loud" "I" : Cond) ∈ wsX6_makeParts := List.mem_of_getElem? (i := 3) rfl
theorem k64_X6_makeParts : (.fieldLink RX6 64 "StyleRows$Performer" "on" "I" : Cond) ∈ wsX6_makeParts := List.mem_of_getElem? (i := 4) rfl
theorem k16_X1_bend : (.fieldLink RX1 16 "StyleRows$Events" "howMany" "I" : Cond) ∈ wsX1_bend := List.mem_of_getElem? (i := 1) rfl
theorem in_X1_X1_bend : ∀ w ∈ u_ws RX1 TX1 3, w ∈ wsX1_bend := mem_drop 26 rfl
theorem k13_X1_bend : (.fieldLink RX1 13 "StyleRows$Events" "rows" "[[I" : Cond) ∈ wsX1_bend := List.mem_of_getElem? (i := 2) rfl
theorem k34_X1_bend : (.methodLink RX1 34 Lib.Math.max.name : Cond) ∈ wsX1_bend := List.mem_of_getElem? (i := 3) rfl
theorem kstmax_X1_bend : (.static Lib.Math.max.name : Cond) ∈ wsX1_bend := List.mem_of_getElem? (i := 4) rfl
theorem kini_X1_bend : (.initialized "java/lang/Math" : Cond) ∈ wsX1_bend := List.mem_of_getElem? (i := 5) rfl
theorem kcomax_X1_bend : (.code Lib.Math.max.name Lib.Math.max.code 2 (some .int) : Cond) ∈ wsX1_bend := List.mem_of_getElem? (i := 6) rfl
theorem k17_X5_merge : (.fieldLink RX5 17 "StyleRows$Order" "spare" "[J" : Cond) ∈ wsX5_merge := List.mem_of_getElem? (i := 2) rfl
theorem in_X5_X5_merge : ∀ w ∈ u_ws RX5 TX5 2, w ∈ wsX5_merge := mem_drop 3 rfl
theorem k11_X5_merge : (.fieldLink RX5 11 "StyleRows$Order" "keys" "[J" : Cond) ∈ wsX5_merge := List.mem_of_getElem? (i := 1) rfl
theorem in_X1_X5_keyOf : ∀ w ∈ u_ws RX1 TX1 3, w ∈ wsX5_keyOf := mem_drop 4 rfl
theorem k42_X5_keyOf : (.constantLong RX5 42 (4) : Cond) ∈ wsX5_keyOf := List.mem_of_getElem? (i := 1) rfl
theorem k44_X5_keyOf : (.constantLong RX5 44 (128) : Cond) ∈ wsX5_keyOf := List.mem_of_getElem? (i := 2) rfl
theorem k46_X5_keyOf : (.constantLong RX5 46 (400) : Cond) ∈ wsX5_keyOf := List.mem_of_getElem? (i := 3) rfl
theorem in_X1_X5_sort : ∀ w ∈ u_ws RX1 TX1 3, w ∈ wsX5_sort := mem_drop 18 rfl
theorem k17_X5_sort : (.fieldLink RX5 17 "StyleRows$Order" "spare" "[J" : Cond) ∈ wsX5_sort := List.mem_of_getElem? (i := 6) rfl
theorem in_X5_X5_sort : ∀ w ∈ u_ws RX5 TX5 2, w ∈ wsX5_sort := mem_drop 21 rfl
theorem k11_X5_sort : (.fieldLink RX5 11 "StyleRows$Order" "keys" "[J" : Cond) ∈ wsX5_sort := List.mem_of_getElem? (i := 1) rfl
theorem k28_X5_sort : (.methodLink RX5 28 Lib.Math.min.name : Cond) ∈ wsX5_sort := List.mem_of_getElem? (i := 2) rfl
theorem kstmin_X5_sort : (.static Lib.Math.min.name : Cond) ∈ wsX5_sort := List.mem_of_getElem? (i := 3) rfl
theorem kini_X5_sort : (.initialized "java/lang/Math" : Cond) ∈ wsX5_sort := List.mem_of_getElem? (i := 4) rfl
theorem kcomin_X5_sort : (.code Lib.Math.min.name Lib.Math.min.code 2 (some .int) : Cond) ∈ wsX5_sort := List.mem_of_getElem? (i := 5) rfl
theorem k11_X5_partAt : (.fieldLink RX5 11 "StyleRows$Order" "keys" "[J" : Cond) ∈ wsX5_partAt := List.mem_of_getElem? (i := 1) rfl
theorem in_X5_X5_partAt : ∀ w ∈ u_ws RX5 TX5 2, w ∈ wsX5_partAt := mem_drop 9 rfl
theorem k16_X1_takeInOrder : (.fieldLink RX1 16 "StyleRows$Events" "howMany" "I" : Cond) ∈ wsX1_takeInOrder := List.mem_of_getElem? (i := 1) rfl
theorem in_X1_X1_takeInOrder : ∀ w ∈ u_ws RX1 TX1 3, w ∈ wsX1_takeInOrder := mem_drop 16 rfl
theorem k13_X1_takeInOrder : (.fieldLink RX1 13 "StyleRows$Events" "rows" "[[I" : Cond) ∈ wsX1_takeInOrder := List.mem_of_getElem? (i := 2) rfl
theorem k13_X1_endOf : (.fieldLink RX1 13 "StyleRows$Events" "rows" "[[I" : Cond) ∈ wsX1_endOf := List.mem_of_getElem? (i := 1) rfl
theorem in_X1_X1_endOf : ∀ w ∈ u_ws RX1 TX1 3, w ∈ wsX1_endOf := mem_drop 2 rfl
theorem k13_X1_repeats : (.fieldLink RX1 13 "StyleRows$Events" "rows" "[[I" : Cond) ∈ wsX1_repeats := List.mem_of_getElem? (i := 1) rfl
theorem in_X1_X1_repeats : ∀ w ∈ u_ws RX1 TX1 3, w ∈ wsX1_repeats := mem_drop 2 rfl
theorem k16_X1_endAtRepeat : (.fieldLink RX1 16 "StyleRows$Events" "howMany" "I" : Cond) ∈ wsX1_endAtRepeat := List.mem_of_getElem? (i := 1) rfl
theorem in_X1_X1_endAtRepeat : ∀ w ∈ u_ws RX1 TX1 3, w ∈ wsX1_endAtRepeat := mem_drop 12 rfl
theorem k13_X1_endAtRepeat : (.fieldLink RX1 13 "StyleRows$Events" "rows" "[[I" : Cond) ∈ wsX1_endAtRepeat := List.mem_of_getElem? (i := 2) rfl
theorem k16_X1_endAtRepeats : (.fieldLink RX1 16 "StyleRows$Events" "howMany" "I" : Cond) ∈ wsX1_endAtRepeats := List.mem_of_getElem? (i := 1) rfl
theorem in_X1_X1_endAtRepeats : ∀ w ∈ u_ws RX1 TX1 3, w ∈ wsX1_endAtRepeats := mem_drop 16 rfl
theorem k44_X11_perform : (.fieldLink RX11 44 "StyleRows" "performer" "LStyleRows$Performer;" : Cond) ∈ wsX11_perform := List.mem_of_getElem? (i := 1) rfl
theorem in_X11_X11_perform : ∀ w ∈ u_ws RX11 TX11 8, w ∈ wsX11_perform := mem_drop 215 rfl
theorem k16_X11_perform : (.fieldLink RX11 16 "StyleRows" "score" "LStyleRows$Score;" : Cond) ∈ wsX11_perform := List.mem_of_getElem? (i := 2) rfl
theorem k30_X11_perform : (.fieldLink RX11 30 "StyleRows" "rules" "LStyleRows$Rules;" : Cond) ∈ wsX11_perform := List.mem_of_getElem? (i := 3) rfl
theorem k7_X11_perform : (.fieldLink RX11 7 "StyleRows" "seed" "J" : Cond) ∈ wsX11_perform := List.mem_of_getElem? (i := 4) rfl
theorem in_X6_X11_perform : ∀ w ∈ u_ws RX6 TX6 8, w ∈ wsX11_perform := mem_drop 223 rfl
theorem in_X9_X11_perform : ∀ w ∈ u_ws RX9 TX9 5, w ∈ wsX11_perform := mem_drop 231 rfl
theorem k51_X11_perform : (.fieldLink RX11 51 "StyleRows" "order" "LStyleRows$Order;" : Cond) ∈ wsX11_perform := List.mem_of_getElem? (i := 5) rfl
theorem k58_X11_perform : (.fieldLink RX11 58 "StyleRows" "events" "LStyleRows$Events;" : Cond) ∈ wsX11_perform := List.mem_of_getElem? (i := 6) rfl
theorem in_X1_X11_perform : ∀ w ∈ u_ws RX1 TX1 3, w ∈ wsX11_perform := mem_drop 236 rfl
theorem k26_X8_clear : (.fieldLink RX8 26 "StyleRows$Rules" "howMany" "I" : Cond) ∈ wsX8_clear := List.mem_of_getElem? (i := 1) rfl
theorem in_X8_X8_clear : ∀ w ∈ u_ws RX8 TX8 4, w ∈ wsX8_clear := mem_drop 4 rfl
theorem k30_X8_clear : (.fieldLink RX8 30 "StyleRows$Rules" "withStaged" "I" : Cond) ∈ wsX8_clear := List.mem_of_getElem? (i := 2) rfl
theorem k18_X8_clear : (.fieldLink RX8 18 "StyleRows$Rules" "counting" "[I" : Cond) ∈ wsX8_clear := List.mem_of_getElem? (i := 3) rfl
theorem k30_X11_plain : (.fieldLink RX11 30 "StyleRows" "rules" "LStyleRows$Rules;" : Cond) ∈ wsX11_plain := List.mem_of_getElem? (i := 1) rfl
theorem in_X11_X11_plain : ∀ w ∈ u_ws RX11 TX11 8, w ∈ wsX11_plain := mem_drop 10 rfl
theorem k26_X8_dropStaged : (.fieldLink RX8 26 "StyleRows$Rules" "howMany" "I" : Cond) ∈ wsX8_dropStaged := List.mem_of_getElem? (i := 1) rfl
theorem in_X8_X8_dropStaged : ∀ w ∈ u_ws RX8 TX8 4, w ∈ wsX8_dropStaged := mem_drop 3 rfl
theorem k30_X8_dropStaged : (.fieldLink RX8 30 "StyleRows$Rules" "withStaged" "I" : Cond) ∈ wsX8_dropStaged := List.mem_of_getElem? (i := 2) rfl
theorem kiniX11_X7_kindAt : (.initialized RX11 : Cond) ∈ wsX7_kindAt := List.mem_of_getElem? (i := 9) rfl
theorem kstX11_isWithin_X7_kindAt : (.static yX11_isWithin : Cond) ∈ wsX7_kindAt := List.mem_of_getElem? (i := 8) rfl
theorem k14_X7_takePiece : (.fieldLink RX7 14 "StyleRows$Reader" "to" "I" : Cond) ∈ wsX7_takePiece := List.mem_of_getElem? (i := 1) rfl
theorem in_X7_X7_takePiece : ∀ w ∈ u_ws RX7 TX7 4, w ∈ wsX7_takePiece := mem_drop 18 rfl
theorem k31_X7_takePiece : (.fieldLink RX7 31 "StyleRows$Reader" "from" "I" : Cond) ∈ wsX7_takePiece := List.mem_of_getElem? (i := 2) rfl
theorem in_X10_X7_takePiece : ∀ w ∈ u_ws RX10 TX10 2, w ∈ wsX7_takePiece := mem_drop 22 rfl
theorem k24_X7_takePiece : (.fieldLink RX7 24 "StyleRows$Reader" "kind" "I" : Cond) ∈ wsX7_takePiece := List.mem_of_getElem? (i := 3) rfl
theorem k30_X8_areFull : (.fieldLink RX8 30 "StyleRows$Rules" "withStaged" "I" : Cond) ∈ wsX8_areFull := List.mem_of_getElem? (i := 1) rfl
theorem in_X8_X8_areFull : ∀ w ∈ u_ws RX8 TX8 4, w ∈ wsX8_areFull := mem_drop 2 rfl
theorem k24_X7_isWord : (.fieldLink RX7 24 "StyleRows$Reader" "kind" "I" : Cond) ∈ wsX7_isWord := List.mem_of_getElem? (i := 1) rfl
theorem in_X7_X7_isWord : ∀ w ∈ u_ws RX7 TX7 4, w ∈ wsX7_isWord := mem_drop 60 rfl
theorem k14_X7_isWord : (.fieldLink RX7 14 "StyleRows$Reader" "to" "I" : Cond) ∈ wsX7_isWord := List.mem_of_getElem? (i := 2) rfl
theorem k31_X7_isWord : (.fieldLink RX7 31 "StyleRows$Reader" "from" "I" : Cond) ∈ wsX7_isWord := List.mem_of_getElem? (i := 3) rfl
theorem k24_X7_takeNumber : (.fieldLink RX7 24 "StyleRows$Reader" "kind" "I" : Cond) ∈ wsX7_takeNumber := List.mem_of_getElem? (i := 1) rfl
theorem in_X7_X7_takeNumber : ∀ w ∈ u_ws RX7 TX7 4, w ∈ wsX7_takeNumber := mem_drop 28 rfl
theorem k48_X7_takeNumber : (.fieldLink RX7 48 "StyleRows$Reader" "number" "I" : Cond) ∈ wsX7_takeNumber := List.mem_of_getElem? (i := 2) rfl
theorem k31_X7_takeNumber : (.fieldLink RX7 31 "StyleRows$Reader" "from" "I" : Cond) ∈ wsX7_takeNumber := List.mem_of_getElem? (i := 3) rfl
theorem k14_X7_takeNumber : (.fieldLink RX7 14 "StyleRows$Reader" "to" "I" : Cond) ∈ wsX7_takeNumber := List.mem_of_getElem? (i := 4) rfl
theorem kiniX11_X7_takeNumber : (.initialized RX11 : Cond) ∈ wsX7_takeNumber := List.mem_of_getElem? (i := 18) rfl
theorem kstX11_isWithin_X7_takeNumber : (.static yX11_isWithin : Cond) ∈ wsX7_takeNumber := List.mem_of_getElem? (i := 17) rfl
theorem k76_X7_takeNumber : (.constant RX7 76 (1000000) : Cond) ∈ wsX7_takeNumber := List.mem_of_getElem? (i := 5) rfl
theorem k77_X7_takeNumber : (.methodLink RX7 77 Lib.Math.min.name : Cond) ∈ wsX7_takeNumber := List.mem_of_getElem? (i := 6) rfl
theorem kstmin_X7_takeNumber : (.static Lib.Math.min.name : Cond) ∈ wsX7_takeNumber := List.mem_of_getElem? (i := 7) rfl
theorem kini_X7_takeNumber : (.initialized "java/lang/Math" : Cond) ∈ wsX7_takeNumber := List.mem_of_getElem? (i := 8) rfl
theorem kcomin_X7_takeNumber : (.code Lib.Math.min.name Lib.Math.min.code 2 (some .int) : Cond) ∈ wsX7_takeNumber := List.mem_of_getElem? (i := 9) rfl
theorem k13_X8_stage : (.fieldLink RX8 13 "StyleRows$Rules" "rows" "[[I" : Cond) ∈ wsX8_stage := List.mem_of_getElem? (i := 1) rfl
theorem in_X8_X8_stage : ∀ w ∈ u_ws RX8 TX8 4, w ∈ wsX8_stage := mem_drop 8 rfl
theorem k30_X8_stage : (.fieldLink RX8 30 "StyleRows$Rules" "withStaged" "I" : Cond) ∈ wsX8_stage := List.mem_of_getElem? (i := 2) rfl
theorem k48_X7_takeRule : (.fieldLink RX7 48 "StyleRows$Reader" "number" "I" : Cond) ∈ wsX7_takeRule := List.mem_of_getElem? (i := 1) rfl
theorem in_X7_X7_takeRule : ∀ w ∈ u_ws RX7 TX7 4, w ∈ wsX7_takeRule := mem_drop 105 rfl
theorem k31_X7_takeRule : (.fieldLink RX7 31 "StyleRows$Reader" "from" "I" : Cond) ∈ wsX7_takeRule := List.mem_of_getElem? (i := 2) rfl
theorem k14_X7_findFault : (.fieldLink RX7 14 "StyleRows$Reader" "to" "I" : Cond) ∈ wsX7_findFault := List.mem_of_getElem? (i := 1) rfl
theorem in_X7_X7_findFault : ∀ w ∈ u_ws RX7 TX7 4, w ∈ wsX7_findFault := mem_drop 114 rfl
theorem k31_X7_findFault : (.fieldLink RX7 31 "StyleRows$Reader" "from" "I" : Cond) ∈ wsX7_findFault := List.mem_of_getElem? (i := 3) rfl
theorem k24_X7_findFault : (.fieldLink RX7 24 "StyleRows$Reader" "kind" "I" : Cond) ∈ wsX7_findFault := List.mem_of_getElem? (i := 2) rfl
theorem k13_X8_isOutrankedBy : (.fieldLink RX8 13 "StyleRows$Rules" "rows" "[[I" : Cond) ∈ wsX8_isOutrankedBy := List.mem_of_getElem? (i := 1) rfl
theorem in_X8_X8_isOutrankedBy : ∀ w ∈ u_ws RX8 TX8 4, w ∈ wsX8_isOutrankedBy := mem_drop 2 rfl
theorem k13_X8_letCount : (.fieldLink RX8 13 "StyleRows$Rules" "rows" "[[I" : Cond) ∈ wsX8_letCount := List.mem_of_getElem? (i := 1) rfl
theorem in_X8_X8_letCount : ∀ w ∈ u_ws RX8 TX8 4, w ∈ wsX8_letCount := mem_drop 8 rfl
theorem k18_X8_letCount : (.fieldLink RX8 18 "StyleRows$Rules" "counting" "[I" : Cond) ∈ wsX8_letCount := List.mem_of_getElem? (i := 2) rfl
theorem k26_X8_keepStaged : (.fieldLink RX8 26 "StyleRows$Rules" "howMany" "I" : Cond) ∈ wsX8_keepStaged := List.mem_of_getElem? (i := 1) rfl
theorem in_X8_X8_keepStaged : ∀ w ∈ u_ws RX8 TX8 4, w ∈ wsX8_keepStaged := mem_drop 14 rfl
theorem k30_X8_keepStaged : (.fieldLink RX8 30 "StyleRows$Rules" "withStaged" "I" : Cond) ∈ wsX8_keepStaged := List.mem_of_getElem? (i := 2) rfl
theorem k37_X11_read : (.fieldLink RX11 37 "StyleRows" "reader" "LStyleRows$Reader;" : Cond) ∈ wsX11_read := List.mem_of_getElem? (i := 1) rfl
theorem in_X11_X11_read : ∀ w ∈ u_ws RX11 TX11 8, w ∈ wsX11_read := mem_drop 138 rfl
theorem k23_X11_read : (.fieldLink RX11 23 "StyleRows" "tape" "LStyleRows$Tape;" : Cond) ∈ wsX11_read := List.mem_of_getElem? (i := 2) rfl
theorem k30_X11_read : (.fieldLink RX11 30 "StyleRows" "rules" "LStyleRows$Rules;" : Cond) ∈ wsX11_read := List.mem_of_getElem? (i := 3) rfl
theorem k26_X8_has : (.fieldLink RX8 26 "StyleRows$Rules" "howMany" "I" : Cond) ∈ wsX8_has := List.mem_of_getElem? (i := 1) rfl
theorem in_X8_X8_has : ∀ w ∈ u_ws RX8 TX8 4, w ∈ wsX8_has := mem_drop 5 rfl
theorem kiniX11_X8_has : (.initialized RX11 : Cond) ∈ wsX8_has := List.mem_of_getElem? (i := 3) rfl
theorem kstX11_isWithin_X8_has : (.static yX11_isWithin : Cond) ∈ wsX8_has := List.mem_of_getElem? (i := 2) rfl
theorem k30_X11_rule : (.fieldLink RX11 30 "StyleRows" "rules" "LStyleRows$Rules;" : Cond) ∈ wsX11_rule := List.mem_of_getElem? (i := 1) rfl
theorem in_X11_X11_rule : ∀ w ∈ u_ws RX11 TX11 8, w ∈ wsX11_rule := mem_drop 12 rfl
theorem in_X8_X11_rule : ∀ w ∈ u_ws RX8 TX8 4, w ∈ wsX11_rule := mem_drop 20 rfl
theorem k16_X1_soundingAt : (.fieldLink RX1 16 "StyleRows$Events" "howMany" "I" : Cond) ∈ wsX1_soundingAt := List.mem_of_getElem? (i := 1) rfl
theorem in_X1_X1_soundingAt : ∀ w ∈ u_ws RX1 TX1 3, w ∈ wsX1_soundingAt := mem_drop 8 rfl
theorem k13_X1_soundingAt : (.fieldLink RX1 13 "StyleRows$Events" "rows" "[[I" : Cond) ∈ wsX1_soundingAt := List.mem_of_getElem? (i := 2) rfl
theorem k58_X11_sounding : (.fieldLink RX11 58 "StyleRows" "events" "LStyleRows$Events;" : Cond) ∈ wsX11_sounding := List.mem_of_getElem? (i := 1) rfl
theorem in_X11_X11_sounding : ∀ w ∈ u_ws RX11 TX11 8, w ∈ wsX11_sounding := mem_drop 13 rfl
theorem k16_X1_howManyOf : (.fieldLink RX1 16 "StyleRows$Events" "howMany" "I" : Cond) ∈ wsX1_howManyOf := List.mem_of_getElem? (i := 1) rfl
theorem in_X1_X1_howManyOf : ∀ w ∈ u_ws RX1 TX1 3, w ∈ wsX1_howManyOf := mem_drop 3 rfl
theorem k13_X1_howManyOf : (.fieldLink RX1 13 "StyleRows$Events" "rows" "[[I" : Cond) ∈ wsX1_howManyOf := List.mem_of_getElem? (i := 2) rfl
theorem k16_X1_firstBeginOf : (.fieldLink RX1 16 "StyleRows$Events" "howMany" "I" : Cond) ∈ wsX1_firstBeginOf := List.mem_of_getElem? (i := 1) rfl
theorem in_X1_X1_firstBeginOf : ∀ w ∈ u_ws RX1 TX1 3, w ∈ wsX1_firstBeginOf := mem_drop 3 rfl
theorem k13_X1_firstBeginOf : (.fieldLink RX1 13 "StyleRows$Events" "rows" "[[I" : Cond) ∈ wsX1_firstBeginOf := List.mem_of_getElem? (i := 2) rfl
theorem k16_X1_lastEndOf : (.fieldLink RX1 16 "StyleRows$Events" "howMany" "I" : Cond) ∈ wsX1_lastEndOf := List.mem_of_getElem? (i := 1) rfl
theorem in_X1_X1_lastEndOf : ∀ w ∈ u_ws RX1 TX1 3, w ∈ wsX1_lastEndOf := mem_drop 8 rfl
theorem k13_X1_lastEndOf : (.fieldLink RX1 13 "StyleRows$Events" "rows" "[[I" : Cond) ∈ wsX1_lastEndOf := List.mem_of_getElem? (i := 2) rfl
theorem k16_X11_span : (.fieldLink RX11 16 "StyleRows" "score" "LStyleRows$Score;" : Cond) ∈ wsX11_span := List.mem_of_getElem? (i := 1) rfl
theorem in_X11_X11_span : ∀ w ∈ u_ws RX11 TX11 8, w ∈ wsX11_span := mem_drop 31 rfl
theorem in_X9_X11_span : ∀ w ∈ u_ws RX9 TX9 5, w ∈ wsX11_span := mem_drop 39 rfl
theorem k58_X11_span : (.fieldLink RX11 58 "StyleRows" "events" "LStyleRows$Events;" : Cond) ∈ wsX11_span := List.mem_of_getElem? (i := 2) rfl
theorem k16_X11_timeOf : (.fieldLink RX11 16 "StyleRows" "score" "LStyleRows$Score;" : Cond) ∈ wsX11_timeOf := List.mem_of_getElem? (i := 1) rfl
theorem in_X11_X11_timeOf : ∀ w ∈ u_ws RX11 TX11 8, w ∈ wsX11_timeOf := mem_drop 25 rfl
theorem in_X9_X11_timeOf : ∀ w ∈ u_ws RX9 TX9 5, w ∈ wsX11_timeOf := mem_drop 33 rfl
theorem kiniX11_X3_has : (.initialized RX11 : Cond) ∈ wsX3_has := List.mem_of_getElem? (i := 2) rfl
theorem kstX11_isWithin_X3_has : (.static yX11_isWithin : Cond) ∈ wsX3_has := List.mem_of_getElem? (i := 1) rfl
theorem k30_X11_value : (.fieldLink RX11 30 "StyleRows" "rules" "LStyleRows$Rules;" : Cond) ∈ wsX11_value := List.mem_of_getElem? (i := 1) rfl
theorem in_X11_X11_value : ∀ w ∈ u_ws RX11 TX11 8, w ∈ wsX11_value := mem_drop 24 rfl
theorem k30_X11_why : (.fieldLink RX11 30 "StyleRows" "rules" "LStyleRows$Rules;" : Cond) ∈ wsX11_why := List.mem_of_getElem? (i := 1) rfl
theorem in_X11_X11_why : ∀ w ∈ u_ws RX11 TX11 8, w ∈ wsX11_why := mem_drop 19 rfl
theorem k104_X12_arc : (.constantLong RX12 104 (-400) : Cond) ∈ wsX12_arc := List.mem_of_getElem? (i := 1) rfl
theorem k106_X12_arc : (.constantLong RX12 106 (400) : Cond) ∈ wsX12_arc := List.mem_of_getElem? (i := 2) rfl
theorem k108_X12_arc : (.fieldLink RX12 108 "StyleRowsModel" "arcs" "I" : Cond) ∈ wsX12_arc := List.mem_of_getElem? (i := 3) rfl
theorem in_X12_X12_arc : ∀ w ∈ u_ws RX12 TX12 35, w ∈ wsX12_arc := mem_drop 11 rfl
theorem k42_X12_arc : (.fieldLink RX12 42 "StyleRowsModel" "arcFrom" "[I" : Cond) ∈ wsX12_arc := List.mem_of_getElem? (i := 5) rfl
theorem k45_X12_arc : (.fieldLink RX12 45 "StyleRowsModel" "arcTo" "[I" : Cond) ∈ wsX12_arc := List.mem_of_getElem? (i := 4) rfl
theorem k48_X12_arc : (.fieldLink RX12 48 "StyleRowsModel" "arcBy" "[I" : Cond) ∈ wsX12_arc := List.mem_of_getElem? (i := 6) rfl
theorem k130_X12_at : (.fieldLink RX12 130 "StyleRowsModel" "size" "I" : Cond) ∈ wsX12_at := List.mem_of_getElem? (i := 1) rfl
theorem in_X12_X12_at : ∀ w ∈ u_ws RX12 TX12 35, w ∈ wsX12_at := mem_drop 3 rfl
theorem k63_X12_at : (.fieldLink RX12 63 "StyleRowsModel" "tape" "[I" : Cond) ∈ wsX12_at := List.mem_of_getElem? (i := 2) rfl
theorem k130_X12_count : (.fieldLink RX12 130 "StyleRowsModel" "size" "I" : Cond) ∈ wsX12_count := List.mem_of_getElem? (i := 6) rfl
theorem in_X12_X12_count : ∀ w ∈ u_ws RX12 TX12 35, w ∈ wsX12_count := mem_drop 7 rfl
theorem k257_X12_count : (.fieldLink RX12 257 "StyleRowsModel" "events" "I" : Cond) ∈ wsX12_count := List.mem_of_getElem? (i := 5) rfl
theorem k193_X12_count : (.fieldLink RX12 193 "StyleRowsModel" "rules" "I" : Cond) ∈ wsX12_count := List.mem_of_getElem? (i := 4) rfl
theorem k108_X12_count : (.fieldLink RX12 108 "StyleRowsModel" "arcs" "I" : Cond) ∈ wsX12_count := List.mem_of_getElem? (i := 3) rfl
theorem k101_X12_count : (.fieldLink RX12 101 "StyleRowsModel" "levels" "I" : Cond) ∈ wsX12_count := List.mem_of_getElem? (i := 2) rfl
theorem k92_X12_count : (.fieldLink RX12 92 "StyleRowsModel" "notes" "I" : Cond) ∈ wsX12_count := List.mem_of_getElem? (i := 1) rfl
theorem k193_X12_counts : (.fieldLink RX12 193 "StyleRowsModel" "rules" "I" : Cond) ∈ wsX12_counts := List.mem_of_getElem? (i := 1) rfl
theorem in_X12_X12_counts : ∀ w ∈ u_ws RX12 TX12 35, w ∈ wsX12_counts := mem_drop 5 rfl
theorem k54_X12_counts : (.fieldLink RX12 54 "StyleRowsModel" "ruleName" "[I" : Cond) ∈ wsX12_counts := List.mem_of_getElem? (i := 2) rfl
theorem k60_X12_counts : (.fieldLink RX12 60 "StyleRowsModel" "ruleRank" "[I" : Cond) ∈ wsX12_counts := List.mem_of_getElem? (i := 4) rfl
theorem k51_X12_counts : (.fieldLink RX12 51 "StyleRowsModel" "ruleVoice" "[I" : Cond) ∈ wsX12_counts := List.mem_of_getElem? (i := 3) rfl
theorem k66_X12_cut : (.fieldLink RX12 66 "StyleRowsModel" "part" "[I" : Cond) ∈ wsX12_cut := List.mem_of_getElem? (i := 1) rfl
theorem in_X12_X12_cut : ∀ w ∈ u_ws RX12 TX12 35, w ∈ wsX12_cut := mem_drop 4 rfl
theorem k209_X12_cut : (.fieldLink RX12 209 "StyleRowsModel" "parts" "I" : Cond) ∈ wsX12_cut := List.mem_of_getElem? (i := 2) rfl
theorem k7_X12_cut : (.fieldLink RX12 7 "StyleRowsModel" "voice" "[I" : Cond) ∈ wsX12_cut := List.mem_of_getElem? (i := 3) rfl
theorem k257_X12_event : (.fieldLink RX12 257 "StyleRowsModel" "events" "I" : Cond) ∈ wsX12_event := List.mem_of_getElem? (i := 1) rfl
theorem in_X12_X12_event : ∀ w ∈ u_ws RX12 TX12 35, w ∈ wsX12_event := mem_drop 9 rfl
theorem k266_X12_event : (.constantLong RX12 266 (6) : Cond) ∈ wsX12_event := List.mem_of_getElem? (i := 2) rfl
theorem k69_X12_event : (.fieldLink RX12 69 "StyleRowsModel" "event" "[I" : Cond) ∈ wsX12_event := List.mem_of_getElem? (i := 4) rfl
theorem k7_X12_event : (.fieldLink RX12 7 "StyleRowsModel" "voice" "[I" : Cond) ∈ wsX12_event := List.mem_of_getElem? (i := 3) rfl
theorem k128_X12_feed : (.constantLong RX12 128 (8) : Cond) ∈ wsX12_feed := List.mem_of_getElem? (i := 1) rfl
theorem k130_X12_feed : (.fieldLink RX12 130 "StyleRowsModel" "size" "I" : Cond) ∈ wsX12_feed := List.mem_of_getElem? (i := 2) rfl
theorem in_X12_X12_feed : ∀ w ∈ u_ws RX12 TX12 35, w ∈ wsX12_feed := mem_drop 9 rfl
theorem k63_X12_feed : (.fieldLink RX12 63 "StyleRowsModel" "tape" "[I" : Cond) ∈ wsX12_feed := List.mem_of_getElem? (i := 3) rfl
theorem k133_X12_feed : (.constantLong RX12 133 (255) : Cond) ∈ wsX12_feed := List.mem_of_getElem? (i := 4) rfl
theorem k22_X12_has : (.fieldLink RX12 22 "StyleRowsModel" "marks" "[I" : Cond) ∈ wsX12_has := List.mem_of_getElem? (i := 1) rfl
theorem in_X12_X12_has : ∀ w ∈ u_ws RX12 TX12 35, w ∈ wsX12_has := mem_drop 2 rfl
theorem k101_X12_levelBy : (.fieldLink RX12 101 "StyleRowsModel" "levels" "I" : Cond) ∈ wsX12_levelBy := List.mem_of_getElem? (i := 1) rfl
theorem in_X12_X12_levelBy : ∀ w ∈ u_ws RX12 TX12 35, w ∈ wsX12_levelBy := mem_drop 3 rfl
theorem k25_X12_levelBy : (.fieldLink RX12 25 "StyleRowsModel" "levelTick" "[I" : Cond) ∈ wsX12_levelBy := List.mem_of_getElem? (i := 2) rfl
theorem k28_X12_highAt : (.fieldLink RX12 28 "StyleRowsModel" "levelHigh" "[I" : Cond) ∈ wsX12_highAt := List.mem_of_getElem? (i := 2) rfl
theorem in_X12_X12_highAt : ∀ w ∈ u_ws RX12 TX12 35, w ∈ wsX12_highAt := mem_drop 13 rfl
theorem k31_X12_highAt : (.fieldLink RX12 31 "StyleRowsModel" "levelSwells" "[Z" : Cond) ∈ wsX12_highAt := List.mem_of_getElem? (i := 1) rfl
theorem k25_X12_highAt : (.fieldLink RX12 25 "StyleRowsModel" "levelTick" "[I" : Cond) ∈ wsX12_highAt := List.mem_of_getElem? (i := 3) rfl
theorem k66_X12_isAhead : (.fieldLink RX12 66 "StyleRowsModel" "part" "[I" : Cond) ∈ wsX12_isAhead := List.mem_of_getElem? (i := 1) rfl
theorem in_X12_X12_isAhead : ∀ w ∈ u_ws RX12 TX12 35, w ∈ wsX12_isAhead := mem_drop 3 rfl
theorem k7_X12_isAhead : (.fieldLink RX12 7 "StyleRowsModel" "voice" "[I" : Cond) ∈ wsX12_isAhead := List.mem_of_getElem? (i := 2) rfl
theorem k92_X12_isNote : (.fieldLink RX12 92 "StyleRowsModel" "notes" "I" : Cond) ∈ wsX12_isNote := List.mem_of_getElem? (i := 1) rfl
theorem in_X12_X12_isNote : ∀ w ∈ u_ws RX12 TX12 35, w ∈ wsX12_isNote := mem_drop 6 rfl
theorem k151_X12_isNumber : (.fieldLink RX12 151 "StyleRowsModel" "sort" "I" : Cond) ∈ wsX12_isNumber := List.mem_of_getElem? (i := 1) rfl
theorem in_X12_X12_isNumber : ∀ w ∈ u_ws RX12 TX12 35, w ∈ wsX12_isNumber := mem_drop 7 rfl
theorem k144_X12_isNumber : (.fieldLink RX12 144 "StyleRowsModel" "told" "J" : Cond) ∈ wsX12_isNumber := List.mem_of_getElem? (i := 2) rfl
theorem k99_X12_level : (.constantLong RX12 99 (20000) : Cond) ∈ wsX12_level := List.mem_of_getElem? (i := 1) rfl
theorem k90_X12_level : (.constantLong RX12 90 (127) : Cond) ∈ wsX12_level := List.mem_of_getElem? (i := 2) rfl
theorem k101_X12_level : (.fieldLink RX12 101 "StyleRowsModel" "levels" "I" : Cond) ∈ wsX12_level := List.mem_of_getElem? (i := 3) rfl
theorem in_X12_X12_level : ∀ w ∈ u_ws RX12 TX12 35, w ∈ wsX12_level := mem_drop 11 rfl
theorem k25_X12_level : (.fieldLink RX12 25 "StyleRowsModel" "levelTick" "[I" : Cond) ∈ wsX12_level := List.mem_of_getElem? (i := 4) rfl
theorem k28_X12_level : (.fieldLink RX12 28 "StyleRowsModel" "levelHigh" "[I" : Cond) ∈ wsX12_level := List.mem_of_getElem? (i := 5) rfl
theorem k31_X12_level : (.fieldLink RX12 31 "StyleRowsModel" "levelSwells" "[Z" : Cond) ∈ wsX12_level := List.mem_of_getElem? (i := 6) rfl
theorem k99_X12_levelAt : (.constantLong RX12 99 (20000) : Cond) ∈ wsX12_levelAt := List.mem_of_getElem? (i := 1) rfl
theorem k57_X12_number : (.fieldLink RX12 57 "StyleRowsModel" "ruleNumber" "[I" : Cond) ∈ wsX12_number := List.mem_of_getElem? (i := 1) rfl
theorem in_X12_X12_number : ∀ w ∈ u_ws RX12 TX12 35, w ∈ wsX12_number := mem_drop 14 rfl
theorem k7_X12_longOf : (.fieldLink RX12 7 "StyleRowsModel" "voice" "[I" : Cond) ∈ wsX12_longOf := List.mem_of_getElem? (i := 1) rfl
theorem in_X12_X12_longOf : ∀ w ∈ u_ws RX12 TX12 35, w ∈ wsX12_longOf := mem_drop 28 rfl
theorem k16_X12_longOf : (.fieldLink RX12 16 "StyleRowsModel" "length" "[I" : Cond) ∈ wsX12_longOf := List.mem_of_getElem? (i := 2) rfl
theorem k13_X12_loudOf : (.fieldLink RX12 13 "StyleRowsModel" "start" "[I" : Cond) ∈ wsX12_loudOf := List.mem_of_getElem? (i := 1) rfl
theorem in_X12_X12_loudOf : ∀ w ∈ u_ws RX12 TX12 35, w ∈ wsX12_loudOf := mem_drop 45 rfl
theorem k35_X12_loudOf : (.fieldLink RX12 35 "StyleRowsModel" "beats" "I" : Cond) ∈ wsX12_loudOf := List.mem_of_getElem? (i := 3) rfl
theorem k39_X12_loudOf : (.fieldLink RX12 39 "StyleRowsModel" "unit" "I" : Cond) ∈ wsX12_loudOf := List.mem_of_getElem? (i := 4) rfl
theorem k7_X12_loudOf : (.fieldLink RX12 7 "StyleRowsModel" "voice" "[I" : Cond) ∈ wsX12_loudOf := List.mem_of_getElem? (i := 2) rfl
theorem k90_X12_mark : (.constantLong RX12 90 (127) : Cond) ∈ wsX12_mark := List.mem_of_getElem? (i := 1) rfl
theorem k22_X12_mark : (.fieldLink RX12 22 "StyleRowsModel" "marks" "[I" : Cond) ∈ wsX12_mark := List.mem_of_getElem? (i := 2) rfl
theorem in_X12_X12_mark : ∀ w ∈ u_ws RX12 TX12 35, w ∈ wsX12_mark := mem_drop 12 rfl
theorem k86_X12_meter : (.constantLong RX12 86 (12) : Cond) ∈ wsX12_meter := List.mem_of_getElem? (i := 1) rfl
theorem k84_X12_meter : (.constantLong RX12 84 (960) : Cond) ∈ wsX12_meter := List.mem_of_getElem? (i := 2) rfl
theorem k35_X12_meter : (.fieldLink RX12 35 "StyleRowsModel" "beats" "I" : Cond) ∈ wsX12_meter := List.mem_of_getElem? (i := 3) rfl
theorem in_X12_X12_meter : ∀ w ∈ u_ws RX12 TX12 35, w ∈ wsX12_meter := mem_drop 9 rfl
theorem k39_X12_meter : (.fieldLink RX12 39 "StyleRowsModel" "unit" "I" : Cond) ∈ wsX12_meter := List.mem_of_getElem? (i := 4) rfl
theorem k156_X12_word : (.constantLong RX12 156 (96) : Cond) ∈ wsX12_word := List.mem_of_getElem? (i := 1) rfl
theorem k154_X12_word : (.constantLong RX12 154 (32) : Cond) ∈ wsX12_word := List.mem_of_getElem? (i := 2) rfl
theorem k144_X12_named : (.fieldLink RX12 144 "StyleRowsModel" "told" "J" : Cond) ∈ wsX12_named := List.mem_of_getElem? (i := 1) rfl
theorem in_X12_X12_named : ∀ w ∈ u_ws RX12 TX12 35, w ∈ wsX12_named := mem_drop 11 rfl
theorem k76_X12_note : (.constantLong RX12 76 (3) : Cond) ∈ wsX12_note := List.mem_of_getElem? (i := 1) rfl
theorem k82_X12_note : (.constantLong RX12 82 (9600) : Cond) ∈ wsX12_note := List.mem_of_getElem? (i := 2) rfl
theorem k84_X12_note : (.constantLong RX12 84 (960) : Cond) ∈ wsX12_note := List.mem_of_getElem? (i := 3) rfl
theorem k86_X12_note : (.constantLong RX12 86 (12) : Cond) ∈ wsX12_note := List.mem_of_getElem? (i := 4) rfl
theorem k88_X12_note : (.constantLong RX12 88 (115) : Cond) ∈ wsX12_note := List.mem_of_getElem? (i := 5) rfl
theorem k90_X12_note : (.constantLong RX12 90 (127) : Cond) ∈ wsX12_note := List.mem_of_getElem? (i := 6) rfl
theorem k92_X12_note : (.fieldLink RX12 92 "StyleRowsModel" "notes" "I" : Cond) ∈ wsX12_note := List.mem_of_getElem? (i := 7) rfl
theorem in_X12_X12_note : ∀ w ∈ u_ws RX12 TX12 35, w ∈ wsX12_note := mem_drop 17 rfl
theorem k7_X12_note : (.fieldLink RX12 7 "StyleRowsModel" "voice" "[I" : Cond) ∈ wsX12_note := List.mem_of_getElem? (i := 8) rfl
theorem k13_X12_note : (.fieldLink RX12 13 "StyleRowsModel" "start" "[I" : Cond) ∈ wsX12_note := List.mem_of_getElem? (i := 9) rfl
theorem k16_X12_note : (.fieldLink RX12 16 "StyleRowsModel" "length" "[I" : Cond) ∈ wsX12_note := List.mem_of_getElem? (i := 10) rfl
theorem k19_X12_note : (.fieldLink RX12 19 "StyleRowsModel" "pitch" "[I" : Cond) ∈ wsX12_note := List.mem_of_getElem? (i := 11) rfl
theorem k22_X12_note : (.fieldLink RX12 22 "StyleRowsModel" "marks" "[I" : Cond) ∈ wsX12_note := List.mem_of_getElem? (i := 12) rfl
theorem k7_X12_onOf : (.fieldLink RX12 7 "StyleRowsModel" "voice" "[I" : Cond) ∈ wsX12_onOf := List.mem_of_getElem? (i := 1) rfl
theorem in_X12_X12_onOf : ∀ w ∈ u_ws RX12 TX12 35, w ∈ wsX12_onOf := mem_drop 24 rfl
theorem k72_X12_onOf : (.fieldLink RX12 72 "StyleRowsModel" "seed" "J" : Cond) ∈ wsX12_onOf := List.mem_of_getElem? (i := 3) rfl
theorem k224_X12_onOf : (.constantLong RX12 224 (-7046029254386353131) : Cond) ∈ wsX12_onOf := List.mem_of_getElem? (i := 4) rfl
theorem k226_X12_onOf : (.constantLong RX12 226 (-4658895280553007687) : Cond) ∈ wsX12_onOf := List.mem_of_getElem? (i := 5) rfl
theorem k13_X12_onOf : (.fieldLink RX12 13 "StyleRowsModel" "start" "[I" : Cond) ∈ wsX12_onOf := List.mem_of_getElem? (i := 2) rfl
theorem k228_X12_onOf : (.constantLong RX12 228 (2) : Cond) ∈ wsX12_onOf := List.mem_of_getElem? (i := 6) rfl
theorem k108_X12_time : (.fieldLink RX12 108 "StyleRowsModel" "arcs" "I" : Cond) ∈ wsX12_time := List.mem_of_getElem? (i := 1) rfl
theorem in_X12_X12_time : ∀ w ∈ u_ws RX12 TX12 35, w ∈ wsX12_time := mem_drop 10 rfl
theorem k42_X12_time : (.fieldLink RX12 42 "StyleRowsModel" "arcFrom" "[I" : Cond) ∈ wsX12_time := List.mem_of_getElem? (i := 2) rfl
theorem k45_X12_time : (.fieldLink RX12 45 "StyleRowsModel" "arcTo" "[I" : Cond) ∈ wsX12_time := List.mem_of_getElem? (i := 3) rfl
theorem k123_X12_time : (.constantLong RX12 123 (4) : Cond) ∈ wsX12_time := List.mem_of_getElem? (i := 4) rfl
theorem k48_X12_time : (.fieldLink RX12 48 "StyleRowsModel" "arcBy" "[I" : Cond) ∈ wsX12_time := List.mem_of_getElem? (i := 5) rfl
theorem k209_X12_sounds : (.fieldLink RX12 209 "StyleRowsModel" "parts" "I" : Cond) ∈ wsX12_sounds := List.mem_of_getElem? (i := 1) rfl
theorem in_X12_X12_sounds : ∀ w ∈ u_ws RX12 TX12 35, w ∈ wsX12_sounds := mem_drop 19 rfl
theorem k212_X12_sounds : (.fieldLink RX12 212 "StyleRowsModel" "on" "I" : Cond) ∈ wsX12_sounds := List.mem_of_getElem? (i := 2) rfl
theorem k215_X12_sounds : (.fieldLink RX12 215 "StyleRowsModel" "left" "I" : Cond) ∈ wsX12_sounds := List.mem_of_getElem? (i := 5) rfl
theorem k66_X12_sounds : (.fieldLink RX12 66 "StyleRowsModel" "part" "[I" : Cond) ∈ wsX12_sounds := List.mem_of_getElem? (i := 3) rfl
theorem k19_X12_sounds : (.fieldLink RX12 19 "StyleRowsModel" "pitch" "[I" : Cond) ∈ wsX12_sounds := List.mem_of_getElem? (i := 4) rfl
theorem k7_X12_trill : (.fieldLink RX12 7 "StyleRowsModel" "voice" "[I" : Cond) ∈ wsX12_trill := List.mem_of_getElem? (i := 1) rfl
theorem in_X12_X12_trill : ∀ w ∈ u_ws RX12 TX12 35, w ∈ wsX12_trill := mem_drop 41 rfl
theorem k230_X12_trill : (.fieldLink RX12 230 "StyleRowsModel" "loud" "I" : Cond) ∈ wsX12_trill := List.mem_of_getElem? (i := 2) rfl
theorem k215_X12_trill : (.fieldLink RX12 215 "StyleRowsModel" "left" "I" : Cond) ∈ wsX12_trill := List.mem_of_getElem? (i := 3) rfl
theorem k92_X12_rolledAhead : (.fieldLink RX12 92 "StyleRowsModel" "notes" "I" : Cond) ∈ wsX12_rolledAhead := List.mem_of_getElem? (i := 1) rfl
theorem in_X12_X12_rolledAhead : ∀ w ∈ u_ws RX12 TX12 35, w ∈ wsX12_rolledAhead := mem_drop 11 rfl
theorem k19_X12_rolledAhead : (.fieldLink RX12 19 "StyleRowsModel" "pitch" "[I" : Cond) ∈ wsX12_rolledAhead := List.mem_of_getElem? (i := 4) rfl
theorem k7_X12_rolledAhead : (.fieldLink RX12 7 "StyleRowsModel" "voice" "[I" : Cond) ∈ wsX12_rolledAhead := List.mem_of_getElem? (i := 2) rfl
theorem k13_X12_rolledAhead : (.fieldLink RX12 13 "StyleRowsModel" "start" "[I" : Cond) ∈ wsX12_rolledAhead := List.mem_of_getElem? (i := 3) rfl
theorem k212_X12_performNote : (.fieldLink RX12 212 "StyleRowsModel" "on" "I" : Cond) ∈ wsX12_performNote := List.mem_of_getElem? (i := 1) rfl
theorem in_X12_X12_performNote : ∀ w ∈ u_ws RX12 TX12 35, w ∈ wsX12_performNote := mem_drop 90 rfl
theorem k215_X12_performNote : (.fieldLink RX12 215 "StyleRowsModel" "left" "I" : Cond) ∈ wsX12_performNote := List.mem_of_getElem? (i := 2) rfl
theorem k230_X12_performNote : (.fieldLink RX12 230 "StyleRowsModel" "loud" "I" : Cond) ∈ wsX12_performNote := List.mem_of_getElem? (i := 3) rfl
theorem k7_X12_performNote : (.fieldLink RX12 7 "StyleRowsModel" "voice" "[I" : Cond) ∈ wsX12_performNote := List.mem_of_getElem? (i := 4) rfl
theorem k209_X12_perform : (.fieldLink RX12 209 "StyleRowsModel" "parts" "I" : Cond) ∈ wsX12_perform := List.mem_of_getElem? (i := 1) rfl
theorem in_X12_X12_perform : ∀ w ∈ u_ws RX12 TX12 35, w ∈ wsX12_perform := mem_drop 104 rfl
theorem k92_X12_perform : (.fieldLink RX12 92 "StyleRowsModel" "notes" "I" : Cond) ∈ wsX12_perform := List.mem_of_getElem? (i := 2) rfl
theorem k257_X12_perform : (.fieldLink RX12 257 "StyleRowsModel" "events" "I" : Cond) ∈ wsX12_perform := List.mem_of_getElem? (i := 3) rfl
theorem k69_X12_perform : (.fieldLink RX12 69 "StyleRowsModel" "event" "[I" : Cond) ∈ wsX12_perform := List.mem_of_getElem? (i := 4) rfl
theorem k66_X12_perform : (.fieldLink RX12 66 "StyleRowsModel" "part" "[I" : Cond) ∈ wsX12_perform := List.mem_of_getElem? (i := 5) rfl
theorem k193_X12_plain : (.fieldLink RX12 193 "StyleRowsModel" "rules" "I" : Cond) ∈ wsX12_plain := List.mem_of_getElem? (i := 1) rfl
theorem in_X12_X12_plain : ∀ w ∈ u_ws RX12 TX12 35, w ∈ wsX12_plain := mem_drop 2 rfl
theorem k135_X12_take : (.fieldLink RX12 135 "StyleRowsModel" "next" "I" : Cond) ∈ wsX12_take := List.mem_of_getElem? (i := 1) rfl
theorem in_X12_X12_take : ∀ w ∈ u_ws RX12 TX12 35, w ∈ wsX12_take := mem_drop 24 rfl
theorem k141_X12_take : (.fieldLink RX12 141 "StyleRowsModel" "first" "I" : Cond) ∈ wsX12_take := List.mem_of_getElem? (i := 2) rfl
theorem k144_X12_take : (.fieldLink RX12 144 "StyleRowsModel" "told" "J" : Cond) ∈ wsX12_take := List.mem_of_getElem? (i := 3) rfl
theorem k147_X12_take : (.constantLong RX12 147 (97) : Cond) ∈ wsX12_take := List.mem_of_getElem? (i := 4) rfl
theorem k149_X12_take : (.constantLong RX12 149 (122) : Cond) ∈ wsX12_take := List.mem_of_getElem? (i := 5) rfl
theorem k160_X12_take : (.constantLong RX12 160 (48) : Cond) ∈ wsX12_take := List.mem_of_getElem? (i := 10) rfl
theorem k162_X12_take : (.constantLong RX12 162 (57) : Cond) ∈ wsX12_take := List.mem_of_getElem? (i := 11) rfl
theorem k151_X12_take : (.fieldLink RX12 151 "StyleRowsModel" "sort" "I" : Cond) ∈ wsX12_take := List.mem_of_getElem? (i := 6) rfl
theorem k164_X12_take : (.constantLong RX12 164 (100000) : Cond) ∈ wsX12_take := List.mem_of_getElem? (i := 12) rfl
theorem k166_X12_take : (.constantLong RX12 166 (10) : Cond) ∈ wsX12_take := List.mem_of_getElem? (i := 13) rfl
theorem k158_X12_take : (.constantLong RX12 158 (-1) : Cond) ∈ wsX12_take := List.mem_of_getElem? (i := 9) rfl
theorem k154_X12_take : (.constantLong RX12 154 (32) : Cond) ∈ wsX12_take := List.mem_of_getElem? (i := 7) rfl
theorem k156_X12_take : (.constantLong RX12 156 (96) : Cond) ∈ wsX12_take := List.mem_of_getElem? (i := 8) rfl
theorem k151_X12_takeRule : (.fieldLink RX12 151 "StyleRowsModel" "sort" "I" : Cond) ∈ wsX12_takeRule := List.mem_of_getElem? (i := 1) rfl
theorem in_X12_X12_takeRule : ∀ w ∈ u_ws RX12 TX12 35, w ∈ wsX12_takeRule := mem_drop 52 rfl
theorem k51_X12_takeRule : (.fieldLink RX12 51 "StyleRowsModel" "ruleVoice" "[I" : Cond) ∈ wsX12_takeRule := List.mem_of_getElem? (i := 2) rfl
theorem k60_X12_takeRule : (.fieldLink RX12 60 "StyleRowsModel" "ruleRank" "[I" : Cond) ∈ wsX12_takeRule := List.mem_of_getElem? (i := 3) rfl
theorem k144_X12_takeRule : (.fieldLink RX12 144 "StyleRowsModel" "told" "J" : Cond) ∈ wsX12_takeRule := List.mem_of_getElem? (i := 4) rfl
theorem k54_X12_takeRule : (.fieldLink RX12 54 "StyleRowsModel" "ruleName" "[I" : Cond) ∈ wsX12_takeRule := List.mem_of_getElem? (i := 5) rfl
theorem k57_X12_takeRule : (.fieldLink RX12 57 "StyleRowsModel" "ruleNumber" "[I" : Cond) ∈ wsX12_takeRule := List.mem_of_getElem? (i := 6) rfl
theorem k193_X12_read : (.fieldLink RX12 193 "StyleRowsModel" "rules" "I" : Cond) ∈ wsX12_read := List.mem_of_getElem? (i := 1) rfl
theorem in_X12_X12_read : ∀ w ∈ u_ws RX12 TX12 35, w ∈ wsX12_read := mem_drop 57 rfl
theorem k135_X12_read : (.fieldLink RX12 135 "StyleRowsModel" "next" "I" : Cond) ∈ wsX12_read := List.mem_of_getElem? (i := 2) rfl
theorem k141_X12_read : (.fieldLink RX12 141 "StyleRowsModel" "first" "I" : Cond) ∈ wsX12_read := List.mem_of_getElem? (i := 4) rfl
theorem k130_X12_read : (.fieldLink RX12 130 "StyleRowsModel" "size" "I" : Cond) ∈ wsX12_read := List.mem_of_getElem? (i := 5) rfl
theorem k151_X12_read : (.fieldLink RX12 151 "StyleRowsModel" "sort" "I" : Cond) ∈ wsX12_read := List.mem_of_getElem? (i := 3) rfl
theorem k193_X12_rule : (.fieldLink RX12 193 "StyleRowsModel" "rules" "I" : Cond) ∈ wsX12_rule := List.mem_of_getElem? (i := 1) rfl
theorem in_X12_X12_rule : ∀ w ∈ u_ws RX12 TX12 35, w ∈ wsX12_rule := mem_drop 10 rfl
theorem k60_X12_rule : (.fieldLink RX12 60 "StyleRowsModel" "ruleRank" "[I" : Cond) ∈ wsX12_rule := List.mem_of_getElem? (i := 5) rfl
theorem k57_X12_rule : (.fieldLink RX12 57 "StyleRowsModel" "ruleNumber" "[I" : Cond) ∈ wsX12_rule := List.mem_of_getElem? (i := 4) rfl
theorem k54_X12_rule : (.fieldLink RX12 54 "StyleRowsModel" "ruleName" "[I" : Cond) ∈ wsX12_rule := List.mem_of_getElem? (i := 3) rfl
theorem k51_X12_rule : (.fieldLink RX12 51 "StyleRowsModel" "ruleVoice" "[I" : Cond) ∈ wsX12_rule := List.mem_of_getElem? (i := 2) rfl
theorem k257_X12_sounding : (.fieldLink RX12 257 "StyleRowsModel" "events" "I" : Cond) ∈ wsX12_sounding := List.mem_of_getElem? (i := 1) rfl
theorem in_X12_X12_sounding : ∀ w ∈ u_ws RX12 TX12 35, w ∈ wsX12_sounding := mem_drop 3 rfl
theorem k69_X12_sounding : (.fieldLink RX12 69 "StyleRowsModel" "event" "[I" : Cond) ∈ wsX12_sounding := List.mem_of_getElem? (i := 2) rfl
theorem k228_X12_span : (.constantLong RX12 228 (2) : Cond) ∈ wsX12_span := List.mem_of_getElem? (i := 1) rfl
theorem k257_X12_span : (.fieldLink RX12 257 "StyleRowsModel" "events" "I" : Cond) ∈ wsX12_span := List.mem_of_getElem? (i := 2) rfl
theorem in_X12_X12_span : ∀ w ∈ u_ws RX12 TX12 35, w ∈ wsX12_span := mem_drop 13 rfl
theorem k69_X12_span : (.fieldLink RX12 69 "StyleRowsModel" "event" "[I" : Cond) ∈ wsX12_span := List.mem_of_getElem? (i := 3) rfl
theorem k99_X12_timeOf : (.constantLong RX12 99 (20000) : Cond) ∈ wsX12_timeOf := List.mem_of_getElem? (i := 1) rfl
theorem k76_X12_value : (.constantLong RX12 76 (3) : Cond) ∈ wsX12_value := List.mem_of_getElem? (i := 1) rfl
theorem k86_X12_value : (.constantLong RX12 86 (12) : Cond) ∈ wsX12_value := List.mem_of_getElem? (i := 2) rfl
theorem k76_X12_why : (.constantLong RX12 76 (3) : Cond) ∈ wsX12_why := List.mem_of_getElem? (i := 1) rfl
theorem k86_X12_why : (.constantLong RX12 86 (12) : Cond) ∈ wsX12_why := List.mem_of_getElem? (i := 2) rfl
end
section
/-! the texts' own members, as numbers -/
def sCh (i : Nat) (k : Int32) : Int32 := ((bytS.getD i []).getD k.toNatClampNeg 0) &&& 255
def f_J0_length_8abf5 (i : Nat) (S : St) : Option (Int32 × St) := some (nI (lenS.getD i 0), S)
def f_J0_charAt_5068e (i : Nat) (k : Int32) (S : St) : Option (Int32 × St) := chk (inb k (lenS.getD i 0)) (some (sCh i k, S))
/-! java/lang/Math.floorDiv(JJ)J -/
def f_J9_floorDiv_f86c9_b27 (v4 : Int64) (S : St) : Option (Int64 × St) :=
  some (v4, S)
def f_J9_floorDiv_f86c9_b0 (a1 : Int64) (a2 : Int64) (S : St) : Option (Int64 × St) :=
  chk (nzL a2) (vlet (a1 / a2) (fun y1 => if 0 ≤ (lg_cmp (a1 ^^^ a2) 0) then (f_J9_floorDiv_f86c9_b27 y1 S)
    else (if (lg_cmp (y1 * a2) a1) = 0 then (f_J9_floorDiv_f86c9_b27 y1 S)
      else (some (y1 - 1, S)))))
def f_J9_floorDiv_f86c9 (a1 : Int64) (a2 : Int64) (S : St) : Option (Int64 × St) := f_J9_floorDiv_f86c9_b0 a1 a2 S
/-! java/lang/Math.floorMod(JJ)J -/
def f_J9_floorMod_f86c9_b25 (v4 : Int64) (S : St) : Option (Int64 × St) :=
  some (v4, S)
def f_J9_floorMod_f86c9_b0 (a1 : Int64) (a2 : Int64) (S : St) : Option (Int64 × St) :=
  chk (nzL a2) (vlet (a1 - a1 / a2 * a2) (fun y1 => if 0 ≤ (lg_cmp (a1 ^^^ a2) 0) then (f_J9_floorMod_f86c9_b25 y1 S)
    else (if (lg_cmp y1 0) = 0 then (f_J9_floorMod_f86c9_b25 y1 S)
      else (some (y1 + a2, S)))))
def f_J9_floorMod_f86c9 (a1 : Int64) (a2 : Int64) (S : St) : Option (Int64 × St) := f_J9_floorMod_f86c9_b0 a1 a2 S
/-! java/lang/Math.floorMod(JI)I -/
def f_J9_floorMod_1978a_b0 (a1 : Int64) (a2 : Int32) (S : St) : Option (Int32 × St) :=
  bnd (f_J9_floorMod_f86c9 a1 (Int32.toInt64 a2) S) (fun r2 S1 => some (Int64.toInt32 r2, S1))
def f_J9_floorMod_1978a (a1 : Int64) (a2 : Int32) (S : St) : Option (Int32 × St) := f_J9_floorMod_1978a_b0 a1 a2 S
/-! StyleRows$Arcs.add(III)I -/
def f_X0_add_b0 (a1 : Int32) (a2 : Int32) (a3 : Int32) (S : St) : Option (Int32 × St) :=
  if (gI S 4) < 6 then (chk (inb (gI S 4) 6) (vlet (wr S 21 (gI S 4) a1) (fun S1 => chk (inb (gI S1 4) 6) (vlet (wr S1 22 (gI S1 4) a2) (fun S2 => chk (inb (gI S2 4) 6) (vlet (wr S2 23 (gI S2 4) a3) (fun S3 => vlet (pI S3 4 ((gI S3 4) + 1)) (fun S4 => some (gI S4 4, S4)))))))))
    else (some ((-1004), S))
def f_X0_add (a1 : Int32) (a2 : Int32) (a3 : Int32) (S : St) : Option (Int32 × St) := f_X0_add_b0 a1 a2 a3 S
/-! StyleRows.isWithin(III)Z -/
def f_X11_isWithin_b15 (w0 : Int32) (S : St) : Option (Int32 × St) :=
  chk (isB w0) (some (w0, S))
def f_X11_isWithin_b14 (S : St) : Option (Int32 × St) :=
  f_X11_isWithin_b15 0 S
def f_X11_isWithin_b0 (a1 : Int32) (a2 : Int32) (a3 : Int32) (S : St) : Option (Int32 × St) :=
  if a1 < a2 then (f_X11_isWithin_b14 S)
    else (if a3 < a1 then (f_X11_isWithin_b14 S)
      else (f_X11_isWithin_b15 1 S))
def f_X11_isWithin (a1 : Int32) (a2 : Int32) (a3 : Int32) (S : St) : Option (Int32 × St) := f_X11_isWithin_b0 a1 a2 a3 S
/-! StyleRows.quotient(JJ)I -/
def f_X11_quotient_b16 (w0 : Int32) (S : St) : Option (Int32 × St) :=
  some (w0, S)
def f_X11_quotient_b0 (a1 : Int64) (a2 : Int64) (S : St) : Option (Int32 × St) :=
  if 0 < (lg_cmp a2 0) then (bnd (f_J9_floorDiv_f86c9 a1 a2 S) (fun r2 S1 => f_X11_quotient_b16 (Int64.toInt32 r2) S1))
    else (f_X11_quotient_b16 0 S)
def f_X11_quotient (a1 : Int64) (a2 : Int64) (S : St) : Option (Int32 × St) := f_X11_quotient_b0 a1 a2 S
/-! StyleRows$Arcs.bent(I)I -/
def f_X0_bent_b2 (rec2 : Int32 × St → Option (Int32 × St)) (v1 : Int32) (v2 : Int32) (S : St) : Option (Int32 × St) :=
  if (gI S 4) ≤ v2 then (some (v1, S))
    else (chk (inb v2 6) (chk (inb v2 6) (bnd (f_X11_isWithin v1 (rd S 21 v2) (rd S 22 v2) S) (fun r2 S1 => if r2 = 0 then (rec2 (v2 + 1, S1))
      else (chk (inb v2 6) (chk (inb v2 6) (vlet (Int32.toInt64 ((rd S1 22 v2) - (rd S1 21 v2))) (fun y3 => chk (inb v2 6) (chk (inb v2 6) (chk (inb v2 6) (bnd (f_X11_quotient (((4 * (Int32.toInt64 (rd S1 23 v2))) * (Int32.toInt64 (v1 - (rd S1 21 v2)))) * (Int32.toInt64 ((rd S1 22 v2) - v1))) (y3 * y3) S1) (fun r5 S4 => some (v1 + r5, S4)))))))))))))
def f_X0_bent_l2 (v1 : Int32) (n : Nat) (s : Int32 × St) : Option (Int32 × St) :=
  loopN (fun rec2 s => f_X0_bent_b2 rec2 v1 s.1 s.2) n s
def f_X0_bent_b0 (a1 : Int32) (S : St) : Option (Int32 × St) :=
  f_X0_bent_l2 a1 fuel (0, S)
def f_X0_bent (a1 : Int32) (S : St) : Option (Int32 × St) := f_X0_bent_b0 a1 S
/-! StyleRows$Arcs.shareWith(II)Z -/
def f_X0_shareWith_b2 (rec2 : Int32 × St → Option (Int32 × St)) (v1 : Int32) (v2 : Int32) (v3 : Int32) (S : St) : Option (Int32 × St) :=
  if (gI S 4) ≤ v3 then (some (0, S))
    else (chk (inb v3 6) (chk (inb v3 6) (if (imin (rd S 22 v3) v2) ≤ (imax (rd S 21 v3) v1) then (rec2 (v3 + 1, S))
      else (some (1, S)))))
def f_X0_shareWith_l2 (v1 : Int32) (v2 : Int32) (n : Nat) (s : Int32 × St) : Option (Int32 × St) :=
  loopN (fun rec2 s => f_X0_shareWith_b2 rec2 v1 v2 s.1 s.2) n s
def f_X0_shareWith_b0 (a1 : Int32) (a2 : Int32) (S : St) : Option (Int32 × St) :=
  f_X0_shareWith_l2 a1 a2 fuel (0, S)
def f_X0_shareWith (a1 : Int32) (a2 : Int32) (S : St) : Option (Int32 × St) := f_X0_shareWith_b0 a1 a2 S
/-! StyleRows$Tape.append(IJ)I -/
def f_X10_append_b21 (rec21 : Int32 × St → Option (Int32 × St)) (v2 : Int64) (v4 : Int32) (S : St) : Option (Int32 × St) :=
  if v4 < 0 then (some (gI S 5, S))
    else (chk (inb (gI S 5) 400) (vlet (wr S 24 (gI S 5) (vp_nar .byte (Int8.toInt32 (Int32.toInt8 (Int64.toInt32 (lus v2 (8 * v4))))))) (fun S2 => vlet (pI S2 5 ((gI S2 5) + 1)) (fun S3 => rec21 (v4 + (-1), S3)))))
def f_X10_append_l21 (v2 : Int64) (n : Nat) (s : Int32 × St) : Option (Int32 × St) :=
  loopN (fun rec21 s => f_X10_append_b21 rec21 v2 s.1 s.2) n s
def f_X10_append_b0 (a1 : Int32) (a2 : Int64) (S : St) : Option (Int32 × St) :=
  if a1 ≤ (400 - (gI S 5)) then (vlet (a1 - 1) (fun x1 => f_X10_append_l21 a2 fuel (x1, S)))
    else (some ((-1004), S))
def f_X10_append (a1 : Int32) (a2 : Int64) (S : St) : Option (Int32 × St) := f_X10_append_b0 a1 a2 S
/-! StyleRows$Tape.at(I)I -/
def f_X10_at_b27 (w0 : Int32) (S : St) : Option (Int32 × St) :=
  some (w0, S)
def f_X10_at_b26 (S : St) : Option (Int32 × St) :=
  f_X10_at_b27 (-1) S
def f_X10_at_b0 (a1 : Int32) (S : St) : Option (Int32 × St) :=
  if a1 < 0 then (f_X10_at_b26 S)
    else (if (gI S 5) ≤ a1 then (f_X10_at_b26 S)
      else (chk (inb a1 400) (f_X10_at_b27 ((rd S 24 a1) &&& 255) S)))
def f_X10_at (a1 : Int32) (S : St) : Option (Int32 × St) := f_X10_at_b0 a1 S
/-! StyleRows$Tape.clear()V -/
def f_X10_clear_b0 (S : St) : Option (Unit × St) :=
  vlet (pI S 5 0) (fun S1 => some ((), S1))
def f_X10_clear (S : St) : Option (Unit × St) := f_X10_clear_b0 S
/-! StyleRows.isTick(I)Z -/
def f_X11_isTick_b0 (a1 : Int32) (S : St) : Option (Int32 × St) :=
  bnd (f_X11_isWithin a1 0 20000 S) (fun r2 S1 => chk (isB r2) (some (r2, S1)))
def f_X11_isTick (a1 : Int32) (S : St) : Option (Int32 × St) := f_X11_isTick_b0 a1 S
/-! StyleRows.arc(III)I -/
def f_X11_arc_b32 (S : St) : Option (Int32 × St) :=
  some ((-1002), S)
def f_X11_arc_b0 (a1 : Int32) (a2 : Int32) (a3 : Int32) (S : St) : Option (Int32 × St) :=
  bnd (f_X11_isTick a1 S) (fun r2 S1 => if r2 = 0 then (f_X11_arc_b32 S1)
    else (bnd (f_X11_isTick a2 S1) (fun r4 S3 => if r4 = 0 then (f_X11_arc_b32 S3)
      else (if a2 ≤ a1 then (f_X11_arc_b32 S3)
        else (bnd (f_X11_isWithin a3 (-400) 400 S3) (fun r6 S5 => if r6 = 0 then (f_X11_arc_b32 S5)
          else (bnd (f_X0_shareWith a1 a2 S5) (fun r8 S7 => if r8 = 0 then (bnd (f_X0_add a1 a2 a3 S7) (fun r10 S9 => some (r10, S9)))
            else (some ((-1003), S7))))))))))
def f_X11_arc (a1 : Int32) (a2 : Int32) (a3 : Int32) (S : St) : Option (Int32 × St) := f_X11_arc_b0 a1 a2 a3 S
/-! StyleRows.count(I)I -/
def f_X11_count_b0 (a1 : Int32) (S : St) : Option (Int32 × St) :=
  if a1 = 0 then (some (gI S 2, S))
    else (if a1 = 1 then (some (gI S 3, S))
    else (if a1 = 2 then (some (gI S 4, S))
    else (if a1 = 3 then (some (gI S 6, S))
    else (if a1 = 4 then (some (gI S 21, S))
    else (if a1 = 5 then (some (gI S 5, S))
    else (some ((-1001), S)))))))
def f_X11_count (a1 : Int32) (S : St) : Option (Int32 × St) := f_X11_count_b0 a1 S
/-! StyleRows$Events.has(I)Z -/
def f_X1_has_b0 (a1 : Int32) (S : St) : Option (Int32 × St) :=
  bnd (f_X11_isWithin a1 0 ((gI S 21) - 1) S) (fun r2 S1 => chk (isB r2) (some (r2, S1)))
def f_X1_has (a1 : Int32) (S : St) : Option (Int32 × St) := f_X1_has_b0 a1 S
/-! StyleRows.event(II)I -/
def f_X11_event_b38 (w0 : Int32) (S : St) : Option (Int32 × St) :=
  some (w0, S)
def f_X11_event_b35 (S : St) : Option (Int32 × St) :=
  f_X11_event_b38 (-1001) S
def f_X11_event_b0 (a1 : Int32) (a2 : Int32) (S : St) : Option (Int32 × St) :=
  bnd (f_X1_has a1 S) (fun r2 S1 => if r2 = 0 then (f_X11_event_b35 S1)
    else (bnd (f_X11_isWithin a2 0 6 S1) (fun r4 S3 => if r4 = 0 then (f_X11_event_b35 S3)
      else (chk (inb a2 7) (chk (inb a1 400) (f_X11_event_b38 (rd S3 (42 + Int32.toNatClampNeg a2) a1) S3))))))
def f_X11_event (a1 : Int32) (a2 : Int32) (S : St) : Option (Int32 × St) := f_X11_event_b0 a1 a2 S
/-! StyleRows.feed(IJ)I -/
def f_X11_feed_b25 (w0 : Int32) (S : St) : Option (Int32 × St) :=
  some (w0, S)
def f_X11_feed_b0 (a1 : Int32) (a2 : Int64) (S : St) : Option (Int32 × St) :=
  bnd (f_X11_isWithin a1 1 8 S) (fun r2 S1 => if r2 = 0 then (f_X11_feed_b25 (-1002) S1)
    else (bnd (f_X10_append a1 a2 S1) (fun r4 S3 => f_X11_feed_b25 r4 S3)))
def f_X11_feed (a1 : Int32) (a2 : Int64) (S : St) : Option (Int32 × St) := f_X11_feed_b0 a1 a2 S
/-! StyleRows.isVoice(I)Z -/
def f_X11_isVoice_b0 (a1 : Int32) (S : St) : Option (Int32 × St) :=
  bnd (f_X11_isWithin a1 0 3 S) (fun r2 S1 => chk (isB r2) (some (r2, S1)))
def f_X11_isVoice (a1 : Int32) (S : St) : Option (Int32 × St) := f_X11_isVoice_b0 a1 S
/-! StyleRows$Levels.moveUpFrom(I)V -/
def f_X2_moveUpFrom_b5 (rec5 : Int32 × St → Option (Unit × St)) (v1 : Int32) (v2 : Int32) (S : St) : Option (Unit × St) :=
  if v2 ≤ v1 then (vlet (pI S 3 ((gI S 3) + 1)) (fun S2 => some ((), S2)))
    else (chk (inb (v2 - 1) 12) (chk (inb v2 12) (vlet (wr S 18 v2 (rd S 18 (v2 - 1))) (fun S3 => chk (inb (v2 - 1) 12) (chk (inb v2 12) (vlet (wr S3 19 v2 (rd S3 19 (v2 - 1))) (fun S4 => chk (inb (v2 - 1) 12) (chk (inb v2 12) (vlet (wr S4 20 v2 (vp_nar .boolean (rd S4 20 (v2 - 1)))) (fun S5 => rec5 (v2 + (-1), S5)))))))))))
def f_X2_moveUpFrom_l5 (v1 : Int32) (n : Nat) (s : Int32 × St) : Option (Unit × St) :=
  loopN (fun rec5 s => f_X2_moveUpFrom_b5 rec5 v1 s.1 s.2) n s
def f_X2_moveUpFrom_b0 (a1 : Int32) (S : St) : Option (Unit × St) :=
  vlet (gI S 3) (fun x1 => f_X2_moveUpFrom_l5 a1 fuel (x1, S))
def f_X2_moveUpFrom (a1 : Int32) (S : St) : Option (Unit × St) := f_X2_moveUpFrom_b0 a1 S
/-! StyleRows$Levels.put(IIZ)I -/
def f_X2_put_b85 (v1 : Int32) (v2 : Int32) (v3 : Int32) (v4 : Int32) (S : St) : Option (Int32 × St) :=
  chk (inb v4 12) (vlet (wr S 18 v4 v1) (fun S1 => chk (inb v4 12) (vlet (wr S1 19 v4 v2) (fun S2 => chk (inb v4 12) (vlet (wr S2 20 v4 (vp_nar .boolean v3)) (fun S3 => some (gI S3 3, S3)))))))
def f_X2_put_b74 (v1 : Int32) (v2 : Int32) (v3 : Int32) (v4 : Int32) (v5 : Int32) (S : St) : Option (Int32 × St) :=
  if v5 = 0 then (bnd (f_X2_moveUpFrom v4 S) (fun _u4 S4 => f_X2_put_b85 v1 v2 v3 v4 S4))
    else (f_X2_put_b85 v1 v2 v3 v4 S)
def f_X2_put_b54 (v1 : Int32) (v2 : Int32) (v3 : Int32) (v4 : Int32) (w0 : Int32) (S : St) : Option (Int32 × St) :=
  if w0 = 0 then (if (gI S 3) < 12 then (f_X2_put_b74 v1 v2 v3 v4 w0 S)
      else (some ((-1004), S)))
    else (f_X2_put_b74 v1 v2 v3 v4 w0 S)
def f_X2_put_b53 (v1 : Int32) (v2 : Int32) (v3 : Int32) (v4 : Int32) (S : St) : Option (Int32 × St) :=
  f_X2_put_b54 v1 v2 v3 v4 0 S
def f_X2_put_b29 (v1 : Int32) (v2 : Int32) (v3 : Int32) (v4 : Int32) (S : St) : Option (Int32 × St) :=
  if (gI S 3) ≤ v4 then (f_X2_put_b53 v1 v2 v3 v4 S)
    else (chk (inb v4 12) (if (rd S 18 v4) = v1 then (f_X2_put_b54 v1 v2 v3 v4 1 S)
      else (f_X2_put_b53 v1 v2 v3 v4 S)))
def f_X2_put_b3 (rec3 : Int32 × St → Option (Int32 × St)) (v1 : Int32) (v2 : Int32) (v3 : Int32) (v4 : Int32) (S : St) : Option (Int32 × St) :=
  if (gI S 3) ≤ v4 then (f_X2_put_b29 v1 v2 v3 v4 S)
    else (chk (inb v4 12) (if v1 ≤ (rd S 18 v4) then (f_X2_put_b29 v1 v2 v3 v4 S)
      else (rec3 (v4 + 1, S))))
def f_X2_put_l3 (v1 : Int32) (v2 : Int32) (v3 : Int32) (n : Nat) (s : Int32 × St) : Option (Int32 × St) :=
  loopN (fun rec3 s => f_X2_put_b3 rec3 v1 v2 v3 s.1 s.2) n s
def f_X2_put_b0 (a1 : Int32) (a2 : Int32) (a3 : Int32) (S : St) : Option (Int32 × St) :=
  f_X2_put_l3 a1 a2 a3 fuel (0, S)
def f_X2_put (a1 : Int32) (a2 : Int32) (a3 : Int32) (S : St) : Option (Int32 × St) := f_X2_put_b0 a1 a2 a3 S
/-! StyleRows.level(IIZ)I -/
def f_X11_level_b17 (S : St) : Option (Int32 × St) :=
  some ((-1002), S)
def f_X11_level_b0 (a1 : Int32) (a2 : Int32) (a3 : Int32) (S : St) : Option (Int32 × St) :=
  bnd (f_X11_isTick a1 S) (fun r2 S1 => if r2 = 0 then (f_X11_level_b17 S1)
    else (bnd (f_X11_isWithin a2 1 127 S1) (fun r4 S3 => if r4 = 0 then (f_X11_level_b17 S3)
      else (bnd (f_X2_put a1 a2 a3 S3) (fun r6 S5 => some (r6, S5))))))
def f_X11_level (a1 : Int32) (a2 : Int32) (a3 : Int32) (S : St) : Option (Int32 × St) := f_X11_level_b0 a1 a2 a3 S
/-! StyleRows$Levels.at(I)I -/
def f_X2_at_b54 (v3 : Int32) (S : St) : Option (Int32 × St) :=
  chk (inb v3 12) (some (rd S 19 v3, S))
def f_X2_at_b26 (v1 : Int32) (v2 : Int32) (S : St) : Option (Int32 × St) :=
  if v2 = 0 then (some (64, S))
    else (vlet (v2 - 1) (fun x1 => if v2 = (gI S 3) then (f_X2_at_b54 x1 S)
      else (chk (inb v2 12) (if (rd S 20 v2) = 0 then (f_X2_at_b54 x1 S)
        else (chk (inb v2 12) (chk (inb x1 12) (chk (inb x1 12) (vlet ((Int32.toInt64 ((rd S 19 v2) - (rd S 19 x1))) * (Int32.toInt64 (v1 - (rd S 18 x1)))) (fun y2 => chk (inb x1 12) (chk (inb v2 12) (chk (inb x1 12) (bnd (f_X11_quotient y2 (Int32.toInt64 ((rd S 18 v2) - (rd S 18 x1))) S) (fun r4 S3 => some ((rd S 19 x1) + r4, S3))))))))))))))
def f_X2_at_b2 (rec2 : Int32 × St → Option (Int32 × St)) (v1 : Int32) (v2 : Int32) (S : St) : Option (Int32 × St) :=
  if (gI S 3) ≤ v2 then (f_X2_at_b26 v1 v2 S)
    else (chk (inb v2 12) (if v1 < (rd S 18 v2) then (f_X2_at_b26 v1 v2 S)
      else (rec2 (v2 + 1, S))))
def f_X2_at_l2 (v1 : Int32) (n : Nat) (s : Int32 × St) : Option (Int32 × St) :=
  loopN (fun rec2 s => f_X2_at_b2 rec2 v1 s.1 s.2) n s
def f_X2_at_b0 (a1 : Int32) (S : St) : Option (Int32 × St) :=
  f_X2_at_l2 a1 fuel (0, S)
def f_X2_at (a1 : Int32) (S : St) : Option (Int32 × St) := f_X2_at_b0 a1 S
/-! StyleRows.levelAt(I)I -/
def f_X11_levelAt_b24 (w0 : Int32) (S : St) : Option (Int32 × St) :=
  some (w0, S)
def f_X11_levelAt_b0 (a1 : Int32) (S : St) : Option (Int32 × St) :=
  bnd (f_X11_isTick a1 S) (fun r2 S1 => if r2 = 0 then (f_X11_levelAt_b24 (-1002) S1)
    else (bnd (f_X2_at a1 S1) (fun r4 S3 => f_X11_levelAt_b24 r4 S3)))
def f_X11_levelAt (a1 : Int32) (S : St) : Option (Int32 × St) := f_X11_levelAt_b0 a1 S
/-! StyleRows$Notes.has(I)Z -/
def f_X4_has_b0 (a1 : Int32) (S : St) : Option (Int32 × St) :=
  bnd (f_X11_isWithin a1 0 ((gI S 2) - 1) S) (fun r2 S1 => chk (isB r2) (some (r2, S1)))
def f_X4_has (a1 : Int32) (S : St) : Option (Int32 × St) := f_X4_has_b0 a1 S
/-! StyleRows$Notes.changeMarks(II)I -/
def f_X4_changeMarks_b0 (a1 : Int32) (a2 : Int32) (S : St) : Option (Int32 × St) :=
  chk (inb a1 48) (vlet (rd S 17 a1) (fun x1 => chk (inb a1 48) (vlet (wr S 17 a1 a2) (fun S2 => some (x1, S2)))))
def f_X4_changeMarks (a1 : Int32) (a2 : Int32) (S : St) : Option (Int32 × St) := f_X4_changeMarks_b0 a1 a2 S
/-! StyleRows.mark(II)I -/
def f_X11_mark_b0 (a1 : Int32) (a2 : Int32) (S : St) : Option (Int32 × St) :=
  bnd (f_X4_has a1 S) (fun r2 S1 => if r2 = 0 then (some ((-1001), S1))
    else (bnd (f_X11_isWithin a2 0 127 S1) (fun r4 S3 => if r4 = 0 then (some ((-1002), S3))
      else (bnd (f_X4_changeMarks a1 a2 S3) (fun r6 S5 => some (r6, S5))))))
def f_X11_mark (a1 : Int32) (a2 : Int32) (S : St) : Option (Int32 × St) := f_X11_mark_b0 a1 a2 S
/-! StyleRows$Score.beat(II)V -/
def f_X9_beat_b0 (a1 : Int32) (a2 : Int32) (S : St) : Option (Unit × St) :=
  vlet (pI S 0 a1) (fun S1 => vlet (pI S1 1 a2) (fun S2 => some ((), S2)))
def f_X9_beat (a1 : Int32) (a2 : Int32) (S : St) : Option (Unit × St) := f_X9_beat_b0 a1 a2 S
/-! StyleRows.meter(II)I -/
def f_X11_meter_b21 (S : St) : Option (Int32 × St) :=
  some ((-1002), S)
def f_X11_meter_b0 (a1 : Int32) (a2 : Int32) (S : St) : Option (Int32 × St) :=
  bnd (f_X11_isWithin a1 1 12 S) (fun r2 S1 => if r2 = 0 then (f_X11_meter_b21 S1)
    else (bnd (f_X11_isWithin a2 1 960 S1) (fun r4 S3 => if r4 = 0 then (f_X11_meter_b21 S3)
      else (bnd (f_X9_beat a1 a2 S3) (fun _u5 S5 => some (1, S5))))))
def f_X11_meter (a1 : Int32) (a2 : Int32) (S : St) : Option (Int32 × St) := f_X11_meter_b0 a1 a2 S
/-! StyleRows$Notes.add(IIIII)I -/
def f_X4_add_b0 (a1 : Int32) (a2 : Int32) (a3 : Int32) (a4 : Int32) (a5 : Int32) (S : St) : Option (Int32 × St) :=
  if (gI S 2) < 48 then (chk (inb (gI S 2) 48) (vlet (wr S 13 (gI S 2) a1) (fun S1 => chk (inb (gI S1 2) 48) (vlet (wr S1 14 (gI S1 2) a2) (fun S2 => chk (inb (gI S2 2) 48) (vlet (wr S2 15 (gI S2 2) a3) (fun S3 => chk (inb (gI S3 2) 48) (vlet (wr S3 16 (gI S3 2) a4) (fun S4 => chk (inb (gI S4 2) 48) (vlet (wr S4 17 (gI S4 2) a5) (fun S5 => vlet (pI S5 2 ((gI S5 2) + 1)) (fun S6 => some ((gI S6 2) - 1, S6)))))))))))))
    else (some ((-1004), S))
def f_X4_add (a1 : Int32) (a2 : Int32) (a3 : Int32) (a4 : Int32) (a5 : Int32) (S : St) : Option (Int32 × St) := f_X4_add_b0 a1 a2 a3 a4 a5 S
/-! StyleRows.note(IIIII)I -/
def f_X11_note_b29 (S : St) : Option (Int32 × St) :=
  some ((-1002), S)
def f_X11_note_b56 (S : St) : Option (Int32 × St) :=
  some ((-1002), S)
def f_X11_note_b0 (a1 : Int32) (a2 : Int32) (a3 : Int32) (a4 : Int32) (a5 : Int32) (S : St) : Option (Int32 × St) :=
  bnd (f_X11_isVoice a1 S) (fun r2 S1 => if r2 = 0 then (f_X11_note_b29 S1)
    else (bnd (f_X11_isWithin a2 0 9600 S1) (fun r4 S3 => if r4 = 0 then (f_X11_note_b29 S3)
      else (bnd (f_X11_isWithin a3 1 960 S3) (fun r6 S5 => if r6 = 0 then (f_X11_note_b29 S5)
        else (bnd (f_X11_isWithin a4 12 115 S5) (fun r8 S7 => if r8 = 0 then (f_X11_note_b56 S7)
          else (bnd (f_X11_isWithin a5 0 127 S7) (fun r10 S9 => if r10 = 0 then (f_X11_note_b56 S9)
            else (bnd (f_X4_add a1 a2 a3 a4 a5 S9) (fun r12 S11 => some (r12, S11))))))))))))
def f_X11_note (a1 : Int32) (a2 : Int32) (a3 : Int32) (a4 : Int32) (a5 : Int32) (S : St) : Option (Int32 × St) := f_X11_note_b0 a1 a2 a3 a4 a5 S
/-! StyleRows$Events.clear()V -/
def f_X1_clear_b0 (S : St) : Option (Unit × St) :=
  vlet (pI S 19 0) (fun S1 => vlet (pI S1 20 0) (fun S2 => some ((), S2)))
def f_X1_clear (S : St) : Option (Unit × St) := f_X1_clear_b0 S
/-! StyleRows$Performer.takeNote(LStyleRows$Notes;I)V -/
def f_X6_takeNote_b0 (a2 : Int32) (S : St) : Option (Unit × St) :=
  vlet (pI S 12 a2) (fun S1 => chk (inb a2 48) (vlet (pI S1 13 (rd S1 13 a2)) (fun S2 => chk (inb a2 48) (vlet (pI S2 14 (rd S2 16 a2)) (fun S3 => chk (inb a2 48) (vlet (pI S3 15 (rd S3 17 a2)) (fun S4 => some ((), S4))))))))
def f_X6_takeNote (a2 : Int32) (S : St) : Option (Unit × St) := f_X6_takeNote_b0 a2 S
/-! StyleRows$Performer.isMarked(I)Z -/
def f_X6_isMarked_b14 (w0 : Int32) (S : St) : Option (Int32 × St) :=
  chk (isB w0) (some (w0, S))
def f_X6_isMarked_b0 (a1 : Int32) (S : St) : Option (Int32 × St) :=
  if ((gI S 15) &&& a1) = 0 then (f_X6_isMarked_b14 0 S)
    else (f_X6_isMarked_b14 1 S)
def f_X6_isMarked (a1 : Int32) (S : St) : Option (Int32 × St) := f_X6_isMarked_b0 a1 S
/-! StyleRows$Rules.countingFor(II)I -/
def f_X8_countingFor_b0 (a1 : Int32) (a2 : Int32) (S : St) : Option (Int32 × St) :=
  chk (inb ((a1 * 13) + a2) 52) (some (rd S 30 ((a1 * 13) + a2), S))
def f_X8_countingFor (a1 : Int32) (a2 : Int32) (S : St) : Option (Int32 × St) := f_X8_countingFor_b0 a1 a2 S
/-! StyleRows$Rules.numberFor(II)I -/
def f_X8_numberFor_b28 (w0 : Int32) (S : St) : Option (Int32 × St) :=
  some (w0, S)
def f_X8_numberFor_b0 (a1 : Int32) (a2 : Int32) (S : St) : Option (Int32 × St) :=
  bnd (f_X8_countingFor a1 a2 S) (fun r2 S1 => if r2 = (-1) then (chk (inb a2 13) (f_X8_numberFor_b28 (tbr 0 a2) S1))
    else (chk (inb r2 24) (f_X8_numberFor_b28 (rd S1 28 r2) S1)))
def f_X8_numberFor (a1 : Int32) (a2 : Int32) (S : St) : Option (Int32 × St) := f_X8_numberFor_b0 a1 a2 S
/-! StyleRows$Performer.longOf(ILStyleRows$Rules;)I -/
def f_X6_longOf_b25 (v1 : Int32) (w0 : Int32) (S : St) : Option (Int32 × St) :=
  bnd (f_X8_numberFor (gI S 13) w0 S) (fun r6 S5 => bnd (f_X8_numberFor (gI S5 13) 3 S5) (fun r8 S7 => vlet (imin r8 v1) (fun x9 => chk (nzI 100) (some (imax x9 ((v1 * r6) / 100), S7)))))
def f_X6_longOf_b0 (a1 : Int32) (S : St) : Option (Int32 × St) :=
  bnd (f_X6_isMarked 1 S) (fun r2 S1 => if r2 = 0 then (bnd (f_X6_isMarked 2 S1) (fun r4 S3 => if r4 = 0 then (f_X6_longOf_b25 a1 1 S3)
      else (f_X6_longOf_b25 a1 2 S3)))
    else (f_X6_longOf_b25 a1 0 S1))
def f_X6_longOf (a1 : Int32) (S : St) : Option (Int32 × St) := f_X6_longOf_b0 a1 S
/-! StyleRows$Score.isMultiple(II)Z -/
def f_X9_isMultiple_b15 (w0 : Int32) (S : St) : Option (Int32 × St) :=
  chk (isB w0) (some (w0, S))
def f_X9_isMultiple_b14 (S : St) : Option (Int32 × St) :=
  f_X9_isMultiple_b15 0 S
def f_X9_isMultiple_b0 (a1 : Int32) (a2 : Int32) (S : St) : Option (Int32 × St) :=
  if a2 ≤ 0 then (f_X9_isMultiple_b14 S)
    else (chk (nzI a2) (if (a1 - a1 / a2 * a2) = 0 then (f_X9_isMultiple_b15 1 S)
      else (f_X9_isMultiple_b14 S)))
def f_X9_isMultiple (a1 : Int32) (a2 : Int32) (S : St) : Option (Int32 × St) := f_X9_isMultiple_b0 a1 a2 S
/-! StyleRows$Score.beginsBar(I)Z -/
def f_X9_beginsBar_b0 (a1 : Int32) (S : St) : Option (Int32 × St) :=
  bnd (f_X9_isMultiple a1 ((gI S 0) * (gI S 1)) S) (fun r2 S1 => chk (isB r2) (some (r2, S1)))
def f_X9_beginsBar (a1 : Int32) (S : St) : Option (Int32 × St) := f_X9_beginsBar_b0 a1 S
/-! StyleRows$Score.beginsBeat(I)Z -/
def f_X9_beginsBeat_b0 (a1 : Int32) (S : St) : Option (Int32 × St) :=
  bnd (f_X9_isMultiple a1 (gI S 1) S) (fun r2 S1 => chk (isB r2) (some (r2, S1)))
def f_X9_beginsBeat (a1 : Int32) (S : St) : Option (Int32 × St) := f_X9_beginsBeat_b0 a1 S
/-! StyleRows$Performer.loudOf(LStyleRows$Score;ILStyleRows$Rules;)I -/
def f_X6_loudOf_b80 (v4 : Int32) (S : St) : Option (Int32 × St) :=
  some (imax 1 (imin 127 v4), S)
def f_X6_loudOf_b32 (v2 : Int32) (v4 : Int32) (S : St) : Option (Int32 × St) :=
  bnd (f_X9_beginsBar v2 S) (fun r6 S5 => if r6 = 0 then (bnd (f_X9_beginsBeat v2 S5) (fun r8 S7 => if r8 = 0 then (f_X6_loudOf_b80 v4 S7)
      else (bnd (f_X8_numberFor (gI S7 13) 6 S7) (fun r10 S9 => vlet (v4 + r10) (fun x11 => f_X6_loudOf_b80 x11 S9)))))
    else (bnd (f_X8_numberFor (gI S5 13) 5 S5) (fun r13 S12 => vlet (v4 + r13) (fun x14 => f_X6_loudOf_b80 x14 S12))))
def f_X6_loudOf_b0 (a2 : Int32) (S : St) : Option (Int32 × St) :=
  bnd (f_X2_at a2 S) (fun r2 S1 => bnd (f_X6_isMarked 4 S1) (fun r4 S3 => if r4 = 0 then (f_X6_loudOf_b32 a2 r2 S3)
    else (bnd (f_X8_numberFor (gI S3 13) 4 S3) (fun r16 S15 => vlet (r2 + r16) (fun x17 => f_X6_loudOf_b32 a2 x17 S15)))))
def f_X6_loudOf (a2 : Int32) (S : St) : Option (Int32 × St) := f_X6_loudOf_b0 a2 S
/-! StyleRows$Performer.drawOf(IJ)I -/
def f_X6_drawOf_b0 (a1 : Int32) (a2 : Int64) (S : St) : Option (Int32 × St) :=
  vlet (a2 + (((Int32.toInt64 (gI S 12)) + 1) * (-7046029254386353131))) (fun y1 => vlet ((y1 ^^^ (lus y1 30)) * (-4658895280553007687)) (fun y2 => vlet (y2 ^^^ (lus y2 27)) (fun y3 => bnd (f_J9_floorMod_f86c9 (lus y3 33) ((2 * (Int32.toInt64 (imax 0 a1))) + 1) S) (fun r5 S4 => some ((Int64.toInt32 r5) - a1, S4)))))
def f_X6_drawOf (a1 : Int32) (a2 : Int64) (S : St) : Option (Int32 × St) := f_X6_drawOf_b0 a1 a2 S
/-! StyleRows$Performer.onOf(ILStyleRows$Rules;J)I -/
def f_X6_onOf_b34 (w0 : Int32) (S : St) : Option (Int32 × St) :=
  some (w0, S)
def f_X6_onOf_b0 (a1 : Int32) (a3 : Int64) (S : St) : Option (Int32 × St) :=
  bnd (f_X8_numberFor (gI S 13) 12 S) (fun r2 S1 => if r2 ≤ 0 then (f_X6_onOf_b34 a1 S1)
    else (bnd (f_X6_drawOf r2 a3 S1) (fun r4 S3 => f_X6_onOf_b34 (imax 0 (a1 + r4)) S3)))
def f_X6_onOf (a1 : Int32) (a3 : Int64) (S : St) : Option (Int32 × St) := f_X6_onOf_b0 a1 a3 S
/-! StyleRows$Events.add(IIIIIII)V -/
def f_X1_add_b0 (a1 : Int32) (a2 : Int32) (a3 : Int32) (a4 : Int32) (a5 : Int32) (a6 : Int32) (a7 : Int32) (S : St) : Option (Unit × St) :=
  if (gI S 19) < 400 then (chk (inb (gI S 19) 400) (vlet (wr S 32 (gI S 19) a1) (fun S1 => chk (inb (gI S1 19) 400) (vlet (wr S1 33 (gI S1 19) a2) (fun S2 => chk (inb (gI S2 19) 400) (vlet (wr S2 34 (gI S2 19) a3) (fun S3 => chk (inb (gI S3 19) 400) (vlet (wr S3 35 (gI S3 19) a4) (fun S4 => chk (inb (gI S4 19) 400) (vlet (wr S4 36 (gI S4 19) a5) (fun S5 => chk (inb (gI S5 19) 400) (vlet (wr S5 37 (gI S5 19) a6) (fun S6 => chk (inb (gI S6 19) 400) (vlet (wr S6 38 (gI S6 19) a7) (fun S7 => vlet (pI S7 19 ((gI S7 19) + 1)) (fun S8 => some ((), S8)))))))))))))))))
    else (vlet (pI S 20 1) (fun S9 => some ((), S9)))
def f_X1_add (a1 : Int32) (a2 : Int32) (a3 : Int32) (a4 : Int32) (a5 : Int32) (a6 : Int32) (a7 : Int32) (S : St) : Option (Unit × St) := f_X1_add_b0 a1 a2 a3 a4 a5 a6 a7 S
/-! StyleRows$Performer.addPart(IIII)V -/
def f_X6_addPart_b0 (a1 : Int32) (a2 : Int32) (a3 : Int32) (a4 : Int32) (S : St) : Option (Unit × St) :=
  bnd (f_X1_add (gI S 17) a4 a2 a3 (gI S 12) a1 (gI S 13) S) (fun _u1 S1 => vlet (pI S1 17 ((gI S1 17) + a4)) (fun S2 => vlet (pI S2 18 ((gI S2 18) - a4)) (fun S3 => some ((), S3))))
def f_X6_addPart (a1 : Int32) (a2 : Int32) (a3 : Int32) (a4 : Int32) (S : St) : Option (Unit × St) := f_X6_addPart_b0 a1 a2 a3 a4 S
/-! StyleRows$Performer.addTurn(LStyleRows$Rules;)Z -/
def f_X6_addTurn_b0 (S : St) : Option (Int32 × St) :=
  if 3 ≤ (gI S 18) then (bnd (f_X8_numberFor (gI S 13) 9 S) (fun r2 S1 => chk (nzI 3) (vlet (imin r2 ((gI S1 18) / 3)) (fun x3 => bnd (f_X6_addPart 3 (gI S1 14) (gI S1 16) x3 S1) (fun _u4 S4 => bnd (f_X6_addPart 3 ((gI S4 14) - 2) (gI S4 16) x3 S4) (fun _u5 S5 => bnd (f_X6_addPart 3 (gI S5 14) (gI S5 16) (gI S5 18) S5) (fun _u6 S6 => some (1, S6))))))))
    else (some (0, S))
def f_X6_addTurn (S : St) : Option (Int32 × St) := f_X6_addTurn_b0 S
/-! StyleRows$Performer.addTrill(LStyleRows$Rules;)Z -/
def f_X6_addTrill_b129 (rec85 : Int32 × Int32 × St → Option (Int32 × St)) (v2 : Int32) (v3 : Int32) (v6 : Int32) (w0 : Int32) (S : St) : Option (Int32 × St) :=
  rec85 (w0, v6 + 1, S)
def f_X6_addTrill_b111 (rec85 : Int32 × Int32 × St → Option (Int32 × St)) (v2 : Int32) (v3 : Int32) (v4 : Int32) (v6 : Int32) (w1 : Int32) (w2 : Int32) (S : St) : Option (Int32 × St) :=
  bnd (f_X6_addPart w1 w2 (gI S 16) v2 S) (fun _u8 S8 => if v4 = 0 then (f_X6_addTrill_b129 rec85 v2 v3 v6 1 S8)
    else (f_X6_addTrill_b129 rec85 v2 v3 v6 0 S8))
def f_X6_addTrill_b85 (rec85 : Int32 × Int32 × St → Option (Int32 × St)) (v2 : Int32) (v3 : Int32) (v4 : Int32) (v6 : Int32) (S : St) : Option (Int32 × St) :=
  if v3 ≤ v6 then (bnd (f_X6_addPart 2 (gI S 14) (gI S 16) (gI S 18) S) (fun _u7 S7 => some (1, S7)))
    else (if v4 = 0 then (f_X6_addTrill_b111 rec85 v2 v3 v4 v6 2 (gI S 14) S)
      else (f_X6_addTrill_b111 rec85 v2 v3 v4 v6 2 ((gI S 14) + 2) S))
def f_X6_addTrill_l85 (v2 : Int32) (v3 : Int32) (n : Nat) (s : Int32 × Int32 × St) : Option (Int32 × St) :=
  loopN (fun rec85 s => f_X6_addTrill_b85 rec85 v2 v3 s.1 s.2.1 s.2.2) n s
def f_X6_addTrill_b82 (v2 : Int32) (v3 : Int32) (v4 : Int32) (S : St) : Option (Int32 × St) :=
  f_X6_addTrill_l85 v2 v3 fuel (v4, 1, S)
def f_X6_addTrill_b72 (v2 : Int32) (v3 : Int32) (v4 : Int32) (w0 : Int32) (S : St) : Option (Int32 × St) :=
  if w0 = 0 then (f_X6_addTrill_b82 v2 v3 v4 S)
    else (f_X6_addTrill_b82 v2 (v3 + (-1)) v4 S)
def f_X6_addTrill_b62 (v2 : Int32) (v3 : Int32) (v4 : Int32) (w0 : Int32) (S : St) : Option (Int32 × St) :=
  if w0 = v4 then (f_X6_addTrill_b72 v2 v3 v4 1 S)
    else (f_X6_addTrill_b72 v2 v3 v4 0 S)
def f_X6_addTrill_b48 (v2 : Int32) (v3 : Int32) (w0 : Int32) (S : St) : Option (Int32 × St) :=
  chk (nzI 2) (if (v3 - v3 / 2 * 2) = 1 then (f_X6_addTrill_b62 v2 v3 w0 1 S)
    else (f_X6_addTrill_b62 v2 v3 w0 0 S))
def f_X6_addTrill_b0 (S : St) : Option (Int32 × St) :=
  bnd (f_X8_numberFor (gI S 13) 7 S) (fun r2 S1 => bnd (f_X11_quotient (Int32.toInt64 (gI S1 18)) (Int32.toInt64 r2) S1) (fun r4 S3 => if 2 ≤ r4 then (bnd (f_X8_numberFor (gI S3 13) 8 S3) (fun r6 S5 => if r6 = 1 then (f_X6_addTrill_b48 r2 r4 1 S5)
      else (f_X6_addTrill_b48 r2 r4 0 S5)))
    else (some (0, S3))))
def f_X6_addTrill (S : St) : Option (Int32 × St) := f_X6_addTrill_b0 S
/-! StyleRows$Performer.addLean(LStyleRows$Rules;)V -/
def f_X6_addLean_b48 (S : St) : Option (Unit × St) :=
  some ((), S)
def f_X6_addLean_b0 (S : St) : Option (Unit × St) :=
  bnd (f_X8_numberFor (gI S 13) 10 S) (fun r2 S1 => chk (nzI 2) (vlet (imin r2 ((gI S1 18) / 2)) (fun x3 => if x3 ≤ 0 then (f_X6_addLean_b48 S1)
    else (chk (nzI 4) (bnd (f_X6_addPart 1 ((gI S1 14) + 2) (imax 1 (((gI S1 16) * 3) / 4)) x3 S1) (fun _u4 S4 => f_X6_addLean_b48 S4))))))
def f_X6_addLean (S : St) : Option (Unit × St) := f_X6_addLean_b0 S
/-! StyleRows$Notes.isInChord(II)Z -/
def f_X4_isInChord_b57 (w0 : Int32) (S : St) : Option (Int32 × St) :=
  chk (isB w0) (some (w0, S))
def f_X4_isInChord_b56 (S : St) : Option (Int32 × St) :=
  f_X4_isInChord_b57 0 S
def f_X4_isInChord_b17 (v1 : Int32) (v2 : Int32) (w0 : Int32) (S : St) : Option (Int32 × St) :=
  if w0 = 0 then (f_X4_isInChord_b56 S)
    else (chk (inb v1 48) (chk (inb v2 48) (if (rd S 13 v1) = (rd S 13 v2) then (chk (inb v1 48) (chk (inb v2 48) (if (rd S 14 v1) = (rd S 14 v2) then (f_X4_isInChord_b57 1 S)
        else (f_X4_isInChord_b56 S))))
      else (f_X4_isInChord_b56 S))))
def f_X4_isInChord_b0 (a1 : Int32) (a2 : Int32) (S : St) : Option (Int32 × St) :=
  chk (inb a1 48) (if ((rd S 17 a1) &&& 64) = 0 then (f_X4_isInChord_b17 a1 a2 0 S)
    else (f_X4_isInChord_b17 a1 a2 1 S))
def f_X4_isInChord (a1 : Int32) (a2 : Int32) (S : St) : Option (Int32 × St) := f_X4_isInChord_b0 a1 a2 S
/-! StyleRows$Notes.isLower(II)Z -/
def f_X4_isLower_b40 (w0 : Int32) (S : St) : Option (Int32 × St) :=
  chk (isB w0) (some (w0, S))
def f_X4_isLower_b35 (S : St) : Option (Int32 × St) :=
  f_X4_isLower_b40 1 S
def f_X4_isLower_b39 (S : St) : Option (Int32 × St) :=
  f_X4_isLower_b40 0 S
def f_X4_isLower_b0 (a1 : Int32) (a2 : Int32) (S : St) : Option (Int32 × St) :=
  chk (inb a1 48) (chk (inb a2 48) (if (rd S 16 a1) < (rd S 16 a2) then (f_X4_isLower_b35 S)
    else (chk (inb a1 48) (chk (inb a2 48) (if (rd S 16 a1) = (rd S 16 a2) then (if a2 ≤ a1 then (f_X4_isLower_b39 S)
        else (f_X4_isLower_b35 S))
      else (f_X4_isLower_b39 S))))))
def f_X4_isLower (a1 : Int32) (a2 : Int32) (S : St) : Option (Int32 × St) := f_X4_isLower_b0 a1 a2 S
/-! StyleRows$Notes.rolledAhead(I)I -/
def f_X4_rolledAhead_b33 (rec4 : Int32 × Int32 × St → Option (Int32 × St)) (v1 : Int32) (v2 : Int32) (v3 : Int32) (S : St) : Option (Int32 × St) :=
  rec4 (v2, v3 + 1, S)
def f_X4_rolledAhead_b4 (rec4 : Int32 × Int32 × St → Option (Int32 × St)) (v1 : Int32) (v2 : Int32) (v3 : Int32) (S : St) : Option (Int32 × St) :=
  if (gI S 2) ≤ v3 then (some (v2, S))
    else (bnd (f_X4_isInChord v3 v1 S) (fun r2 S1 => if r2 = 0 then (f_X4_rolledAhead_b33 rec4 v1 v2 v3 S1)
      else (bnd (f_X4_isLower v3 v1 S1) (fun r4 S3 => if r4 = 0 then (f_X4_rolledAhead_b33 rec4 v1 v2 v3 S3)
        else (f_X4_rolledAhead_b33 rec4 v1 (v2 + 1) v3 S3)))))
def f_X4_rolledAhead_l4 (v1 : Int32) (n : Nat) (s : Int32 × Int32 × St) : Option (Int32 × St) :=
  loopN (fun rec4 s => f_X4_rolledAhead_b4 rec4 v1 s.1 s.2.1 s.2.2) n s
def f_X4_rolledAhead_b0 (a1 : Int32) (S : St) : Option (Int32 × St) :=
  f_X4_rolledAhead_l4 a1 fuel (0, 0, S)
def f_X4_rolledAhead (a1 : Int32) (S : St) : Option (Int32 × St) := f_X4_rolledAhead_b0 a1 S
/-! StyleRows$Performer.roll(LStyleRows$Notes;LStyleRows$Rules;)V -/
def f_X6_roll_b0 (S : St) : Option (Unit × St) :=
  bnd (f_X4_rolledAhead (gI S 12) S) (fun r2 S1 => bnd (f_X8_numberFor (gI S1 13) 11 S1) (fun r4 S3 => vlet (imin (r2 * r4) ((gI S3 18) - 1)) (fun x5 => vlet (pI S3 17 ((gI S3 17) + x5)) (fun S6 => vlet (pI S6 18 ((gI S6 18) - x5)) (fun S7 => some ((), S7))))))
def f_X6_roll (S : St) : Option (Unit × St) := f_X6_roll_b0 S
/-! StyleRows$Performer.addParts(LStyleRows$Notes;LStyleRows$Rules;)V -/
def f_X6_addParts_b65 (S : St) : Option (Unit × St) :=
  bnd (f_X6_addPart 0 (gI S 14) (gI S 16) (gI S 18) S) (fun _u9 S9 => some ((), S9))
def f_X6_addParts_b47 (S : St) : Option (Unit × St) :=
  bnd (f_X6_isMarked 16 S) (fun r8 S7 => if r8 = 0 then (f_X6_addParts_b65 S7)
    else (bnd (f_X6_addTurn S7) (fun r11 S10 => if r11 = 0 then (f_X6_addParts_b65 S10)
      else (some ((), S10)))))
def f_X6_addParts_b29 (S : St) : Option (Unit × St) :=
  bnd (f_X6_isMarked 8 S) (fun r6 S5 => if r6 = 0 then (f_X6_addParts_b47 S5)
    else (bnd (f_X6_addTrill S5) (fun r13 S12 => if r13 = 0 then (f_X6_addParts_b47 S12)
      else (some ((), S12)))))
def f_X6_addParts_b15 (S : St) : Option (Unit × St) :=
  bnd (f_X6_isMarked 32 S) (fun r4 S3 => if r4 = 0 then (f_X6_addParts_b29 S3)
    else (bnd (f_X6_addLean S3) (fun _u14 S14 => f_X6_addParts_b29 S14)))
def f_X6_addParts_b0 (S : St) : Option (Unit × St) :=
  bnd (f_X6_isMarked 64 S) (fun r2 S1 => if r2 = 0 then (f_X6_addParts_b15 S1)
    else (bnd (f_X6_roll S1) (fun _u15 S15 => f_X6_addParts_b15 S15)))
def f_X6_addParts (S : St) : Option (Unit × St) := f_X6_addParts_b0 S
/-! StyleRows$Performer.makeParts(LStyleRows$Score;LStyleRows$Rules;J)Z -/
def f_X6_makeParts_b131 (w0 : Int32) (S : St) : Option (Int32 × St) :=
  chk (isB w0) (some (w0, S))
def f_X6_makeParts_b116 (S : St) : Option (Int32 × St) :=
  if (gI S 20) = 0 then (f_X6_makeParts_b131 1 S)
    else (f_X6_makeParts_b131 0 S)
def f_X6_makeParts_b10 (rec10 : Int32 × St → Option (Int32 × St)) (v3 : Int64) (v5 : Int32) (S : St) : Option (Int32 × St) :=
  if (gI S 2) ≤ v5 then (f_X6_makeParts_b116 S)
    else (if (gI S 20) = 0 then (bnd (f_X6_takeNote v5 S) (fun _u2 S2 => chk (inb v5 48) (bnd (f_X6_longOf (rd S2 15 v5) S2) (fun r4 S3 => vlet (pI S3 18 r4) (fun S5 => chk (inb v5 48) (bnd (f_X6_loudOf (rd S5 14 v5) S5) (fun r7 S6 => vlet (pI S6 16 r7) (fun S8 => chk (inb v5 48) (bnd (f_X6_onOf (rd S8 14 v5) v3 S8) (fun r10 S9 => vlet (pI S9 17 r10) (fun S11 => bnd (f_X6_addParts S11) (fun _u12 S12 => rec10 (v5 + 1, S12)))))))))))))
      else (f_X6_makeParts_b116 S))
def f_X6_makeParts_l10 (v3 : Int64) (n : Nat) (s : Int32 × St) : Option (Int32 × St) :=
  loopN (fun rec10 s => f_X6_makeParts_b10 rec10 v3 s.1 s.2) n s
def f_X6_makeParts_b0 (a3 : Int64) (S : St) : Option (Int32 × St) :=
  bnd (f_X1_clear S) (fun _u1 S1 => f_X6_makeParts_l10 a3 fuel (0, S1))
def f_X6_makeParts (a3 : Int64) (S : St) : Option (Int32 × St) := f_X6_makeParts_b0 a3 S
/-! StyleRows$Events.bend(LStyleRows$Arcs;)V -/
def f_X1_bend_b2 (rec2 : Int32 × St → Option (Unit × St)) (v2 : Int32) (S : St) : Option (Unit × St) :=
  if (gI S 19) ≤ v2 then (some ((), S))
    else (chk (inb v2 400) (bnd (f_X0_bent (rd S 32 v2) S) (fun r2 S1 => chk (inb v2 400) (chk (inb v2 400) (bnd (f_X0_bent ((rd S1 32 v2) + (rd S1 33 v2)) S1) (fun r4 S3 => chk (inb v2 400) (vlet (wr S3 32 v2 r2) (fun S5 => chk (inb v2 400) (vlet (wr S5 33 v2 (imax 1 (r4 - r2))) (fun S6 => rec2 (v2 + 1, S6)))))))))))
def f_X1_bend_l2 (n : Nat) (s : Int32 × St) : Option (Unit × St) :=
  loopN (fun rec2 s => f_X1_bend_b2 rec2 s.1 s.2) n s
def f_X1_bend_b0 (S : St) : Option (Unit × St) :=
  f_X1_bend_l2 fuel (0, S)
def f_X1_bend (S : St) : Option (Unit × St) := f_X1_bend_b0 S
/-! StyleRows$Order.merge(III)V -/
def f_X5_merge_b82 (rec9 : Int32 × Int32 × Int32 × St → Option (Unit × St)) (v2 : Int32) (v3 : Int32) (v4 : Int32) (v5 : Int32) (v6 : Int32) (S : St) : Option (Unit × St) :=
  rec9 (v4, v5, v6 + 1, S)
def f_X5_merge_b65 (rec9 : Int32 × Int32 × Int32 × St → Option (Unit × St)) (v2 : Int32) (v3 : Int32) (v4 : Int32) (v5 : Int32) (v6 : Int32) (S : St) : Option (Unit × St) :=
  chk (isL (gR S 0)) (chk (inb v5 400) (chk (isL (gR S 1)) (chk (inb v6 400) (vlet (wrL S (gR S 1) v6 (rdL S (gR S 0) v5)) (fun S1 => f_X5_merge_b82 rec9 v2 v3 v4 (v5 + 1) v6 S1)))))
def f_X5_merge_b45 (rec9 : Int32 × Int32 × Int32 × St → Option (Unit × St)) (v2 : Int32) (v3 : Int32) (v4 : Int32) (v5 : Int32) (v6 : Int32) (S : St) : Option (Unit × St) :=
  chk (isL (gR S 0)) (chk (inb v4 400) (chk (isL (gR S 1)) (chk (inb v6 400) (vlet (wrL S (gR S 1) v6 (rdL S (gR S 0) v4)) (fun S2 => f_X5_merge_b82 rec9 v2 v3 (v4 + 1) v5 v6 S2)))))
def f_X5_merge_b9 (rec9 : Int32 × Int32 × Int32 × St → Option (Unit × St)) (v2 : Int32) (v3 : Int32) (v4 : Int32) (v5 : Int32) (v6 : Int32) (S : St) : Option (Unit × St) :=
  if v3 ≤ v6 then (some ((), S))
    else (if v2 ≤ v4 then (f_X5_merge_b65 rec9 v2 v3 v4 v5 v6 S)
      else (if v3 ≤ v5 then (f_X5_merge_b45 rec9 v2 v3 v4 v5 v6 S)
        else (chk (isL (gR S 0)) (chk (inb v4 400) (chk (isL (gR S 0)) (chk (inb v5 400) (if 0 ≤ (lg_cmp (rdL S (gR S 0) v4) (rdL S (gR S 0) v5)) then (f_X5_merge_b65 rec9 v2 v3 v4 v5 v6 S)
          else (f_X5_merge_b45 rec9 v2 v3 v4 v5 v6 S))))))))
def f_X5_merge_l9 (v2 : Int32) (v3 : Int32) (n : Nat) (s : Int32 × Int32 × Int32 × St) : Option (Unit × St) :=
  loopN (fun rec9 s => f_X5_merge_b9 rec9 v2 v3 s.1 s.2.1 s.2.2.1 s.2.2.2) n s
def f_X5_merge_b0 (a1 : Int32) (a2 : Int32) (a3 : Int32) (S : St) : Option (Unit × St) :=
  f_X5_merge_l9 a2 a3 fuel (a1, a2, a1, S)
def f_X5_merge (a1 : Int32) (a2 : Int32) (a3 : Int32) (S : St) : Option (Unit × St) := f_X5_merge_b0 a1 a2 a3 S
/-! StyleRows$Order.keyOf(LStyleRows$Events;I)J -/
def f_X5_keyOf_b0 (a2 : Int32) (S : St) : Option (Int64 × St) :=
  chk (inb a2 400) (vlet (Int32.toInt64 (rd S 32 a2)) (fun y1 => chk (inb a2 400) (vlet ((y1 * 4) + (Int32.toInt64 (rd S 38 a2))) (fun y2 => chk (inb a2 400) (vlet ((y2 * 128) + (Int32.toInt64 (rd S 34 a2))) (fun y3 => some ((y3 * 400) + (Int32.toInt64 a2), S)))))))
def f_X5_keyOf (a2 : Int32) (S : St) : Option (Int64 × St) := f_X5_keyOf_b0 a2 S
/-! StyleRows$Order.sort(LStyleRows$Events;)V -/
def f_X5_sort_b39 (rec31 : Int32 × St → Option (Unit × St)) (rec39 : Int32 × St → Option (Unit × St)) (v2 : Int32) (v3 : Int32) (v4 : Int32) (S : St) : Option (Unit × St) :=
  if v2 ≤ v4 then (vlet (gR S 1) (fun n2 => vlet (pR S 1 (gR S 0)) (fun S3 => vlet (pR S3 0 n2) (fun S4 => vlet (v3 * 2) (fun x5 => rec31 (x5, S4))))))
    else (bnd (f_X5_merge v4 (imin (v4 + v3) v2) (imin (v4 + (2 * v3)) v2) S) (fun _u6 S6 => vlet (v4 + (2 * v3)) (fun x7 => rec39 (x7, S6))))
def f_X5_sort_l39 (rec31 : Int32 × St → Option (Unit × St)) (v2 : Int32) (v3 : Int32) (n : Nat) (s : Int32 × St) : Option (Unit × St) :=
  loopN (fun rec39 s => f_X5_sort_b39 rec31 rec39 v2 v3 s.1 s.2) n s
def f_X5_sort_b31 (rec31 : Int32 × St → Option (Unit × St)) (v2 : Int32) (v3 : Int32) (S : St) : Option (Unit × St) :=
  if v2 ≤ v3 then (some ((), S))
    else (f_X5_sort_l39 rec31 v2 v3 fuel (0, S))
def f_X5_sort_l31 (v2 : Int32) (n : Nat) (s : Int32 × St) : Option (Unit × St) :=
  loopN (fun rec31 s => f_X5_sort_b31 rec31 v2 s.1 s.2) n s
def f_X5_sort_b7 (rec7 : Int32 × St → Option (Unit × St)) (v2 : Int32) (v3 : Int32) (S : St) : Option (Unit × St) :=
  if v2 ≤ v3 then (f_X5_sort_l31 v2 fuel (1, S))
    else (bnd (f_X5_keyOf v3 S) (fun r9 S8 => chk (isL (gR S 0)) (chk (inb v3 400) (vlet (wrL S8 (gR S 0) v3 r9) (fun S10 => rec7 (v3 + 1, S10))))))
def f_X5_sort_l7 (v2 : Int32) (n : Nat) (s : Int32 × St) : Option (Unit × St) :=
  loopN (fun rec7 s => f_X5_sort_b7 rec7 v2 s.1 s.2) n s
def f_X5_sort_b0 (S : St) : Option (Unit × St) :=
  vlet (gI S 19) (fun x1 => f_X5_sort_l7 x1 fuel (0, S))
def f_X5_sort (S : St) : Option (Unit × St) := f_X5_sort_b0 S
/-! StyleRows$Order.partAt(I)I -/
def f_X5_partAt_b0 (a1 : Int32) (S : St) : Option (Int32 × St) :=
  chk (isL (gR S 0)) (chk (inb a1 400) (bnd (f_J9_floorMod_1978a (rdL S (gR S 0) a1) 400 S) (fun r2 S1 => some (r2, S1))))
def f_X5_partAt (a1 : Int32) (S : St) : Option (Int32 × St) := f_X5_partAt_b0 a1 S
/-! StyleRows$Events.takeInOrder(LStyleRows$Events;LStyleRows$Order;)V -/
def f_X1_takeInOrder_b28 (rec10 : Int32 × St → Option (Unit × St)) (rec28 : Int32 × St → Option (Unit × St)) (v3 : Int32) (v4 : Int32) (v5 : Int32) (S : St) : Option (Unit × St) :=
  if 7 ≤ v5 then (rec10 (v3 + 1, S))
    else (chk (inb v5 7) (chk (inb v5 7) (chk (inb v4 400) (chk (inb v3 400) (vlet (wr S (42 + Int32.toNatClampNeg v5) v3 (rd S (32 + Int32.toNatClampNeg v5) v4)) (fun S6 => rec28 (v5 + 1, S6)))))))
def f_X1_takeInOrder_l28 (rec10 : Int32 × St → Option (Unit × St)) (v3 : Int32) (v4 : Int32) (n : Nat) (s : Int32 × St) : Option (Unit × St) :=
  loopN (fun rec28 s => f_X1_takeInOrder_b28 rec10 rec28 v3 v4 s.1 s.2) n s
def f_X1_takeInOrder_b10 (rec10 : Int32 × St → Option (Unit × St)) (v3 : Int32) (S : St) : Option (Unit × St) :=
  if (gI S 21) ≤ v3 then (some ((), S))
    else (bnd (f_X5_partAt v3 S) (fun r3 S2 => f_X1_takeInOrder_l28 rec10 v3 r3 fuel (0, S2)))
def f_X1_takeInOrder_l10 (n : Nat) (s : Int32 × St) : Option (Unit × St) :=
  loopN (fun rec10 s => f_X1_takeInOrder_b10 rec10 s.1 s.2) n s
def f_X1_takeInOrder_b0 (S : St) : Option (Unit × St) :=
  vlet (pI S 21 (gI S 19)) (fun S1 => f_X1_takeInOrder_l10 fuel (0, S1))
def f_X1_takeInOrder (S : St) : Option (Unit × St) := f_X1_takeInOrder_b0 S
/-! StyleRows$Events.endOf(I)I -/
def f_X1_endOf_b0 (a1 : Int32) (S : St) : Option (Int32 × St) :=
  chk (inb a1 400) (chk (inb a1 400) (some ((rd S 42 a1) + (rd S 43 a1), S)))
def f_X1_endOf (a1 : Int32) (S : St) : Option (Int32 × St) := f_X1_endOf_b0 a1 S
/-! StyleRows$Events.repeats(II)Z -/
def f_X1_repeats_b74 (w0 : Int32) (S : St) : Option (Int32 × St) :=
  chk (isB w0) (some (w0, S))
def f_X1_repeats_b73 (S : St) : Option (Int32 × St) :=
  f_X1_repeats_b74 0 S
def f_X1_repeats_b45 (v1 : Int32) (v2 : Int32) (w0 : Int32) (S : St) : Option (Int32 × St) :=
  if w0 = 0 then (f_X1_repeats_b73 S)
    else (chk (inb v1 400) (chk (inb v2 400) (if (rd S 42 v1) ≤ (rd S 42 v2) then (f_X1_repeats_b73 S)
      else (f_X1_repeats_b74 1 S))))
def f_X1_repeats_b44 (v1 : Int32) (v2 : Int32) (S : St) : Option (Int32 × St) :=
  f_X1_repeats_b45 v1 v2 0 S
def f_X1_repeats_b0 (a1 : Int32) (a2 : Int32) (S : St) : Option (Int32 × St) :=
  chk (inb a1 400) (chk (inb a2 400) (if (rd S 48 a1) = (rd S 48 a2) then (chk (inb a1 400) (chk (inb a2 400) (if (rd S 44 a1) = (rd S 44 a2) then (f_X1_repeats_b45 a1 a2 1 S)
      else (f_X1_repeats_b44 a1 a2 S))))
    else (f_X1_repeats_b44 a1 a2 S)))
def f_X1_repeats (a1 : Int32) (a2 : Int32) (S : St) : Option (Int32 × St) := f_X1_repeats_b0 a1 a2 S
/-! StyleRows$Events.endAtRepeat(I)V -/
def f_X1_endAtRepeat_b71 (S : St) : Option (Unit × St) :=
  some ((), S)
def f_X1_endAtRepeat_b10 (rec10 : Int32 × St → Option (Unit × St)) (v1 : Int32) (v2 : Int32) (v3 : Int32) (S : St) : Option (Unit × St) :=
  if (gI S 21) ≤ v3 then (f_X1_endAtRepeat_b71 S)
    else (chk (inb v3 400) (if v2 ≤ (rd S 42 v3) then (f_X1_endAtRepeat_b71 S)
      else (bnd (f_X1_repeats v3 v1 S) (fun r5 S4 => if r5 = 0 then (rec10 (v3 + 1, S4))
        else (chk (inb v3 400) (chk (inb v1 400) (chk (inb v1 400) (vlet (wr S4 43 v1 ((rd S4 42 v3) - (rd S4 42 v1))) (fun S6 => some ((), S6))))))))))
def f_X1_endAtRepeat_l10 (v1 : Int32) (v2 : Int32) (n : Nat) (s : Int32 × St) : Option (Unit × St) :=
  loopN (fun rec10 s => f_X1_endAtRepeat_b10 rec10 v1 v2 s.1 s.2) n s
def f_X1_endAtRepeat_b0 (a1 : Int32) (S : St) : Option (Unit × St) :=
  bnd (f_X1_endOf a1 S) (fun r2 S1 => vlet (a1 + 1) (fun x3 => f_X1_endAtRepeat_l10 a1 r2 fuel (x3, S1)))
def f_X1_endAtRepeat (a1 : Int32) (S : St) : Option (Unit × St) := f_X1_endAtRepeat_b0 a1 S
/-! StyleRows$Events.endAtRepeats()V -/
def f_X1_endAtRepeats_b2 (rec2 : Int32 × St → Option (Unit × St)) (v1 : Int32) (S : St) : Option (Unit × St) :=
  if (gI S 21) ≤ v1 then (some ((), S))
    else (bnd (f_X1_endAtRepeat v1 S) (fun _u1 S1 => rec2 (v1 + 1, S1)))
def f_X1_endAtRepeats_l2 (n : Nat) (s : Int32 × St) : Option (Unit × St) :=
  loopN (fun rec2 s => f_X1_endAtRepeats_b2 rec2 s.1 s.2) n s
def f_X1_endAtRepeats_b0 (S : St) : Option (Unit × St) :=
  f_X1_endAtRepeats_l2 fuel (0, S)
def f_X1_endAtRepeats (S : St) : Option (Unit × St) := f_X1_endAtRepeats_b0 S
/-! StyleRows.perform()I -/
def f_X11_perform_b0 (S : St) : Option (Int32 × St) :=
  bnd (f_X6_makeParts (gJ S 0) S) (fun r2 S1 => if r2 = 0 then (some ((-1004), S1))
    else (bnd (f_X1_bend S1) (fun _u3 S3 => bnd (f_X5_sort S3) (fun _u4 S4 => bnd (f_X1_takeInOrder S4) (fun _u5 S5 => bnd (f_X1_endAtRepeats S5) (fun _u6 S6 => some (gI S6 21, S6)))))))
def f_X11_perform (S : St) : Option (Int32 × St) := f_X11_perform_b0 S
/-! StyleRows$Rules.clear()I -/
def f_X8_clear_b17 (rec17 : Int32 × St → Option (Int32 × St)) (v1 : Int32) (v2 : Int32) (S : St) : Option (Int32 × St) :=
  if 52 ≤ v2 then (some (v1, S))
    else (chk (inb v2 52) (vlet (wr S 30 v2 (-1)) (fun S4 => rec17 (v2 + 1, S4))))
def f_X8_clear_l17 (v1 : Int32) (n : Nat) (s : Int32 × St) : Option (Int32 × St) :=
  loopN (fun rec17 s => f_X8_clear_b17 rec17 v1 s.1 s.2) n s
def f_X8_clear_b0 (S : St) : Option (Int32 × St) :=
  vlet (gI S 6) (fun x1 => vlet (pI S 6 0) (fun S2 => vlet (pI S2 7 0) (fun S3 => f_X8_clear_l17 x1 fuel (0, S3))))
def f_X8_clear (S : St) : Option (Int32 × St) := f_X8_clear_b0 S
/-! StyleRows.plain()I -/
def f_X11_plain_b0 (S : St) : Option (Int32 × St) :=
  bnd (f_X8_clear S) (fun r2 S1 => some (r2, S1))
def f_X11_plain (S : St) : Option (Int32 × St) := f_X11_plain_b0 S
/-! StyleRows$Rules.dropStaged()V -/
def f_X8_dropStaged_b0 (S : St) : Option (Unit × St) :=
  vlet (pI S 7 (gI S 6)) (fun S1 => some ((), S1))
def f_X8_dropStaged (S : St) : Option (Unit × St) := f_X8_dropStaged_b0 S
/-! StyleRows$Reader.kindAt(LStyleRows$Tape;I)I -/
def f_X7_kindAt_b25 (S : St) : Option (Int32 × St) :=
  some (1, S)
def f_X7_kindAt_b56 (w0 : Int32) (S : St) : Option (Int32 × St) :=
  some (w0, S)
def f_X7_kindAt_b0 (a2 : Int32) (S : St) : Option (Int32 × St) :=
  bnd (f_X10_at a2 S) (fun r2 S1 => if r2 = (-1) then (some (0, S1))
    else (if r2 = 32 then (f_X7_kindAt_b25 S1)
      else (if r2 = 10 then (f_X7_kindAt_b25 S1)
        else (bnd (f_X11_isWithin r2 97 122 S1) (fun r4 S3 => if r4 = 0 then (bnd (f_X11_isWithin r2 48 57 S3) (fun r6 S5 => if r6 = 0 then (f_X7_kindAt_b56 4 S5)
            else (f_X7_kindAt_b56 3 S5)))
          else (some (2, S3)))))))
def f_X7_kindAt (a2 : Int32) (S : St) : Option (Int32 × St) := f_X7_kindAt_b0 a2 S
/-! StyleRows$Reader.takePiece(LStyleRows$Tape;)V -/
def f_X7_takePiece_b136 (S : St) : Option (Unit × St) :=
  some ((), S)
def f_X7_takePiece_b97 (rec97 : St → Option (Unit × St)) (S : St) : Option (Unit × St) :=
  if (gI S 5) ≤ (gI S 9) then (f_X7_takePiece_b136 S)
    else (bnd (f_X7_kindAt (gI S 9) S) (fun r7 S6 => if r7 = (gI S6 10) then (vlet (pI S6 9 ((gI S6 9) + 1)) (fun S8 => rec97 S8))
      else (f_X7_takePiece_b136 S6)))
def f_X7_takePiece_l97 (n : Nat) (s : St) : Option (Unit × St) :=
  loopN (fun rec97 s => f_X7_takePiece_b97 rec97  s) n s
def f_X7_takePiece_b77 (w1 : Int32) (S : St) : Option (Unit × St) :=
  vlet (pI S 9 w1) (fun S5 => if (gI S5 10) = 2 then (f_X7_takePiece_l97 fuel S5)
    else (if (gI S5 10) = 3 then (f_X7_takePiece_l97 fuel S5)
      else (some ((), S5))))
def f_X7_takePiece_b44 (S : St) : Option (Unit × St) :=
  bnd (f_X7_kindAt (gI S 8) S) (fun r3 S2 => vlet (pI S2 10 r3) (fun S4 => if (gI S4 10) = 0 then (f_X7_takePiece_b77 (gI S4 8) S4)
    else (f_X7_takePiece_b77 ((gI S4 8) + 1) S4)))
def f_X7_takePiece_b8 (rec8 : St → Option (Unit × St)) (S : St) : Option (Unit × St) :=
  if (gI S 5) ≤ (gI S 8) then (f_X7_takePiece_b44 S)
    else (bnd (f_X7_kindAt (gI S 8) S) (fun r10 S9 => if r10 = 1 then (vlet (pI S9 8 ((gI S9 8) + 1)) (fun S11 => rec8 S11))
      else (f_X7_takePiece_b44 S9)))
def f_X7_takePiece_l8 (n : Nat) (s : St) : Option (Unit × St) :=
  loopN (fun rec8 s => f_X7_takePiece_b8 rec8  s) n s
def f_X7_takePiece_b0 (S : St) : Option (Unit × St) :=
  vlet (pI S 8 (gI S 9)) (fun S1 => f_X7_takePiece_l8 fuel S1)
def f_X7_takePiece (S : St) : Option (Unit × St) := f_X7_takePiece_b0 S
/-! StyleRows$Rules.areFull()Z -/
def f_X8_areFull_b14 (w0 : Int32) (S : St) : Option (Int32 × St) :=
  chk (isB w0) (some (w0, S))
def f_X8_areFull_b0 (S : St) : Option (Int32 × St) :=
  if (gI S 7) < 24 then (f_X8_areFull_b14 0 S)
    else (f_X8_areFull_b14 1 S)
def f_X8_areFull (S : St) : Option (Int32 × St) := f_X8_areFull_b0 S
/-! StyleRows$Reader.isWord(LStyleRows$Tape;Ljava/lang/String;)Z -/
def f_X7_isWord_b24 (S : St) : Option (Int32 × St) :=
  some (0, S)
def f_X7_isWord_b28 (rec28 : Int32 × St → Option (Int32 × St)) (v2 : Nat) (v3 : Int32) (S : St) : Option (Int32 × St) :=
  chk (ltN v2 16) (bnd (f_J0_length_8abf5 v2 S) (fun r5 S4 => if r5 ≤ v3 then (some (1, S4))
    else (bnd (f_X10_at ((gI S4 8) + v3) S4) (fun r8 S7 => chk (ltN v2 16) (bnd (f_J0_charAt_5068e v2 v3 S7) (fun r10 S9 => if r8 = r10 then (rec28 (v3 + 1, S9))
      else (some (0, S9))))))))
def f_X7_isWord_l28 (v2 : Nat) (n : Nat) (s : Int32 × St) : Option (Int32 × St) :=
  loopN (fun rec28 s => f_X7_isWord_b28 rec28 v2 s.1 s.2) n s
def f_X7_isWord_b0 (a2 : Nat) (S : St) : Option (Int32 × St) :=
  if (gI S 10) = 2 then (chk (ltN a2 16) (bnd (f_J0_length_8abf5 a2 S) (fun r2 S1 => if ((gI S 9) - (gI S 8)) = r2 then (f_X7_isWord_l28 a2 fuel (0, S1))
      else (f_X7_isWord_b24 S1))))
    else (f_X7_isWord_b24 S)
def f_X7_isWord (a2 : Nat) (S : St) : Option (Int32 × St) := f_X7_isWord_b0 a2 S
/-! StyleRows$Names.wordOf(I)Ljava/lang/String; -/
def f_X3_wordOf_b0 (a1 : Int32) (S : St) : Option (Nat × St) :=
  if a1 = 0 then (some (0, S))
    else (if a1 = 1 then (some (1, S))
    else (if a1 = 2 then (some (2, S))
    else (if a1 = 3 then (some (3, S))
    else (if a1 = 4 then (some (4, S))
    else (if a1 = 5 then (some (5, S))
    else (if a1 = 6 then (some (6, S))
    else (if a1 = 7 then (some (7, S))
    else (if a1 = 8 then (some (8, S))
    else (if a1 = 9 then (some (9, S))
    else (if a1 = 10 then (some (10, S))
    else (if a1 = 11 then (some (11, S))
    else (if a1 = 12 then (some (12, S))
    else (some (13, S))))))))))))))
def f_X3_wordOf (a1 : Int32) (S : St) : Option (Nat × St) := f_X3_wordOf_b0 a1 S
/-! StyleRows$Reader.nameThere(LStyleRows$Tape;)I -/
def f_X7_nameThere_b2 (rec2 : Int32 × St → Option (Int32 × St)) (v2 : Int32) (S : St) : Option (Int32 × St) :=
  if 13 ≤ v2 then (some ((-1), S))
    else (bnd (f_X3_wordOf v2 S) (fun r2 S1 => bnd (f_X7_isWord r2 S1) (fun r4 S3 => if r4 = 0 then (rec2 (v2 + 1, S3))
      else (some (v2, S3)))))
def f_X7_nameThere_l2 (n : Nat) (s : Int32 × St) : Option (Int32 × St) :=
  loopN (fun rec2 s => f_X7_nameThere_b2 rec2 s.1 s.2) n s
def f_X7_nameThere_b0 (S : St) : Option (Int32 × St) :=
  f_X7_nameThere_l2 fuel (0, S)
def f_X7_nameThere (S : St) : Option (Int32 × St) := f_X7_nameThere_b0 S
/-! StyleRows$Reader.takeNumber(LStyleRows$Tape;II)Z -/
def f_X7_takeNumber_b21 (rec21 : Int32 × St → Option (Int32 × St)) (v2 : Int32) (v3 : Int32) (v4 : Int32) (S : St) : Option (Int32 × St) :=
  if (gI S 9) ≤ v4 then (bnd (f_X11_isWithin (gI S 11) v2 v3 S) (fun r4 S3 => if r4 = 0 then (some (0, S3))
      else (bnd (f_X7_takePiece S3) (fun _u5 S5 => some (1, S5)))))
    else (bnd (f_X10_at v4 S) (fun r7 S6 => vlet (pI S6 11 (imin 1000000 ((((gI S 11) * 10) + r7) - 48))) (fun S8 => rec21 (v4 + 1, S8))))
def f_X7_takeNumber_l21 (v2 : Int32) (v3 : Int32) (n : Nat) (s : Int32 × St) : Option (Int32 × St) :=
  loopN (fun rec21 s => f_X7_takeNumber_b21 rec21 v2 v3 s.1 s.2) n s
def f_X7_takeNumber_b0 (a2 : Int32) (a3 : Int32) (S : St) : Option (Int32 × St) :=
  if (gI S 10) = 3 then (vlet (pI S 11 0) (fun S1 => vlet (gI S1 8) (fun x2 => f_X7_takeNumber_l21 a2 a3 fuel (x2, S1))))
    else (some (0, S))
def f_X7_takeNumber (a2 : Int32) (a3 : Int32) (S : St) : Option (Int32 × St) := f_X7_takeNumber_b0 a2 a3 S
/-! StyleRows$Rules.stage(IIII)V -/
def f_X8_stage_b0 (a1 : Int32) (a2 : Int32) (a3 : Int32) (a4 : Int32) (S : St) : Option (Unit × St) :=
  bnd (f_X8_areFull S) (fun r2 S1 => if r2 = 0 then (chk (inb (gI S1 7) 24) (vlet (wr S1 26 (gI S1 7) a1) (fun S3 => chk (inb (gI S3 7) 24) (vlet (wr S3 27 (gI S3 7) a2) (fun S4 => chk (inb (gI S4 7) 24) (vlet (wr S4 28 (gI S4 7) a3) (fun S5 => chk (inb (gI S5 7) 24) (vlet (wr S5 29 (gI S5 7) a4) (fun S6 => vlet (pI S6 7 ((gI S6 7) + 1)) (fun S7 => some ((), S7)))))))))))
    else (some ((), S1)))
def f_X8_stage (a1 : Int32) (a2 : Int32) (a3 : Int32) (a4 : Int32) (S : St) : Option (Unit × St) := f_X8_stage_b0 a1 a2 a3 a4 S
/-! StyleRows$Reader.takeRule(LStyleRows$Tape;LStyleRows$Rules;)Z -/
def f_X7_takeRule_b128 (v3 : Int32) (v4 : Int32) (v5 : Int32) (v6 : Int32) (S : St) : Option (Int32 × St) :=
  bnd (f_X10_at (gI S 8) S) (fun r14 S13 => if r14 = 59 then (bnd (f_X7_takePiece S13) (fun _u15 S15 => bnd (f_X8_stage v3 v5 v6 v4 S15) (fun _u16 S16 => some (1, S16))))
    else (some (0, S13)))
def f_X7_takeRule_b46 (v3 : Int32) (v4 : Int32) (S : St) : Option (Int32 × St) :=
  bnd (f_X7_nameThere S) (fun r6 S5 => if r6 = (-1) then (some (0, S5))
    else (bnd (f_X7_takePiece S5) (fun _u7 S7 => chk (inb r6 13) (chk (inb r6 13) (bnd (f_X7_takeNumber (tbr 1 r6) (tbr 2 r6) S7) (fun r9 S8 => if r9 = 0 then (some (0, S8))
      else (vlet (gI S8 11) (fun x10 => bnd (f_X7_isWord 15 S8) (fun r12 S11 => if r12 = 0 then (f_X7_takeRule_b128 v3 v4 r6 x10 S11)
        else (bnd (f_X7_takePiece S11) (fun _u17 S17 => bnd (f_X7_takeNumber 0 9 S17) (fun r19 S18 => if r19 = 0 then (some (0, S18))
          else (vlet (gI S18 11) (fun x20 => f_X7_takeRule_b128 v3 x20 r6 x10 S18))))))))))))))
def f_X7_takeRule_b0 (S : St) : Option (Int32 × St) :=
  bnd (f_X8_areFull S) (fun r2 S1 => if r2 = 0 then (bnd (f_X7_isWord 14 S1) (fun r4 S3 => if r4 = 0 then (f_X7_takeRule_b46 (-1) 0 S3)
      else (bnd (f_X7_takePiece S3) (fun _u21 S21 => bnd (f_X7_takeNumber 0 3 S21) (fun r23 S22 => if r23 = 0 then (some (0, S22))
        else (vlet (gI S22 11) (fun x24 => f_X7_takeRule_b46 x24 0 S22)))))))
    else (some (0, S1)))
def f_X7_takeRule (S : St) : Option (Int32 × St) := f_X7_takeRule_b0 S
/-! StyleRows$Reader.findFault(LStyleRows$Tape;LStyleRows$Rules;)I -/
def f_X7_findFault_b16 (rec16 : Int32 × St → Option (Int32 × St)) (v3 : Int32) (S : St) : Option (Int32 × St) :=
  if 24 < v3 then (some (gI S 8, S))
    else (if (gI S 10) = 0 then (some ((-1), S))
      else (bnd (f_X7_takeRule S) (fun r5 S4 => if r5 = 0 then (some (gI S4 8, S4))
        else (rec16 (v3 + 1, S4)))))
def f_X7_findFault_l16 (n : Nat) (s : Int32 × St) : Option (Int32 × St) :=
  loopN (fun rec16 s => f_X7_findFault_b16 rec16 s.1 s.2) n s
def f_X7_findFault_b0 (S : St) : Option (Int32 × St) :=
  bnd (f_X8_dropStaged S) (fun _u1 S1 => vlet (pI S1 9 0) (fun S2 => bnd (f_X7_takePiece S2) (fun _u3 S3 => f_X7_findFault_l16 fuel (0, S3))))
def f_X7_findFault (S : St) : Option (Int32 × St) := f_X7_findFault_b0 S
/-! StyleRows$Rules.isOutrankedBy(II)Z -/
def f_X8_isOutrankedBy_b29 (w0 : Int32) (S : St) : Option (Int32 × St) :=
  chk (isB w0) (some (w0, S))
def f_X8_isOutrankedBy_b24 (S : St) : Option (Int32 × St) :=
  f_X8_isOutrankedBy_b29 1 S
def f_X8_isOutrankedBy_b0 (a1 : Int32) (a2 : Int32) (S : St) : Option (Int32 × St) :=
  if a1 = (-1) then (f_X8_isOutrankedBy_b24 S)
    else (chk (inb a1 24) (chk (inb a2 24) (if (rd S 29 a2) < (rd S 29 a1) then (f_X8_isOutrankedBy_b29 0 S)
      else (f_X8_isOutrankedBy_b24 S))))
def f_X8_isOutrankedBy (a1 : Int32) (a2 : Int32) (S : St) : Option (Int32 × St) := f_X8_isOutrankedBy_b0 a1 a2 S
/-! StyleRows$Rules.letCount(I)V -/
def f_X8_letCount_b64 (rec2 : Int32 × St → Option (Unit × St)) (v1 : Int32) (v2 : Int32) (S : St) : Option (Unit × St) :=
  rec2 (v2 + 1, S)
def f_X8_letCount_b41 (rec2 : Int32 × St → Option (Unit × St)) (v1 : Int32) (v2 : Int32) (v4 : Int32) (S : St) : Option (Unit × St) :=
  chk (inb v4 52) (bnd (f_X8_isOutrankedBy (rd S 30 v4) v1 S) (fun r4 S3 => if r4 = 0 then (f_X8_letCount_b64 rec2 v1 v2 S3)
    else (chk (inb v4 52) (vlet (wr S3 30 v4 v1) (fun S5 => f_X8_letCount_b64 rec2 v1 v2 S5)))))
def f_X8_letCount_b2 (rec2 : Int32 × St → Option (Unit × St)) (v1 : Int32) (v2 : Int32) (S : St) : Option (Unit × St) :=
  if 4 ≤ v2 then (some ((), S))
    else (chk (inb v1 24) (vlet (rd S 26 v1) (fun x1 => chk (inb v1 24) (vlet ((v2 * 13) + (rd S 27 v1)) (fun x2 => if x1 = (-1) then (f_X8_letCount_b41 rec2 v1 v2 x2 S)
      else (if x1 = v2 then (f_X8_letCount_b41 rec2 v1 v2 x2 S)
        else (f_X8_letCount_b64 rec2 v1 v2 S)))))))
def f_X8_letCount_l2 (v1 : Int32) (n : Nat) (s : Int32 × St) : Option (Unit × St) :=
  loopN (fun rec2 s => f_X8_letCount_b2 rec2 v1 s.1 s.2) n s
def f_X8_letCount_b0 (a1 : Int32) (S : St) : Option (Unit × St) :=
  f_X8_letCount_l2 a1 fuel (0, S)
def f_X8_letCount (a1 : Int32) (S : St) : Option (Unit × St) := f_X8_letCount_b0 a1 S
/-! StyleRows$Rules.keepStaged()I -/
def f_X8_keepStaged_b5 (rec5 : Int32 × St → Option (Int32 × St)) (v1 : Int32) (S : St) : Option (Int32 × St) :=
  if (gI S 7) ≤ v1 then (vlet (pI S 6 (gI S 7)) (fun S2 => some (gI S2 6, S2)))
    else (bnd (f_X8_letCount v1 S) (fun _u3 S3 => rec5 (v1 + 1, S3)))
def f_X8_keepStaged_l5 (n : Nat) (s : Int32 × St) : Option (Int32 × St) :=
  loopN (fun rec5 s => f_X8_keepStaged_b5 rec5 s.1 s.2) n s
def f_X8_keepStaged_b0 (S : St) : Option (Int32 × St) :=
  vlet (gI S 6) (fun x1 => f_X8_keepStaged_l5 fuel (x1, S))
def f_X8_keepStaged (S : St) : Option (Int32 × St) := f_X8_keepStaged_b0 S
/-! StyleRows.read()I -/
def f_X11_read_b42 (w0 : Int32) (S : St) : Option (Int32 × St) :=
  some (w0, S)
def f_X11_read_b0 (S : St) : Option (Int32 × St) :=
  bnd (f_X7_findFault S) (fun r2 S1 => bnd (f_X10_clear S1) (fun _u3 S3 => if r2 = (-1) then (bnd (f_X8_keepStaged S3) (fun r5 S4 => f_X11_read_b42 r5 S4))
    else (f_X11_read_b42 ((-10) - r2) S3)))
def f_X11_read (S : St) : Option (Int32 × St) := f_X11_read_b0 S
/-! StyleRows$Rules.has(I)Z -/
def f_X8_has_b0 (a1 : Int32) (S : St) : Option (Int32 × St) :=
  bnd (f_X11_isWithin a1 0 ((gI S 6) - 1) S) (fun r2 S1 => chk (isB r2) (some (r2, S1)))
def f_X8_has (a1 : Int32) (S : St) : Option (Int32 × St) := f_X8_has_b0 a1 S
/-! StyleRows.rule(II)I -/
def f_X11_rule_b37 (w0 : Int32) (S : St) : Option (Int32 × St) :=
  some (w0, S)
def f_X11_rule_b34 (S : St) : Option (Int32 × St) :=
  f_X11_rule_b37 (-1001) S
def f_X11_rule_b0 (a1 : Int32) (a2 : Int32) (S : St) : Option (Int32 × St) :=
  bnd (f_X8_has a1 S) (fun r2 S1 => if r2 = 0 then (f_X11_rule_b34 S1)
    else (bnd (f_X11_isWithin a2 0 3 S1) (fun r4 S3 => if r4 = 0 then (f_X11_rule_b34 S3)
      else (chk (inb a2 4) (chk (inb a1 24) (f_X11_rule_b37 (rd S3 (26 + Int32.toNatClampNeg a2) a1) S3))))))
def f_X11_rule (a1 : Int32) (a2 : Int32) (S : St) : Option (Int32 × St) := f_X11_rule_b0 a1 a2 S
/-! StyleRows$Events.soundingAt(I)I -/
def f_X1_soundingAt_b36 (rec4 : Int32 × Int32 × St → Option (Int32 × St)) (v1 : Int32) (v2 : Int32) (v3 : Int32) (S : St) : Option (Int32 × St) :=
  rec4 (v2, v3 + 1, S)
def f_X1_soundingAt_b4 (rec4 : Int32 × Int32 × St → Option (Int32 × St)) (v1 : Int32) (v2 : Int32) (v3 : Int32) (S : St) : Option (Int32 × St) :=
  if (gI S 21) ≤ v3 then (some (v2, S))
    else (chk (inb v3 400) (if v1 < (rd S 42 v3) then (f_X1_soundingAt_b36 rec4 v1 v2 v3 S)
      else (bnd (f_X1_endOf v3 S) (fun r2 S1 => if r2 ≤ v1 then (f_X1_soundingAt_b36 rec4 v1 v2 v3 S1)
        else (f_X1_soundingAt_b36 rec4 v1 (v2 + 1) v3 S1)))))
def f_X1_soundingAt_l4 (v1 : Int32) (n : Nat) (s : Int32 × Int32 × St) : Option (Int32 × St) :=
  loopN (fun rec4 s => f_X1_soundingAt_b4 rec4 v1 s.1 s.2.1 s.2.2) n s
def f_X1_soundingAt_b0 (a1 : Int32) (S : St) : Option (Int32 × St) :=
  f_X1_soundingAt_l4 a1 fuel (0, 0, S)
def f_X1_soundingAt (a1 : Int32) (S : St) : Option (Int32 × St) := f_X1_soundingAt_b0 a1 S
/-! StyleRows.sounding(I)I -/
def f_X11_sounding_b0 (a1 : Int32) (S : St) : Option (Int32 × St) :=
  bnd (f_X1_soundingAt a1 S) (fun r2 S1 => some (r2, S1))
def f_X11_sounding (a1 : Int32) (S : St) : Option (Int32 × St) := f_X11_sounding_b0 a1 S
/-! StyleRows$Events.howManyOf(I)I -/
def f_X1_howManyOf_b27 (rec4 : Int32 × Int32 × St → Option (Int32 × St)) (v1 : Int32) (v2 : Int32) (v3 : Int32) (S : St) : Option (Int32 × St) :=
  rec4 (v2, v3 + 1, S)
def f_X1_howManyOf_b4 (rec4 : Int32 × Int32 × St → Option (Int32 × St)) (v1 : Int32) (v2 : Int32) (v3 : Int32) (S : St) : Option (Int32 × St) :=
  if (gI S 21) ≤ v3 then (some (v2, S))
    else (chk (inb v3 400) (if (rd S 46 v3) = v1 then (f_X1_howManyOf_b27 rec4 v1 (v2 + 1) v3 S)
      else (f_X1_howManyOf_b27 rec4 v1 v2 v3 S)))
def f_X1_howManyOf_l4 (v1 : Int32) (n : Nat) (s : Int32 × Int32 × St) : Option (Int32 × St) :=
  loopN (fun rec4 s => f_X1_howManyOf_b4 rec4 v1 s.1 s.2.1 s.2.2) n s
def f_X1_howManyOf_b0 (a1 : Int32) (S : St) : Option (Int32 × St) :=
  f_X1_howManyOf_l4 a1 fuel (0, 0, S)
def f_X1_howManyOf (a1 : Int32) (S : St) : Option (Int32 × St) := f_X1_howManyOf_b0 a1 S
/-! StyleRows$Events.firstBeginOf(I)I -/
def f_X1_firstBeginOf_b2 (rec2 : Int32 × St → Option (Int32 × St)) (v1 : Int32) (v2 : Int32) (S : St) : Option (Int32 × St) :=
  if (gI S 21) ≤ v2 then (some ((-1), S))
    else (chk (inb v2 400) (if (rd S 46 v2) = v1 then (chk (inb v2 400) (some (rd S 42 v2, S)))
      else (rec2 (v2 + 1, S))))
def f_X1_firstBeginOf_l2 (v1 : Int32) (n : Nat) (s : Int32 × St) : Option (Int32 × St) :=
  loopN (fun rec2 s => f_X1_firstBeginOf_b2 rec2 v1 s.1 s.2) n s
def f_X1_firstBeginOf_b0 (a1 : Int32) (S : St) : Option (Int32 × St) :=
  f_X1_firstBeginOf_l2 a1 fuel (0, S)
def f_X1_firstBeginOf (a1 : Int32) (S : St) : Option (Int32 × St) := f_X1_firstBeginOf_b0 a1 S
/-! StyleRows$Events.lastEndOf(I)I -/
def f_X1_lastEndOf_b52 (rec7 : Int32 × Int32 × Int32 × St → Option (Int32 × St)) (v1 : Int32) (v2 : Int32) (v3 : Int32) (v4 : Int32) (S : St) : Option (Int32 × St) :=
  rec7 (v2, v3, v4 + 1, S)
def f_X1_lastEndOf_b43 (rec7 : Int32 × Int32 × Int32 × St → Option (Int32 × St)) (v1 : Int32) (v4 : Int32) (S : St) : Option (Int32 × St) :=
  bnd (f_X1_endOf v4 S) (fun r2 S1 => f_X1_lastEndOf_b52 rec7 v1 1 r2 v4 S1)
def f_X1_lastEndOf_b7 (rec7 : Int32 × Int32 × Int32 × St → Option (Int32 × St)) (v1 : Int32) (v2 : Int32) (v3 : Int32) (v4 : Int32) (S : St) : Option (Int32 × St) :=
  if (gI S 21) ≤ v4 then (some (v3, S))
    else (chk (inb v4 400) (if (rd S 46 v4) = v1 then (if v2 = 0 then (f_X1_lastEndOf_b43 rec7 v1 v4 S)
        else (bnd (f_X1_endOf v4 S) (fun r4 S3 => if r4 ≤ v3 then (f_X1_lastEndOf_b52 rec7 v1 v2 v3 v4 S3)
          else (f_X1_lastEndOf_b43 rec7 v1 v4 S3))))
      else (f_X1_lastEndOf_b52 rec7 v1 v2 v3 v4 S)))
def f_X1_lastEndOf_l7 (v1 : Int32) (n : Nat) (s : Int32 × Int32 × Int32 × St) : Option (Int32 × St) :=
  loopN (fun rec7 s => f_X1_lastEndOf_b7 rec7 v1 s.1 s.2.1 s.2.2.1 s.2.2.2) n s
def f_X1_lastEndOf_b0 (a1 : Int32) (S : St) : Option (Int32 × St) :=
  f_X1_lastEndOf_l7 a1 fuel (0, (-1), 0, S)
def f_X1_lastEndOf (a1 : Int32) (S : St) : Option (Int32 × St) := f_X1_lastEndOf_b0 a1 S
/-! StyleRows.span(II)I -/
def f_X11_span_b0 (a1 : Int32) (a2 : Int32) (S : St) : Option (Int32 × St) :=
  bnd (f_X4_has a1 S) (fun r2 S1 => if r2 = 0 then (some ((-1001), S1))
    else (if a2 = 0 then (bnd (f_X1_howManyOf a1 S1) (fun r5 S4 => some (r5, S4)))
      else (if a2 = 1 then (bnd (f_X1_firstBeginOf a1 S1) (fun r8 S7 => some (r8, S7)))
      else (if a2 = 2 then (bnd (f_X1_lastEndOf a1 S1) (fun r11 S10 => some (r11, S10)))
      else (some ((-1001), S1))))))
def f_X11_span (a1 : Int32) (a2 : Int32) (S : St) : Option (Int32 × St) := f_X11_span_b0 a1 a2 S
/-! StyleRows.timeOf(I)I -/
def f_X11_timeOf_b24 (w0 : Int32) (S : St) : Option (Int32 × St) :=
  some (w0, S)
def f_X11_timeOf_b0 (a1 : Int32) (S : St) : Option (Int32 × St) :=
  bnd (f_X11_isTick a1 S) (fun r2 S1 => if r2 = 0 then (f_X11_timeOf_b24 (-1002) S1)
    else (bnd (f_X0_bent a1 S1) (fun r4 S3 => f_X11_timeOf_b24 r4 S3)))
def f_X11_timeOf (a1 : Int32) (S : St) : Option (Int32 × St) := f_X11_timeOf_b0 a1 S
/-! StyleRows$Names.has(I)Z -/
def f_X3_has_b0 (a1 : Int32) (S : St) : Option (Int32 × St) :=
  bnd (f_X11_isWithin a1 0 12 S) (fun r2 S1 => chk (isB r2) (some (r2, S1)))
def f_X3_has (a1 : Int32) (S : St) : Option (Int32 × St) := f_X3_has_b0 a1 S
/-! StyleRows.value(II)I -/
def f_X11_value_b29 (w0 : Int32) (S : St) : Option (Int32 × St) :=
  some (w0, S)
def f_X11_value_b26 (S : St) : Option (Int32 × St) :=
  f_X11_value_b29 (-1001) S
def f_X11_value_b0 (a1 : Int32) (a2 : Int32) (S : St) : Option (Int32 × St) :=
  bnd (f_X11_isVoice a1 S) (fun r2 S1 => if r2 = 0 then (f_X11_value_b26 S1)
    else (bnd (f_X3_has a2 S1) (fun r4 S3 => if r4 = 0 then (f_X11_value_b26 S3)
      else (bnd (f_X8_numberFor a1 a2 S3) (fun r6 S5 => f_X11_value_b29 r6 S5)))))
def f_X11_value (a1 : Int32) (a2 : Int32) (S : St) : Option (Int32 × St) := f_X11_value_b0 a1 a2 S
/-! StyleRows.why(II)I -/
def f_X11_why_b29 (w0 : Int32) (S : St) : Option (Int32 × St) :=
  some (w0, S)
def f_X11_why_b26 (S : St) : Option (Int32 × St) :=
  f_X11_why_b29 (-1001) S
def f_X11_why_b0 (a1 : Int32) (a2 : Int32) (S : St) : Option (Int32 × St) :=
  bnd (f_X11_isVoice a1 S) (fun r2 S1 => if r2 = 0 then (f_X11_why_b26 S1)
    else (bnd (f_X3_has a2 S1) (fun r4 S3 => if r4 = 0 then (f_X11_why_b26 S3)
      else (bnd (f_X8_countingFor a1 a2 S3) (fun r6 S5 => f_X11_why_b29 r6 S5)))))
def f_X11_why (a1 : Int32) (a2 : Int32) (S : St) : Option (Int32 × St) := f_X11_why_b0 a1 a2 S
/-! StyleRowsModel.in(JJJ)Z -/
def f_X12_in_b18 (w0 : Int32) (S : St) : Option (Int32 × St) :=
  chk (isB w0) (some (w0, S))
def f_X12_in_b17 (S : St) : Option (Int32 × St) :=
  f_X12_in_b18 0 S
def f_X12_in_b0 (a1 : Int64) (a2 : Int64) (a3 : Int64) (S : St) : Option (Int32 × St) :=
  if (lg_cmp a1 a2) < 0 then (f_X12_in_b17 S)
    else (if 0 < (lg_cmp a1 a3) then (f_X12_in_b17 S)
      else (f_X12_in_b18 1 S))
def f_X12_in (a1 : Int64) (a2 : Int64) (a3 : Int64) (S : St) : Option (Int32 × St) := f_X12_in_b0 a1 a2 a3 S
/-! StyleRowsModel.arc(III)I -/
def f_X12_arc_b30 (S : St) : Option (Int32 × St) :=
  some ((-1002), S)
def f_X12_arc_b72 (rec37 : Int32 × St → Option (Int32 × St)) (v1 : Int32) (v2 : Int32) (v3 : Int32) (v4 : Int32) (S : St) : Option (Int32 × St) :=
  rec37 (v4 + 1, S)
def f_X12_arc_b37 (rec37 : Int32 × St → Option (Int32 × St)) (v1 : Int32) (v2 : Int32) (v3 : Int32) (v4 : Int32) (S : St) : Option (Int32 × St) :=
  if (gI S 27) ≤ v4 then (if (gI S 27) = 6 then (some ((-1004), S))
      else (chk (inb (gI S 27) 6) (vlet (wr S 57 (gI S 27) v1) (fun S3 => chk (inb (gI S3 27) 6) (vlet (wr S3 58 (gI S3 27) v2) (fun S4 => chk (inb (gI S4 27) 6) (vlet (wr S4 59 (gI S4 27) v3) (fun S5 => vlet (pI S5 27 ((gI S5 27) + 1)) (fun S6 => some (gI S6 27, S6))))))))))
    else (chk (inb v4 6) (if (rd S 58 v4) ≤ v1 then (f_X12_arc_b72 rec37 v1 v2 v3 v4 S)
      else (chk (inb v4 6) (if v2 ≤ (rd S 57 v4) then (f_X12_arc_b72 rec37 v1 v2 v3 v4 S)
        else (some ((-1003), S))))))
def f_X12_arc_l37 (v1 : Int32) (v2 : Int32) (v3 : Int32) (n : Nat) (s : Int32 × St) : Option (Int32 × St) :=
  loopN (fun rec37 s => f_X12_arc_b37 rec37 v1 v2 v3 s.1 s.2) n s
def f_X12_arc_b0 (a1 : Int32) (a2 : Int32) (a3 : Int32) (S : St) : Option (Int32 × St) :=
  if a1 < 0 then (f_X12_arc_b30 S)
    else (if 20000 < a2 then (f_X12_arc_b30 S)
      else (if a2 ≤ a1 then (f_X12_arc_b30 S)
        else (bnd (f_X12_in (Int32.toInt64 a3) (-400) 400 S) (fun r2 S1 => if r2 = 0 then (f_X12_arc_b30 S1)
          else (f_X12_arc_l37 a1 a2 a3 fuel (0, S1))))))
def f_X12_arc (a1 : Int32) (a2 : Int32) (a3 : Int32) (S : St) : Option (Int32 × St) := f_X12_arc_b0 a1 a2 a3 S
/-! StyleRowsModel.at(I)I -/
def f_X12_at_b18 (w0 : Int32) (S : St) : Option (Int32 × St) :=
  some (w0, S)
def f_X12_at_b0 (a1 : Int32) (S : St) : Option (Int32 × St) :=
  if (gI S 29) ≤ a1 then (f_X12_at_b18 (-1) S)
    else (chk (inb a1 400) (f_X12_at_b18 (rd S 64 a1) S))
def f_X12_at (a1 : Int32) (S : St) : Option (Int32 × St) := f_X12_at_b0 a1 S
/-! StyleRowsModel.count(I)I -/
def f_X12_count_b74 (w0 : Int32) (S : St) : Option (Int32 × St) :=
  some (w0, S)
def f_X12_count_b0 (a1 : Int32) (S : St) : Option (Int32 × St) :=
  if a1 = 0 then (f_X12_count_b74 (gI S 23) S)
    else (if a1 = 1 then (f_X12_count_b74 (gI S 24) S)
      else (if a1 = 2 then (f_X12_count_b74 (gI S 27) S)
        else (if a1 = 3 then (f_X12_count_b74 (gI S 28) S)
          else (if a1 = 4 then (f_X12_count_b74 (gI S 34) S)
            else (if a1 = 5 then (f_X12_count_b74 (gI S 29) S)
              else (f_X12_count_b74 (-1001) S))))))
def f_X12_count (a1 : Int32) (S : St) : Option (Int32 × St) := f_X12_count_b0 a1 S
/-! StyleRowsModel.counts(II)I -/
def f_X12_counts_b86 (rec5 : Int32 × Int32 × St → Option (Int32 × St)) (v1 : Int32) (v2 : Int32) (v4 : Int32) (w0 : Int32) (S : St) : Option (Int32 × St) :=
  rec5 (w0, v4 + 1, S)
def f_X12_counts_b85 (rec5 : Int32 × Int32 × St → Option (Int32 × St)) (v1 : Int32) (v2 : Int32) (v3 : Int32) (v4 : Int32) (S : St) : Option (Int32 × St) :=
  f_X12_counts_b86 rec5 v1 v2 v4 v3 S
def f_X12_counts_b80 (rec5 : Int32 × Int32 × St → Option (Int32 × St)) (v1 : Int32) (v2 : Int32) (v4 : Int32) (S : St) : Option (Int32 × St) :=
  f_X12_counts_b86 rec5 v1 v2 v4 v4 S
def f_X12_counts_b52 (rec5 : Int32 × Int32 × St → Option (Int32 × St)) (v1 : Int32) (v2 : Int32) (v3 : Int32) (v4 : Int32) (w0 : Int32) (S : St) : Option (Int32 × St) :=
  if w0 = 0 then (f_X12_counts_b85 rec5 v1 v2 v3 v4 S)
    else (if v3 = (-1) then (f_X12_counts_b80 rec5 v1 v2 v4 S)
      else (chk (inb v4 24) (chk (inb v3 24) (if (rd S 63 v4) < (rd S 63 v3) then (f_X12_counts_b85 rec5 v1 v2 v3 v4 S)
        else (f_X12_counts_b80 rec5 v1 v2 v4 S)))))
def f_X12_counts_b51 (rec5 : Int32 × Int32 × St → Option (Int32 × St)) (v1 : Int32) (v2 : Int32) (v3 : Int32) (v4 : Int32) (S : St) : Option (Int32 × St) :=
  f_X12_counts_b52 rec5 v1 v2 v3 v4 0 S
def f_X12_counts_b47 (rec5 : Int32 × Int32 × St → Option (Int32 × St)) (v1 : Int32) (v2 : Int32) (v3 : Int32) (v4 : Int32) (S : St) : Option (Int32 × St) :=
  f_X12_counts_b52 rec5 v1 v2 v3 v4 1 S
def f_X12_counts_b5 (rec5 : Int32 × Int32 × St → Option (Int32 × St)) (v1 : Int32) (v2 : Int32) (v3 : Int32) (v4 : Int32) (S : St) : Option (Int32 × St) :=
  if (gI S 28) ≤ v4 then (some (v3, S))
    else (chk (inb v4 24) (if (rd S 61 v4) = v2 then (chk (inb v4 24) (if (rd S 60 v4) = (-1) then (f_X12_counts_b47 rec5 v1 v2 v3 v4 S)
        else (chk (inb v4 24) (if (rd S 60 v4) = v1 then (f_X12_counts_b47 rec5 v1 v2 v3 v4 S)
          else (f_X12_counts_b51 rec5 v1 v2 v3 v4 S)))))
      else (f_X12_counts_b51 rec5 v1 v2 v3 v4 S)))
def f_X12_counts_l5 (v1 : Int32) (v2 : Int32) (n : Nat) (s : Int32 × Int32 × St) : Option (Int32 × St) :=
  loopN (fun rec5 s => f_X12_counts_b5 rec5 v1 v2 s.1 s.2.1 s.2.2) n s
def f_X12_counts_b0 (a1 : Int32) (a2 : Int32) (S : St) : Option (Int32 × St) :=
  f_X12_counts_l5 a1 a2 fuel ((-1), 0, S)
def f_X12_counts (a1 : Int32) (a2 : Int32) (S : St) : Option (Int32 × St) := f_X12_counts_b0 a1 a2 S
/-! StyleRowsModel.cut(I)I -/
def f_X12_cut_b144 (rec29 : Int32 × Int32 × St → Option (Int32 × St)) (v1 : Int32) (v2 : Int32) (v4 : Int32) (w0 : Int32) (S : St) : Option (Int32 × St) :=
  rec29 (w0, v4 + 1, S)
def f_X12_cut_b143 (rec29 : Int32 × Int32 × St → Option (Int32 × St)) (v1 : Int32) (v2 : Int32) (v3 : Int32) (v4 : Int32) (S : St) : Option (Int32 × St) :=
  f_X12_cut_b144 rec29 v1 v2 v4 v3 S
def f_X12_cut_b105 (rec29 : Int32 × Int32 × St → Option (Int32 × St)) (v1 : Int32) (v2 : Int32) (v3 : Int32) (v4 : Int32) (w0 : Int32) (S : St) : Option (Int32 × St) :=
  chk (inb ((6 * v4) + 0) 2400) (vlet (rd S 65 ((6 * v4) + 0)) (fun x3 => if w0 = 0 then (f_X12_cut_b143 rec29 v1 v2 v3 v4 S)
    else (if x3 ≤ v2 then (f_X12_cut_b143 rec29 v1 v2 v3 v4 S)
      else (if v3 ≤ x3 then (f_X12_cut_b143 rec29 v1 v2 v3 v4 S)
        else (f_X12_cut_b144 rec29 v1 v2 v4 x3 S)))))
def f_X12_cut_b104 (rec29 : Int32 × Int32 × St → Option (Int32 × St)) (v1 : Int32) (v2 : Int32) (v3 : Int32) (v4 : Int32) (S : St) : Option (Int32 × St) :=
  f_X12_cut_b105 rec29 v1 v2 v3 v4 0 S
def f_X12_cut_b29 (rec29 : Int32 × Int32 × St → Option (Int32 × St)) (v1 : Int32) (v2 : Int32) (v3 : Int32) (v4 : Int32) (S : St) : Option (Int32 × St) :=
  if (gI S 33) ≤ v4 then (some (v3 - v2, S))
    else (chk (inb ((6 * v1) + 4) 2400) (chk (inb (rd S 65 ((6 * v1) + 4)) 48) (chk (inb ((6 * v4) + 4) 2400) (chk (inb (rd S 65 ((6 * v4) + 4)) 48) (if (rd S 49 (rd S 65 ((6 * v1) + 4))) = (rd S 49 (rd S 65 ((6 * v4) + 4))) then (chk (inb ((6 * v1) + 2) 2400) (chk (inb ((6 * v4) + 2) 2400) (if (rd S 65 ((6 * v1) + 2)) = (rd S 65 ((6 * v4) + 2)) then (f_X12_cut_b105 rec29 v1 v2 v3 v4 1 S)
        else (f_X12_cut_b104 rec29 v1 v2 v3 v4 S))))
      else (f_X12_cut_b104 rec29 v1 v2 v3 v4 S))))))
def f_X12_cut_l29 (v1 : Int32) (v2 : Int32) (n : Nat) (s : Int32 × Int32 × St) : Option (Int32 × St) :=
  loopN (fun rec29 s => f_X12_cut_b29 rec29 v1 v2 s.1 s.2.1 s.2.2) n s
def f_X12_cut_b0 (a1 : Int32) (S : St) : Option (Int32 × St) :=
  chk (inb ((6 * a1) + 0) 2400) (vlet (rd S 65 ((6 * a1) + 0)) (fun x1 => chk (inb ((6 * a1) + 1) 2400) (vlet (x1 + (rd S 65 ((6 * a1) + 1))) (fun x2 => f_X12_cut_l29 a1 x1 fuel (x2, 0, S)))))
def f_X12_cut (a1 : Int32) (S : St) : Option (Int32 × St) := f_X12_cut_b0 a1 S
/-! StyleRowsModel.event(II)I -/
def f_X12_event_b28 (S : St) : Option (Int32 × St) :=
  some ((-1001), S)
def f_X12_event_b68 (w0 : Int32) (S : St) : Option (Int32 × St) :=
  some (w0, S)
def f_X12_event_b0 (a1 : Int32) (a2 : Int32) (S : St) : Option (Int32 × St) :=
  bnd (f_X12_in (Int32.toInt64 a1) 0 (Int32.toInt64 ((gI S 34) - 1)) S) (fun r2 S1 => if r2 = 0 then (f_X12_event_b28 S1)
    else (bnd (f_X12_in (Int32.toInt64 a2) 0 6 S1) (fun r4 S3 => if r4 = 0 then (f_X12_event_b28 S3)
      else (if a2 = 6 then (chk (inb ((6 * a1) + 4) 2400) (chk (inb (rd S3 66 ((6 * a1) + 4)) 48) (f_X12_event_b68 (rd S3 49 (rd S3 66 ((6 * a1) + 4))) S3)))
        else (chk (inb ((6 * a1) + a2) 2400) (f_X12_event_b68 (rd S3 66 ((6 * a1) + a2)) S3))))))
def f_X12_event (a1 : Int32) (a2 : Int32) (S : St) : Option (Int32 × St) := f_X12_event_b0 a1 a2 S
/-! StyleRowsModel.feed(IJ)I -/
def f_X12_feed_b37 (rec37 : Int32 × St → Option (Int32 × St)) (v2 : Int64) (v4 : Int32) (S : St) : Option (Int32 × St) :=
  if v4 < 0 then (some (gI S 29, S))
    else (chk (inb (gI S 29) 400) (vlet (wr S 64 (gI S 29) (Int64.toInt32 ((v2 >>> (Int32.toInt64 (8 * v4) &&& 63)) &&& 255))) (fun S4 => vlet (pI S4 29 ((gI S4 29) + 1)) (fun S5 => rec37 (v4 + (-1), S5)))))
def f_X12_feed_l37 (v2 : Int64) (n : Nat) (s : Int32 × St) : Option (Int32 × St) :=
  loopN (fun rec37 s => f_X12_feed_b37 rec37 v2 s.1 s.2) n s
def f_X12_feed_b0 (a1 : Int32) (a2 : Int64) (S : St) : Option (Int32 × St) :=
  bnd (f_X12_in (Int32.toInt64 a1) 1 8 S) (fun r2 S1 => if r2 = 0 then (some ((-1002), S1))
    else (if ((gI S1 29) + a1) ≤ 400 then (vlet (a1 - 1) (fun x3 => f_X12_feed_l37 a2 fuel (x3, S1)))
      else (some ((-1004), S1))))
def f_X12_feed (a1 : Int32) (a2 : Int64) (S : St) : Option (Int32 × St) := f_X12_feed_b0 a1 a2 S
/-! StyleRowsModel.floor(JJ)J -/
def f_X12_floor_b47 (w0 : Int64) (S : St) : Option (Int64 × St) :=
  some (w0, S)
def f_X12_floor_b45 (v4 : Int64) (S : St) : Option (Int64 × St) :=
  f_X12_floor_b47 v4 S
def f_X12_floor_b35 (v4 : Int64) (w0 : Int32) (w1 : Int32) (S : St) : Option (Int64 × St) :=
  if w0 = w1 then (f_X12_floor_b45 v4 S)
    else (f_X12_floor_b47 (v4 - 1) S)
def f_X12_floor_b24 (v2 : Int64) (v4 : Int64) (w0 : Int32) (S : St) : Option (Int64 × St) :=
  if 0 ≤ (lg_cmp v2 0) then (f_X12_floor_b35 v4 w0 0 S)
    else (f_X12_floor_b35 v4 w0 1 S)
def f_X12_floor_b0 (a1 : Int64) (a2 : Int64) (S : St) : Option (Int64 × St) :=
  chk (nzL a2) (vlet (a1 / a2) (fun y1 => chk (nzL a2) (if (lg_cmp (a1 - a1 / a2 * a2) 0) = 0 then (f_X12_floor_b45 y1 S)
    else (if 0 ≤ (lg_cmp a1 0) then (f_X12_floor_b24 a2 y1 0 S)
      else (f_X12_floor_b24 a2 y1 1 S)))))
def f_X12_floor (a1 : Int64) (a2 : Int64) (S : St) : Option (Int64 × St) := f_X12_floor_b0 a1 a2 S
/-! StyleRowsModel.has(II)Z -/
def f_X12_has_b16 (w0 : Int32) (S : St) : Option (Int32 × St) :=
  chk (isB w0) (some (w0, S))
def f_X12_has_b0 (a1 : Int32) (a2 : Int32) (S : St) : Option (Int32 × St) :=
  chk (inb a1 48) (if ((rd S 53 a1) &&& a2) = 0 then (f_X12_has_b16 0 S)
    else (f_X12_has_b16 1 S))
def f_X12_has (a1 : Int32) (a2 : Int32) (S : St) : Option (Int32 × St) := f_X12_has_b0 a1 a2 S
/-! StyleRowsModel.levelBy(IZ)I -/
def f_X12_levelBy_b108 (rec5 : Int32 × Int32 × St → Option (Int32 × St)) (v1 : Int32) (v2 : Int32) (v4 : Int32) (w0 : Int32) (S : St) : Option (Int32 × St) :=
  rec5 (w0, v4 + 1, S)
def f_X12_levelBy_b95 (rec5 : Int32 × Int32 × St → Option (Int32 × St)) (v1 : Int32) (v2 : Int32) (v3 : Int32) (v4 : Int32) (w0 : Int32) (S : St) : Option (Int32 × St) :=
  if w0 = 0 then (f_X12_levelBy_b108 rec5 v1 v2 v4 v3 S)
    else (f_X12_levelBy_b108 rec5 v1 v2 v4 v4 S)
def f_X12_levelBy_b94 (rec5 : Int32 × Int32 × St → Option (Int32 × St)) (v1 : Int32) (v2 : Int32) (v3 : Int32) (v4 : Int32) (S : St) : Option (Int32 × St) :=
  f_X12_levelBy_b95 rec5 v1 v2 v3 v4 0 S
def f_X12_levelBy_b90 (rec5 : Int32 × Int32 × St → Option (Int32 × St)) (v1 : Int32) (v2 : Int32) (v3 : Int32) (v4 : Int32) (S : St) : Option (Int32 × St) :=
  f_X12_levelBy_b95 rec5 v1 v2 v3 v4 1 S
def f_X12_levelBy_b54 (rec5 : Int32 × Int32 × St → Option (Int32 × St)) (v1 : Int32) (v2 : Int32) (v3 : Int32) (v4 : Int32) (S : St) : Option (Int32 × St) :=
  f_X12_levelBy_b95 rec5 v1 v2 v3 v4 0 S
def f_X12_levelBy_b50 (rec5 : Int32 × Int32 × St → Option (Int32 × St)) (v1 : Int32) (v2 : Int32) (v3 : Int32) (v4 : Int32) (S : St) : Option (Int32 × St) :=
  f_X12_levelBy_b95 rec5 v1 v2 v3 v4 1 S
def f_X12_levelBy_b5 (rec5 : Int32 × Int32 × St → Option (Int32 × St)) (v1 : Int32) (v2 : Int32) (v3 : Int32) (v4 : Int32) (S : St) : Option (Int32 × St) :=
  if (gI S 24) ≤ v4 then (some (v3, S))
    else (if v2 = 0 then (chk (inb v4 12) (if v1 < (rd S 54 v4) then (f_X12_levelBy_b94 rec5 v1 v2 v3 v4 S)
        else (if v3 = (-1) then (f_X12_levelBy_b90 rec5 v1 v2 v3 v4 S)
          else (chk (inb v4 12) (chk (inb v3 12) (if (rd S 54 v4) ≤ (rd S 54 v3) then (f_X12_levelBy_b94 rec5 v1 v2 v3 v4 S)
            else (f_X12_levelBy_b90 rec5 v1 v2 v3 v4 S)))))))
      else (chk (inb v4 12) (if (rd S 54 v4) ≤ v1 then (f_X12_levelBy_b54 rec5 v1 v2 v3 v4 S)
        else (if v3 = (-1) then (f_X12_levelBy_b50 rec5 v1 v2 v3 v4 S)
          else (chk (inb v4 12) (chk (inb v3 12) (if (rd S 54 v3) ≤ (rd S 54 v4) then (f_X12_levelBy_b54 rec5 v1 v2 v3 v4 S)
            else (f_X12_levelBy_b50 rec5 v1 v2 v3 v4 S))))))))
def f_X12_levelBy_l5 (v1 : Int32) (v2 : Int32) (n : Nat) (s : Int32 × Int32 × St) : Option (Int32 × St) :=
  loopN (fun rec5 s => f_X12_levelBy_b5 rec5 v1 v2 s.1 s.2.1 s.2.2) n s
def f_X12_levelBy_b0 (a1 : Int32) (a2 : Int32) (S : St) : Option (Int32 × St) :=
  f_X12_levelBy_l5 a1 a2 fuel ((-1), 0, S)
def f_X12_levelBy (a1 : Int32) (a2 : Int32) (S : St) : Option (Int32 × St) := f_X12_levelBy_b0 a1 a2 S
/-! StyleRowsModel.highAt(I)I -/
def f_X12_highAt_b36 (v2 : Int32) (S : St) : Option (Int32 × St) :=
  chk (inb v2 12) (some (rd S 55 v2, S))
def f_X12_highAt_b0 (a1 : Int32) (S : St) : Option (Int32 × St) :=
  bnd (f_X12_levelBy a1 0 S) (fun r2 S1 => bnd (f_X12_levelBy a1 1 S1) (fun r4 S3 => if r2 = (-1) then (some (64, S3))
    else (if r4 = (-1) then (f_X12_highAt_b36 r2 S3)
      else (chk (inb r4 12) (if (rd S3 56 r4) = 0 then (f_X12_highAt_b36 r2 S3)
        else (chk (inb r2 12) (chk (inb r4 12) (chk (inb r2 12) (chk (inb r2 12) (chk (inb r4 12) (chk (inb r2 12) (bnd (f_X12_floor ((Int32.toInt64 ((rd S3 55 r4) - (rd S3 55 r2))) * (Int32.toInt64 (a1 - (rd S3 54 r2)))) (Int32.toInt64 ((rd S3 54 r4) - (rd S3 54 r2))) S3) (fun r6 S5 => some ((rd S3 55 r2) + (Int64.toInt32 r6), S5))))))))))))))
def f_X12_highAt (a1 : Int32) (S : St) : Option (Int32 × St) := f_X12_highAt_b0 a1 S
/-! StyleRowsModel.highest(I)I -/
def f_X12_highest_b50 (w0 : Int32) (S : St) : Option (Int32 × St) :=
  some (w0, S)
def f_X12_highest_b26 (v0 : Int32) (S : St) : Option (Int32 × St) :=
  if v0 = 8 then (f_X12_highest_b50 1 S)
    else (if v0 = 12 then (f_X12_highest_b50 99 S)
      else (f_X12_highest_b50 960 S))
def f_X12_highest_b0 (a1 : Int32) (S : St) : Option (Int32 × St) :=
  if 2 < a1 then (if a1 < 4 then (f_X12_highest_b26 a1 S)
      else (if 6 < a1 then (f_X12_highest_b26 a1 S)
        else (f_X12_highest_b50 127 S)))
    else (f_X12_highest_b50 100 S)
def f_X12_highest (a1 : Int32) (S : St) : Option (Int32 × St) := f_X12_highest_b0 a1 S
/-! StyleRowsModel.isAhead(II)Z -/
def f_X12_isAhead_b144 (w0 : Int32) (S : St) : Option (Int32 × St) :=
  chk (isB w0) (some (w0, S))
def f_X12_isAhead_b118 (v1 : Int32) (v2 : Int32) (v3 : Int32) (S : St) : Option (Int32 × St) :=
  if v3 = 0 then (if v2 ≤ v1 then (f_X12_isAhead_b144 0 S)
      else (f_X12_isAhead_b144 1 S))
    else (if 0 ≤ v3 then (f_X12_isAhead_b144 0 S)
      else (f_X12_isAhead_b144 1 S))
def f_X12_isAhead_b90 (v1 : Int32) (v2 : Int32) (v3 : Int32) (S : St) : Option (Int32 × St) :=
  if v3 = 0 then (chk (inb ((6 * v1) + 4) 2400) (chk (inb ((6 * v2) + 4) 2400) (vlet ((rd S 65 ((6 * v1) + 4)) - (rd S 65 ((6 * v2) + 4))) (fun x2 => f_X12_isAhead_b118 v1 v2 x2 S))))
    else (f_X12_isAhead_b118 v1 v2 v3 S)
def f_X12_isAhead_b62 (v1 : Int32) (v2 : Int32) (v3 : Int32) (S : St) : Option (Int32 × St) :=
  if v3 = 0 then (chk (inb ((6 * v1) + 2) 2400) (chk (inb ((6 * v2) + 2) 2400) (vlet ((rd S 65 ((6 * v1) + 2)) - (rd S 65 ((6 * v2) + 2))) (fun x3 => f_X12_isAhead_b90 v1 v2 x3 S))))
    else (f_X12_isAhead_b90 v1 v2 v3 S)
def f_X12_isAhead_b0 (a1 : Int32) (a2 : Int32) (S : St) : Option (Int32 × St) :=
  chk (inb ((6 * a1) + 0) 2400) (chk (inb ((6 * a2) + 0) 2400) (vlet ((rd S 65 ((6 * a1) + 0)) - (rd S 65 ((6 * a2) + 0))) (fun x1 => if x1 = 0 then (chk (inb ((6 * a1) + 4) 2400) (chk (inb (rd S 65 ((6 * a1) + 4)) 48) (chk (inb ((6 * a2) + 4) 2400) (chk (inb (rd S 65 ((6 * a2) + 4)) 48) (vlet ((rd S 49 (rd S 65 ((6 * a1) + 4))) - (rd S 49 (rd S 65 ((6 * a2) + 4)))) (fun x4 => f_X12_isAhead_b62 a1 a2 x4 S))))))
    else (f_X12_isAhead_b62 a1 a2 x1 S))))
def f_X12_isAhead (a1 : Int32) (a2 : Int32) (S : St) : Option (Int32 × St) := f_X12_isAhead_b0 a1 a2 S
/-! StyleRowsModel.isNote(I)Z -/
def f_X12_isNote_b0 (a1 : Int32) (S : St) : Option (Int32 × St) :=
  bnd (f_X12_in (Int32.toInt64 a1) 0 (Int32.toInt64 ((gI S 23) - 1)) S) (fun r2 S1 => chk (isB r2) (some (r2, S1)))
def f_X12_isNote (a1 : Int32) (S : St) : Option (Int32 × St) := f_X12_isNote_b0 a1 S
/-! StyleRowsModel.isNumber(II)Z -/
def f_X12_isNumber_b27 (w0 : Int32) (S : St) : Option (Int32 × St) :=
  chk (isB w0) (some (w0, S))
def f_X12_isNumber_b26 (S : St) : Option (Int32 × St) :=
  f_X12_isNumber_b27 0 S
def f_X12_isNumber_b0 (a1 : Int32) (a2 : Int32) (S : St) : Option (Int32 × St) :=
  if (gI S 30) = 2 then (bnd (f_X12_in (gJ S 2) (Int32.toInt64 a1) (Int32.toInt64 a2) S) (fun r2 S1 => if r2 = 0 then (f_X12_isNumber_b26 S1)
      else (f_X12_isNumber_b27 1 S1)))
    else (f_X12_isNumber_b26 S)
def f_X12_isNumber (a1 : Int32) (a2 : Int32) (S : St) : Option (Int32 × St) := f_X12_isNumber_b0 a1 a2 S
/-! StyleRowsModel.lesser(II)I -/
def f_X12_lesser_b10 (w0 : Int32) (S : St) : Option (Int32 × St) :=
  some (w0, S)
def f_X12_lesser_b0 (a1 : Int32) (a2 : Int32) (S : St) : Option (Int32 × St) :=
  if a2 ≤ a1 then (f_X12_lesser_b10 a2 S)
    else (f_X12_lesser_b10 a1 S)
def f_X12_lesser (a1 : Int32) (a2 : Int32) (S : St) : Option (Int32 × St) := f_X12_lesser_b0 a1 a2 S
/-! StyleRowsModel.level(IIZ)I -/
def f_X12_level_b24 (S : St) : Option (Int32 × St) :=
  some ((-1002), S)
def f_X12_level_b110 (v1 : Int32) (v2 : Int32) (v3 : Int32) (v4 : Int32) (S : St) : Option (Int32 × St) :=
  chk (inb v4 12) (vlet (wr S 54 v4 v1) (fun S5 => chk (inb v4 12) (vlet (wr S5 55 v4 v2) (fun S6 => chk (inb v4 12) (vlet (wr S6 56 v4 (vp_nar .boolean v3)) (fun S7 => some (gI S7 24, S7)))))))
def f_X12_level_b88 (v1 : Int32) (v2 : Int32) (v3 : Int32) (v4 : Int32) (S : St) : Option (Int32 × St) :=
  if v4 = (-1) then (vlet (gI S 24) (fun x8 => vlet (pI S 24 ((gI S 24) + 1)) (fun S9 => f_X12_level_b110 v1 v2 v3 x8 S9)))
    else (f_X12_level_b110 v1 v2 v3 v4 S)
def f_X12_level_b61 (rec34 : Int32 × Int32 × St → Option (Int32 × St)) (v1 : Int32) (v2 : Int32) (v3 : Int32) (v5 : Int32) (w0 : Int32) (S : St) : Option (Int32 × St) :=
  rec34 (w0, v5 + 1, S)
def f_X12_level_b34 (rec34 : Int32 × Int32 × St → Option (Int32 × St)) (v1 : Int32) (v2 : Int32) (v3 : Int32) (v4 : Int32) (v5 : Int32) (S : St) : Option (Int32 × St) :=
  if (gI S 24) ≤ v5 then (if v4 = (-1) then (if (gI S 24) = 12 then (some ((-1004), S))
        else (f_X12_level_b88 v1 v2 v3 v4 S))
      else (f_X12_level_b88 v1 v2 v3 v4 S))
    else (chk (inb v5 12) (if (rd S 54 v5) = v1 then (f_X12_level_b61 rec34 v1 v2 v3 v5 v5 S)
      else (f_X12_level_b61 rec34 v1 v2 v3 v5 v4 S)))
def f_X12_level_l34 (v1 : Int32) (v2 : Int32) (v3 : Int32) (n : Nat) (s : Int32 × Int32 × St) : Option (Int32 × St) :=
  loopN (fun rec34 s => f_X12_level_b34 rec34 v1 v2 v3 s.1 s.2.1 s.2.2) n s
def f_X12_level_b0 (a1 : Int32) (a2 : Int32) (a3 : Int32) (S : St) : Option (Int32 × St) :=
  bnd (f_X12_in (Int32.toInt64 a1) 0 20000 S) (fun r2 S1 => if r2 = 0 then (f_X12_level_b24 S1)
    else (bnd (f_X12_in (Int32.toInt64 a2) 1 127 S1) (fun r4 S3 => if r4 = 0 then (f_X12_level_b24 S3)
      else (f_X12_level_l34 a1 a2 a3 fuel ((-1), 0, S3)))))
def f_X12_level (a1 : Int32) (a2 : Int32) (a3 : Int32) (S : St) : Option (Int32 × St) := f_X12_level_b0 a1 a2 a3 S
/-! StyleRowsModel.levelAt(I)I -/
def f_X12_levelAt_b23 (w0 : Int32) (S : St) : Option (Int32 × St) :=
  some (w0, S)
def f_X12_levelAt_b0 (a1 : Int32) (S : St) : Option (Int32 × St) :=
  bnd (f_X12_in (Int32.toInt64 a1) 0 20000 S) (fun r2 S1 => if r2 = 0 then (f_X12_levelAt_b23 (-1002) S1)
    else (bnd (f_X12_highAt a1 S1) (fun r4 S3 => f_X12_levelAt_b23 r4 S3)))
def f_X12_levelAt (a1 : Int32) (S : St) : Option (Int32 × St) := f_X12_levelAt_b0 a1 S
/-! StyleRowsModel.usual(I)I -/
def f_X12_usual_b96 (S : St) : Option (Int32 × St) :=
  some (0, S)
def f_X12_usual_b0 (a1 : Int32) (S : St) : Option (Int32 × St) :=
  if a1 = 0 then (some (50, S))
    else (if a1 = 1 then (some (90, S))
    else (if a1 = 2 then (some (100, S))
    else (if a1 = 3 then (some (10, S))
    else (if a1 = 4 then (some (16, S))
    else (if a1 = 5 then (some (8, S))
    else (if a1 = 6 then (some (4, S))
    else (if a1 = 7 then (some (30, S))
    else (if a1 = 8 then (f_X12_usual_b96 S)
    else (if a1 = 9 then (some (20, S))
    else (if a1 = 10 then (some (40, S))
    else (if a1 = 11 then (some (12, S))
    else (f_X12_usual_b96 S))))))))))))
def f_X12_usual (a1 : Int32) (S : St) : Option (Int32 × St) := f_X12_usual_b0 a1 S
/-! StyleRowsModel.number(II)I -/
def f_X12_number_b25 (w0 : Int32) (S : St) : Option (Int32 × St) :=
  some (w0, S)
def f_X12_number_b0 (a1 : Int32) (a2 : Int32) (S : St) : Option (Int32 × St) :=
  bnd (f_X12_counts a1 a2 S) (fun r2 S1 => if r2 = (-1) then (bnd (f_X12_usual a2 S1) (fun r4 S3 => f_X12_number_b25 r4 S3))
    else (chk (inb r2 24) (f_X12_number_b25 (rd S1 62 r2) S1)))
def f_X12_number (a1 : Int32) (a2 : Int32) (S : St) : Option (Int32 × St) := f_X12_number_b0 a1 a2 S
/-! StyleRowsModel.longOf(I)I -/
def f_X12_longOf_b84 (w0 : Int32) (S : St) : Option (Int32 × St) :=
  some (w0, S)
def f_X12_longOf_b34 (v1 : Int32) (w1 : Int32) (w2 : Int32) (S : St) : Option (Int32 × St) :=
  bnd (f_X12_number w1 w2 S) (fun r6 S5 => chk (inb v1 48) (chk (nzI 100) (vlet (((rd S5 51 v1) * r6) / 100) (fun x7 => chk (inb v1 48) (bnd (f_X12_number (rd S5 49 v1) 3 S5) (fun r9 S8 => chk (inb v1 48) (bnd (f_X12_lesser r9 (rd S8 51 v1) S8) (fun r11 S10 => if r11 ≤ x7 then (f_X12_longOf_b84 x7 S10)
    else (f_X12_longOf_b84 r11 S10)))))))))
def f_X12_longOf_b0 (a1 : Int32) (S : St) : Option (Int32 × St) :=
  chk (inb a1 48) (bnd (f_X12_has a1 1 S) (fun r2 S1 => if r2 = 0 then (bnd (f_X12_has a1 2 S1) (fun r4 S3 => if r4 = 0 then (f_X12_longOf_b34 a1 (rd S 49 a1) 1 S3)
      else (f_X12_longOf_b34 a1 (rd S 49 a1) 2 S3)))
    else (f_X12_longOf_b34 a1 (rd S 49 a1) 0 S1)))
def f_X12_longOf (a1 : Int32) (S : St) : Option (Int32 × St) := f_X12_longOf_b0 a1 S
/-! StyleRowsModel.loudOf(I)I -/
def f_X12_loudOf_b119 (w0 : Int32) (S : St) : Option (Int32 × St) :=
  some (w0, S)
def f_X12_loudOf_b102 (w0 : Int32) (w1 : Int32) (S : St) : Option (Int32 × St) :=
  vlet (w0 + w1) (fun x6 => if 1 ≤ x6 then (bnd (f_X12_lesser x6 127 S) (fun r8 S7 => f_X12_loudOf_b119 r8 S7))
    else (f_X12_loudOf_b119 1 S))
def f_X12_loudOf_b36 (v1 : Int32) (w0 : Int32) (w1 : Int32) (S : St) : Option (Int32 × St) :=
  vlet (w0 + w1) (fun x5 => chk (inb v1 48) (chk (nzI ((gI S 25) * (gI S 26))) (if ((rd S 50 v1) - (rd S 50 v1) / ((gI S 25) * (gI S 26)) * ((gI S 25) * (gI S 26))) = 0 then (chk (inb v1 48) (bnd (f_X12_number (rd S 49 v1) 5 S) (fun r12 S11 => f_X12_loudOf_b102 x5 r12 S11)))
    else (chk (inb v1 48) (chk (nzI (gI S 26)) (if ((rd S 50 v1) - (rd S 50 v1) / (gI S 26) * (gI S 26)) = 0 then (chk (inb v1 48) (bnd (f_X12_number (rd S 49 v1) 6 S) (fun r10 S9 => f_X12_loudOf_b102 x5 r10 S9)))
      else (f_X12_loudOf_b102 x5 0 S)))))))
def f_X12_loudOf_b0 (a1 : Int32) (S : St) : Option (Int32 × St) :=
  chk (inb a1 48) (bnd (f_X12_highAt (rd S 50 a1) S) (fun r2 S1 => bnd (f_X12_has a1 4 S1) (fun r4 S3 => if r4 = 0 then (f_X12_loudOf_b36 a1 r2 0 S3)
    else (chk (inb a1 48) (bnd (f_X12_number (rd S3 49 a1) 4 S3) (fun r14 S13 => f_X12_loudOf_b36 a1 r2 r14 S13))))))
def f_X12_loudOf (a1 : Int32) (S : St) : Option (Int32 × St) := f_X12_loudOf_b0 a1 S
/-! StyleRowsModel.lowest(I)I -/
def f_X12_lowest_b22 (w0 : Int32) (S : St) : Option (Int32 × St) :=
  some (w0, S)
def f_X12_lowest_b17 (S : St) : Option (Int32 × St) :=
  f_X12_lowest_b22 1 S
def f_X12_lowest_b0 (a1 : Int32) (S : St) : Option (Int32 × St) :=
  if a1 ≤ 3 then (f_X12_lowest_b17 S)
    else (if a1 = 7 then (f_X12_lowest_b17 S)
      else (if a1 = 9 then (f_X12_lowest_b17 S)
        else (f_X12_lowest_b22 0 S)))
def f_X12_lowest (a1 : Int32) (S : St) : Option (Int32 × St) := f_X12_lowest_b0 a1 S
/-! StyleRowsModel.mark(II)I -/
def f_X12_mark_b0 (a1 : Int32) (a2 : Int32) (S : St) : Option (Int32 × St) :=
  bnd (f_X12_isNote a1 S) (fun r2 S1 => if r2 = 0 then (some ((-1001), S1))
    else (bnd (f_X12_in (Int32.toInt64 a2) 0 127 S1) (fun r4 S3 => if r4 = 0 then (some ((-1002), S3))
      else (chk (inb a1 48) (vlet (rd S3 53 a1) (fun x5 => chk (inb a1 48) (vlet (wr S3 53 a1 a2) (fun S6 => some (x5, S6)))))))))
def f_X12_mark (a1 : Int32) (a2 : Int32) (S : St) : Option (Int32 × St) := f_X12_mark_b0 a1 a2 S
/-! StyleRowsModel.meter(II)I -/
def f_X12_meter_b24 (S : St) : Option (Int32 × St) :=
  some ((-1002), S)
def f_X12_meter_b0 (a1 : Int32) (a2 : Int32) (S : St) : Option (Int32 × St) :=
  bnd (f_X12_in (Int32.toInt64 a1) 1 12 S) (fun r2 S1 => if r2 = 0 then (f_X12_meter_b24 S1)
    else (bnd (f_X12_in (Int32.toInt64 a2) 1 960 S1) (fun r4 S3 => if r4 = 0 then (f_X12_meter_b24 S3)
      else (vlet (pI S3 25 a1) (fun S5 => vlet (pI S5 26 a2) (fun S6 => some (1, S6)))))))
def f_X12_meter (a1 : Int32) (a2 : Int32) (S : St) : Option (Int32 × St) := f_X12_meter_b0 a1 a2 S
/-! StyleRowsModel.word(IIIIII)J -/
def f_X12_word_b95 (w0 : Int64) (S : St) : Option (Int64 × St) :=
  some (w0, S)
def f_X12_word_b69 (v5 : Int32) (w0 : Int64) (S : St) : Option (Int64 × St) :=
  if v5 ≤ 0 then (f_X12_word_b95 w0 S)
    else (f_X12_word_b95 (((w0 * 32) + (Int32.toInt64 v5)) - 96) S)
def f_X12_word_b0 (a1 : Int32) (a2 : Int32) (a3 : Int32) (a4 : Int32) (a5 : Int32) (a6 : Int32) (S : St) : Option (Int64 × St) :=
  vlet ((((((((Int32.toInt64 a1) - 96) * 32) + (Int32.toInt64 a2)) - 96) * 32) + (Int32.toInt64 a3)) - 96) (fun y1 => vlet (((y1 * 32) + (Int32.toInt64 a4)) - 96) (fun y2 => if a5 ≤ 0 then (f_X12_word_b69 a6 y2 S)
    else (f_X12_word_b69 a6 (((y2 * 32) + (Int32.toInt64 a5)) - 96) S)))
def f_X12_word (a1 : Int32) (a2 : Int32) (a3 : Int32) (a4 : Int32) (a5 : Int32) (a6 : Int32) (S : St) : Option (Int64 × St) := f_X12_word_b0 a1 a2 a3 a4 a5 a6 S
/-! StyleRowsModel.wordOf(I)J -/
def f_X12_wordOf_b0 (a1 : Int32) (S : St) : Option (Int64 × St) :=
  if a1 = 0 then (bnd (f_X12_word 115 104 111 114 116 0 S) (fun r3 S2 => some (r3, S2)))
    else (if a1 = 1 then (bnd (f_X12_word 112 108 97 105 110 0 S) (fun r6 S5 => some (r6, S5)))
    else (if a1 = 2 then (bnd (f_X12_word 104 101 108 100 0 0 S) (fun r9 S8 => some (r9, S8)))
    else (if a1 = 3 then (bnd (f_X12_word 108 101 97 115 116 0 S) (fun r12 S11 => some (r12, S11)))
    else (if a1 = 4 then (bnd (f_X12_word 97 99 99 101 110 116 S) (fun r15 S14 => some (r15, S14)))
    else (if a1 = 5 then (bnd (f_X12_word 102 105 114 115 116 0 S) (fun r18 S17 => some (r18, S17)))
    else (if a1 = 6 then (bnd (f_X12_word 98 101 97 116 0 0 S) (fun r21 S20 => some (r21, S20)))
    else (if a1 = 7 then (bnd (f_X12_word 116 114 105 108 108 0 S) (fun r24 S23 => some (r24, S23)))
    else (if a1 = 8 then (bnd (f_X12_word 117 112 112 101 114 0 S) (fun r27 S26 => some (r27, S26)))
    else (if a1 = 9 then (bnd (f_X12_word 116 117 114 110 0 0 S) (fun r30 S29 => some (r30, S29)))
    else (if a1 = 10 then (bnd (f_X12_word 108 101 97 110 0 0 S) (fun r33 S32 => some (r33, S32)))
    else (if a1 = 11 then (bnd (f_X12_word 114 111 108 108 0 0 S) (fun r36 S35 => some (r36, S35)))
    else (bnd (f_X12_word 108 111 111 115 101 0 S) (fun r38 S37 => some (r38, S37))))))))))))))
def f_X12_wordOf (a1 : Int32) (S : St) : Option (Int64 × St) := f_X12_wordOf_b0 a1 S
/-! StyleRowsModel.named()I -/
def f_X12_named_b2 (rec2 : Int32 × St → Option (Int32 × St)) (v1 : Int32) (S : St) : Option (Int32 × St) :=
  if 13 ≤ v1 then (some ((-1), S))
    else (bnd (f_X12_wordOf v1 S) (fun r2 S1 => if (lg_cmp (gJ S 2) r2) = 0 then (some (v1, S1))
      else (rec2 (v1 + 1, S1))))
def f_X12_named_l2 (n : Nat) (s : Int32 × St) : Option (Int32 × St) :=
  loopN (fun rec2 s => f_X12_named_b2 rec2 s.1 s.2) n s
def f_X12_named_b0 (S : St) : Option (Int32 × St) :=
  f_X12_named_l2 fuel (0, S)
def f_X12_named (S : St) : Option (Int32 × St) := f_X12_named_b0 S
/-! StyleRowsModel.note(IIIII)I -/
def f_X12_note_b64 (S : St) : Option (Int32 × St) :=
  some ((-1002), S)
def f_X12_note_b0 (a1 : Int32) (a2 : Int32) (a3 : Int32) (a4 : Int32) (a5 : Int32) (S : St) : Option (Int32 × St) :=
  bnd (f_X12_in (Int32.toInt64 a1) 0 3 S) (fun r2 S1 => if r2 = 0 then (f_X12_note_b64 S1)
    else (bnd (f_X12_in (Int32.toInt64 a2) 0 9600 S1) (fun r4 S3 => if r4 = 0 then (f_X12_note_b64 S3)
      else (bnd (f_X12_in (Int32.toInt64 a3) 1 960 S3) (fun r6 S5 => if r6 = 0 then (f_X12_note_b64 S5)
        else (bnd (f_X12_in (Int32.toInt64 a4) 12 115 S5) (fun r8 S7 => if r8 = 0 then (f_X12_note_b64 S7)
          else (bnd (f_X12_in (Int32.toInt64 a5) 0 127 S7) (fun r10 S9 => if r10 = 0 then (f_X12_note_b64 S9)
            else (if (gI S9 23) = 48 then (some ((-1004), S9))
              else (chk (inb (gI S9 23) 48) (vlet (wr S9 49 (gI S9 23) a1) (fun S11 => chk (inb (gI S11 23) 48) (vlet (wr S11 50 (gI S11 23) a2) (fun S12 => chk (inb (gI S12 23) 48) (vlet (wr S12 51 (gI S12 23) a3) (fun S13 => chk (inb (gI S13 23) 48) (vlet (wr S13 52 (gI S13 23) a4) (fun S14 => chk (inb (gI S14 23) 48) (vlet (wr S14 53 (gI S14 23) a5) (fun S15 => vlet (pI S15 23 ((gI S15 23) + 1)) (fun S16 => some ((gI S16 23) - 1, S16)))))))))))))))))))))))
def f_X12_note (a1 : Int32) (a2 : Int32) (a3 : Int32) (a4 : Int32) (a5 : Int32) (S : St) : Option (Int32 × St) := f_X12_note_b0 a1 a2 a3 a4 a5 S
/-! StyleRowsModel.onOf(I)I -/
def f_X12_onOf_b92 (w0 : Int32) (S : St) : Option (Int32 × St) :=
  some (w0, S)
def f_X12_onOf_b0 (a1 : Int32) (S : St) : Option (Int32 × St) :=
  chk (inb a1 48) (bnd (f_X12_number (rd S 49 a1) 12 S) (fun r2 S1 => if r2 = 0 then (chk (inb a1 48) (some (rd S1 50 a1, S1)))
    else (vlet ((gJ S1 1) + (((Int32.toInt64 a1) + 1) * (-7046029254386353131))) (fun y3 => vlet ((y3 ^^^ (lus y3 30)) * (-4658895280553007687)) (fun y4 => vlet (y4 ^^^ (lus y4 27)) (fun y5 => chk (inb a1 48) (chk (nzL ((2 * (Int32.toInt64 r2)) + 1)) (vlet (((rd S1 50 a1) + (Int64.toInt32 ((lus y5 33) - (lus y5 33) / ((2 * (Int32.toInt64 r2)) + 1) * ((2 * (Int32.toInt64 r2)) + 1)))) - r2) (fun x6 => if 0 ≤ x6 then (f_X12_onOf_b92 x6 S1)
      else (f_X12_onOf_b92 0 S1))))))))))
def f_X12_onOf (a1 : Int32) (S : St) : Option (Int32 × St) := f_X12_onOf_b0 a1 S
/-! StyleRowsModel.time(I)I -/
def f_X12_time_b89 (rec4 : Int32 × Int32 × St → Option (Int32 × St)) (v1 : Int32) (v2 : Int32) (v3 : Int32) (S : St) : Option (Int32 × St) :=
  rec4 (v2, v3 + 1, S)
def f_X12_time_b4 (rec4 : Int32 × Int32 × St → Option (Int32 × St)) (v1 : Int32) (v2 : Int32) (v3 : Int32) (S : St) : Option (Int32 × St) :=
  if (gI S 27) ≤ v3 then (some (v1 + v2, S))
    else (chk (inb v3 6) (if v1 ≤ (rd S 57 v3) then (f_X12_time_b89 rec4 v1 v2 v3 S)
      else (chk (inb v3 6) (if (rd S 58 v3) ≤ v1 then (f_X12_time_b89 rec4 v1 v2 v3 S)
        else (chk (inb v3 6) (chk (inb v3 6) (vlet (Int32.toInt64 ((rd S 58 v3) - (rd S 57 v3))) (fun y1 => chk (inb v3 6) (chk (inb v3 6) (chk (inb v3 6) (bnd (f_X12_floor (((4 * (Int32.toInt64 (rd S 59 v3))) * (Int32.toInt64 (v1 - (rd S 57 v3)))) * (Int32.toInt64 ((rd S 58 v3) - v1))) (y1 * y1) S) (fun r3 S2 => vlet (Int64.toInt32 r3) (fun x4 => f_X12_time_b89 rec4 v1 x4 v3 S2)))))))))))))
def f_X12_time_l4 (v1 : Int32) (n : Nat) (s : Int32 × Int32 × St) : Option (Int32 × St) :=
  loopN (fun rec4 s => f_X12_time_b4 rec4 v1 s.1 s.2.1 s.2.2) n s
def f_X12_time_b0 (a1 : Int32) (S : St) : Option (Int32 × St) :=
  f_X12_time_l4 a1 fuel (0, 0, S)
def f_X12_time (a1 : Int32) (S : St) : Option (Int32 × St) := f_X12_time_b0 a1 S
/-! StyleRowsModel.sounds(IIIII)V -/
def f_X12_sounds_b146 (v5 : Int32) (S : St) : Option (Unit × St) :=
  vlet (pI S 33 ((gI S 33) + 1)) (fun S1 => vlet (pI S1 35 ((gI S1 35) + v5)) (fun S2 => vlet (pI S2 36 ((gI S2 36) - v5)) (fun S3 => some ((), S3))))
def f_X12_sounds_b77 (v1 : Int32) (v2 : Int32) (v3 : Int32) (v4 : Int32) (v5 : Int32) (w1 : Int32) (w2 : Int32) (S : St) : Option (Unit × St) :=
  chk (inb w1 2400) (vlet (wr S 65 w1 w2) (fun S10 => chk (inb v1 48) (chk (inb ((6 * (gI S10 33)) + 2) 2400) (vlet (wr S10 65 ((6 * (gI S10 33)) + 2) ((rd S10 52 v1) + v3)) (fun S11 => chk (inb ((6 * (gI S11 33)) + 3) 2400) (vlet (wr S11 65 ((6 * (gI S11 33)) + 3) v4) (fun S12 => chk (inb ((6 * (gI S12 33)) + 4) 2400) (vlet (wr S12 65 ((6 * (gI S12 33)) + 4) v1) (fun S13 => chk (inb ((6 * (gI S13 33)) + 5) 2400) (vlet (wr S13 65 ((6 * (gI S13 33)) + 5) v2) (fun S14 => f_X12_sounds_b146 v5 S14)))))))))))
def f_X12_sounds_b0 (a1 : Int32) (a2 : Int32) (a3 : Int32) (a4 : Int32) (a5 : Int32) (S : St) : Option (Unit × St) :=
  if 400 ≤ (gI S 33) then (f_X12_sounds_b146 a5 S)
    else (bnd (f_X12_time (gI S 35) S) (fun r5 S4 => bnd (f_X12_time ((gI S4 35) + a5) S4) (fun r7 S6 => vlet (r7 - r5) (fun x8 => chk (inb ((6 * (gI S6 33)) + 0) 2400) (vlet (wr S6 65 ((6 * (gI S6 33)) + 0) r5) (fun S9 => if 1 ≤ x8 then (f_X12_sounds_b77 a1 a2 a3 a4 a5 ((6 * (gI S9 33)) + 1) x8 S9)
      else (f_X12_sounds_b77 a1 a2 a3 a4 a5 ((6 * (gI S9 33)) + 1) 1 S9)))))))
def f_X12_sounds (a1 : Int32) (a2 : Int32) (a3 : Int32) (a4 : Int32) (a5 : Int32) (S : St) : Option (Unit × St) := f_X12_sounds_b0 a1 a2 a3 a4 a5 S
/-! StyleRowsModel.trill(III)V -/
def f_X12_trill_b85 (rec38 : Int32 × St → Option (Unit × St)) (v1 : Int32) (v2 : Int32) (v4 : Int32) (v5 : Int32) (v6 : Int32) (w1 : Int32) (w2 : Int32) (w3 : Int32) (w4 : Int32) (w5 : Int32) (S : St) : Option (Unit × St) :=
  bnd (f_X12_sounds w1 w2 w3 w4 w5 S) (fun _u3 S3 => rec38 (v6 + 1, S3))
def f_X12_trill_b64 (rec38 : Int32 × St → Option (Unit × St)) (v1 : Int32) (v2 : Int32) (v4 : Int32) (v5 : Int32) (v6 : Int32) (w1 : Int32) (w2 : Int32) (w3 : Int32) (S : St) : Option (Unit × St) :=
  if v6 = (v5 - 1) then (f_X12_trill_b85 rec38 v1 v2 v4 v5 v6 w1 w2 w3 (gI S 37) (gI S 36) S)
    else (f_X12_trill_b85 rec38 v1 v2 v4 v5 v6 w1 w2 w3 (gI S 37) v2 S)
def f_X12_trill_b38 (rec38 : Int32 × St → Option (Unit × St)) (v1 : Int32) (v2 : Int32) (v4 : Int32) (v5 : Int32) (v6 : Int32) (S : St) : Option (Unit × St) :=
  if v5 ≤ v6 then (some ((), S))
    else (chk (nzI 2) (if ((v6 + v4) - (v6 + v4) / 2 * 2) = 1 then (f_X12_trill_b64 rec38 v1 v2 v4 v5 v6 v1 2 2 S)
      else (f_X12_trill_b64 rec38 v1 v2 v4 v5 v6 v1 2 0 S)))
def f_X12_trill_l38 (v1 : Int32) (v2 : Int32) (v4 : Int32) (v5 : Int32) (n : Nat) (s : Int32 × St) : Option (Unit × St) :=
  loopN (fun rec38 s => f_X12_trill_b38 rec38 v1 v2 v4 v5 s.1 s.2) n s
def f_X12_trill_b33 (v1 : Int32) (v2 : Int32) (v4 : Int32) (w0 : Int32) (S : St) : Option (Unit × St) :=
  f_X12_trill_l38 v1 v2 v4 w0 fuel (0, S)
def f_X12_trill_b0 (a1 : Int32) (a2 : Int32) (a3 : Int32) (S : St) : Option (Unit × St) :=
  chk (inb a1 48) (bnd (f_X12_number (rd S 49 a1) 8 S) (fun r2 S1 => chk (nzI 2) (if (((a3 - 1) + r2) - ((a3 - 1) + r2) / 2 * 2) = 1 then (f_X12_trill_b33 a1 a2 r2 (a3 - 1) S1)
    else (f_X12_trill_b33 a1 a2 r2 a3 S1))))
def f_X12_trill (a1 : Int32) (a2 : Int32) (a3 : Int32) (S : St) : Option (Unit × St) := f_X12_trill_b0 a1 a2 a3 S
/-! StyleRowsModel.rolledAhead(I)I -/
def f_X12_rolledAhead_b110 (rec4 : Int32 × Int32 × St → Option (Int32 × St)) (v1 : Int32) (v3 : Int32) (w0 : Int32) (w1 : Int32) (S : St) : Option (Int32 × St) :=
  vlet (w0 + w1) (fun x1 => rec4 (x1, v3 + 1, S))
def f_X12_rolledAhead_b109 (rec4 : Int32 × Int32 × St → Option (Int32 × St)) (v1 : Int32) (v3 : Int32) (w0 : Int32) (S : St) : Option (Int32 × St) :=
  f_X12_rolledAhead_b110 rec4 v1 v3 w0 0 S
def f_X12_rolledAhead_b105 (rec4 : Int32 × Int32 × St → Option (Int32 × St)) (v1 : Int32) (v3 : Int32) (w0 : Int32) (S : St) : Option (Int32 × St) :=
  f_X12_rolledAhead_b110 rec4 v1 v3 w0 1 S
def f_X12_rolledAhead_b62 (rec4 : Int32 × Int32 × St → Option (Int32 × St)) (v1 : Int32) (v2 : Int32) (v3 : Int32) (w0 : Int32) (S : St) : Option (Int32 × St) :=
  if w0 = 0 then (f_X12_rolledAhead_b109 rec4 v1 v3 v2 S)
    else (chk (inb v3 48) (chk (inb v1 48) (if (rd S 52 v3) < (rd S 52 v1) then (f_X12_rolledAhead_b105 rec4 v1 v3 v2 S)
      else (chk (inb v3 48) (chk (inb v1 48) (if (rd S 52 v3) = (rd S 52 v1) then (if v1 ≤ v3 then (f_X12_rolledAhead_b109 rec4 v1 v3 v2 S)
          else (f_X12_rolledAhead_b105 rec4 v1 v3 v2 S))
        else (f_X12_rolledAhead_b109 rec4 v1 v3 v2 S)))))))
def f_X12_rolledAhead_b61 (rec4 : Int32 × Int32 × St → Option (Int32 × St)) (v1 : Int32) (v2 : Int32) (v3 : Int32) (S : St) : Option (Int32 × St) :=
  f_X12_rolledAhead_b62 rec4 v1 v2 v3 0 S
def f_X12_rolledAhead_b4 (rec4 : Int32 × Int32 × St → Option (Int32 × St)) (v1 : Int32) (v2 : Int32) (v3 : Int32) (S : St) : Option (Int32 × St) :=
  if (gI S 23) ≤ v3 then (some (v2, S))
    else (if v3 = v1 then (f_X12_rolledAhead_b61 rec4 v1 v2 v3 S)
      else (bnd (f_X12_has v3 64 S) (fun r3 S2 => if r3 = 0 then (f_X12_rolledAhead_b61 rec4 v1 v2 v3 S2)
        else (chk (inb v3 48) (chk (inb v1 48) (if (rd S2 49 v3) = (rd S2 49 v1) then (chk (inb v3 48) (chk (inb v1 48) (if (rd S2 50 v3) = (rd S2 50 v1) then (f_X12_rolledAhead_b62 rec4 v1 v2 v3 1 S2)
            else (f_X12_rolledAhead_b61 rec4 v1 v2 v3 S2))))
          else (f_X12_rolledAhead_b61 rec4 v1 v2 v3 S2)))))))
def f_X12_rolledAhead_l4 (v1 : Int32) (n : Nat) (s : Int32 × Int32 × St) : Option (Int32 × St) :=
  loopN (fun rec4 s => f_X12_rolledAhead_b4 rec4 v1 s.1 s.2.1 s.2.2) n s
def f_X12_rolledAhead_b0 (a1 : Int32) (S : St) : Option (Int32 × St) :=
  f_X12_rolledAhead_l4 a1 fuel (0, 0, S)
def f_X12_rolledAhead (a1 : Int32) (S : St) : Option (Int32 × St) := f_X12_rolledAhead_b0 a1 S
/-! StyleRowsModel.performNote(I)V -/
def f_X12_performNote_b299 (S : St) : Option (Unit × St) :=
  some ((), S)
def f_X12_performNote_b284 (v1 : Int32) (S : St) : Option (Unit × St) :=
  bnd (f_X12_sounds v1 0 0 (gI S 37) (gI S 36) S) (fun _u20 S20 => f_X12_performNote_b299 S20)
def f_X12_performNote_b201 (v1 : Int32) (S : St) : Option (Unit × St) :=
  bnd (f_X12_has v1 16 S) (fun r19 S18 => if r19 = 0 then (f_X12_performNote_b284 v1 S18)
    else (if (gI S18 36) < 3 then (f_X12_performNote_b284 v1 S18)
      else (chk (inb v1 48) (bnd (f_X12_number (rd S18 49 v1) 9 S18) (fun r22 S21 => chk (nzI 3) (bnd (f_X12_lesser r22 ((gI S21 36) / 3) S21) (fun r24 S23 => bnd (f_X12_sounds v1 3 0 (gI S23 37) r24 S23) (fun _u25 S25 => bnd (f_X12_sounds v1 3 (-2) (gI S25 37) r24 S25) (fun _u26 S26 => bnd (f_X12_sounds v1 3 0 (gI S26 37) (gI S26 36) S26) (fun _u27 S27 => f_X12_performNote_b299 S27))))))))))
def f_X12_performNote_b153 (v1 : Int32) (S : St) : Option (Unit × St) :=
  chk (inb v1 48) (bnd (f_X12_number (rd S 49 v1) 7 S) (fun r15 S14 => bnd (f_X12_has v1 8 S14) (fun r17 S16 => if r17 = 0 then (f_X12_performNote_b201 v1 S16)
    else (chk (nzI r15) (if ((gI S16 36) / r15) < 2 then (f_X12_performNote_b201 v1 S16)
      else (chk (nzI r15) (bnd (f_X12_trill v1 r15 ((gI S16 36) / r15) S16) (fun _u28 S28 => f_X12_performNote_b299 S28))))))))
def f_X12_performNote_b149 (v1 : Int32) (v2 : Int32) (w1 : Int32) (w2 : Int32) (w3 : Int32) (w4 : Int32) (S : St) : Option (Unit × St) :=
  bnd (f_X12_sounds w1 w2 w3 w4 v2 S) (fun _u33 S33 => f_X12_performNote_b153 v1 S33)
def f_X12_performNote_b85 (v1 : Int32) (S : St) : Option (Unit × St) :=
  bnd (f_X12_has v1 32 S) (fun r13 S12 => if r13 = 0 then (f_X12_performNote_b153 v1 S12)
    else (chk (inb v1 48) (bnd (f_X12_number (rd S12 49 v1) 10 S12) (fun r30 S29 => chk (nzI 2) (bnd (f_X12_lesser r30 ((gI S29 36) / 2) S29) (fun r32 S31 => if r32 ≤ 0 then (f_X12_performNote_b153 v1 S31)
      else (chk (nzI 4) (if 1 ≤ (((gI S31 37) * 3) / 4) then (chk (nzI 4) (f_X12_performNote_b149 v1 r32 v1 1 2 (((gI S31 37) * 3) / 4) S31))
        else (f_X12_performNote_b149 v1 r32 v1 1 2 1 S31)))))))))
def f_X12_performNote_b0 (a1 : Int32) (S : St) : Option (Unit × St) :=
  bnd (f_X12_onOf a1 S) (fun r2 S1 => vlet (pI S1 35 r2) (fun S3 => bnd (f_X12_longOf a1 S3) (fun r5 S4 => vlet (pI S4 36 r5) (fun S6 => bnd (f_X12_loudOf a1 S6) (fun r8 S7 => vlet (pI S7 37 r8) (fun S9 => bnd (f_X12_has a1 64 S9) (fun r11 S10 => if r11 = 0 then (f_X12_performNote_b85 a1 S10)
    else (bnd (f_X12_rolledAhead a1 S10) (fun r35 S34 => chk (inb a1 48) (bnd (f_X12_number (rd S34 49 a1) 11 S34) (fun r37 S36 => bnd (f_X12_lesser (r35 * r37) ((gI S36 36) - 1) S36) (fun r39 S38 => vlet (pI S38 35 ((gI S38 35) + r39)) (fun S40 => vlet (pI S40 36 ((gI S40 36) - r39)) (fun S41 => f_X12_performNote_b85 a1 S41))))))))))))))
def f_X12_performNote (a1 : Int32) (S : St) : Option (Unit × St) := f_X12_performNote_b0 a1 S
/-! StyleRowsModel.perform()I -/
def f_X12_perform_b95 (rec50 : Int32 × St → Option (Int32 × St)) (rec95 : Int32 × St → Option (Int32 × St)) (v1 : Int32) (v2 : Int32) (v3 : Int32) (S : St) : Option (Int32 × St) :=
  if 6 ≤ v3 then (bnd (f_X12_cut v1 S) (fun r4 S3 => chk (inb ((6 * v2) + 1) 2400) (vlet (wr S3 66 ((6 * v2) + 1) r4) (fun S5 => rec50 (v1 + 1, S5)))))
    else (chk (inb ((6 * v1) + v3) 2400) (chk (inb ((6 * v2) + v3) 2400) (vlet (wr S 66 ((6 * v2) + v3) (rd S 65 ((6 * v1) + v3))) (fun S6 => rec95 (v3 + 1, S6)))))
def f_X12_perform_l95 (rec50 : Int32 × St → Option (Int32 × St)) (v1 : Int32) (v2 : Int32) (n : Nat) (s : Int32 × St) : Option (Int32 × St) :=
  loopN (fun rec95 s => f_X12_perform_b95 rec50 rec95 v1 v2 s.1 s.2) n s
def f_X12_perform_b85 (rec50 : Int32 × St → Option (Int32 × St)) (rec62 : Int32 × Int32 × St → Option (Int32 × St)) (v1 : Int32) (v3 : Int32) (w0 : Int32) (w1 : Int32) (S : St) : Option (Int32 × St) :=
  vlet (w0 + w1) (fun x9 => rec62 (x9, v3 + 1, S))
def f_X12_perform_b62 (rec50 : Int32 × St → Option (Int32 × St)) (rec62 : Int32 × Int32 × St → Option (Int32 × St)) (v1 : Int32) (v2 : Int32) (v3 : Int32) (S : St) : Option (Int32 × St) :=
  if (gI S 33) ≤ v3 then (f_X12_perform_l95 rec50 v1 v2 fuel (0, S))
    else (bnd (f_X12_isAhead v3 v1 S) (fun r8 S7 => if r8 = 0 then (f_X12_perform_b85 rec50 rec62 v1 v3 v2 0 S7)
      else (f_X12_perform_b85 rec50 rec62 v1 v3 v2 1 S7)))
def f_X12_perform_l62 (rec50 : Int32 × St → Option (Int32 × St)) (v1 : Int32) (n : Nat) (s : Int32 × Int32 × St) : Option (Int32 × St) :=
  loopN (fun rec62 s => f_X12_perform_b62 rec50 rec62 v1 s.1 s.2.1 s.2.2) n s
def f_X12_perform_b50 (rec50 : Int32 × St → Option (Int32 × St)) (v1 : Int32) (S : St) : Option (Int32 × St) :=
  if (gI S 33) ≤ v1 then (some (gI S 34, S))
    else (f_X12_perform_l62 rec50 v1 fuel (0, 0, S))
def f_X12_perform_l50 (n : Nat) (s : Int32 × St) : Option (Int32 × St) :=
  loopN (fun rec50 s => f_X12_perform_b50 rec50 s.1 s.2) n s
def f_X12_perform_b7 (rec7 : Int32 × St → Option (Int32 × St)) (v1 : Int32) (S : St) : Option (Int32 × St) :=
  if (gI S 23) ≤ v1 then (if (gI S 33) ≤ 400 then (vlet (pI S 34 (gI S 33)) (fun S2 => f_X12_perform_l50 fuel (0, S2)))
      else (some ((-1004), S)))
    else (bnd (f_X12_performNote v1 S) (fun _u10 S10 => rec7 (v1 + 1, S10)))
def f_X12_perform_l7 (n : Nat) (s : Int32 × St) : Option (Int32 × St) :=
  loopN (fun rec7 s => f_X12_perform_b7 rec7 s.1 s.2) n s
def f_X12_perform_b0 (S : St) : Option (Int32 × St) :=
  vlet (pI S 33 0) (fun S1 => f_X12_perform_l7 fuel (0, S1))
def f_X12_perform (S : St) : Option (Int32 × St) := f_X12_perform_b0 S
/-! StyleRowsModel.plain()I -/
def f_X12_plain_b0 (S : St) : Option (Int32 × St) :=
  vlet (gI S 28) (fun x1 => vlet (pI S 28 0) (fun S2 => some (x1, S2)))
def f_X12_plain (S : St) : Option (Int32 × St) := f_X12_plain_b0 S
/-! StyleRowsModel.take()V -/
def f_X12_take_b26 (rec0 : St → Option (Unit × St)) (S : St) : Option (Unit × St) :=
  vlet (pI S 32 ((gI S 32) + 1)) (fun S3 => rec0 S3)
def f_X12_take_b310 (S : St) : Option (Unit × St) :=
  some ((), S)
def f_X12_take_b297 (w1 : Int32) (S : St) : Option (Unit × St) :=
  vlet (pI S 30 w1) (fun S20 => vlet (pI S20 32 ((gI S20 32) + 1)) (fun S21 => f_X12_take_b310 S21))
def f_X12_take_b246 (rec184 : St → Option (Unit × St)) (w1 : Int64) (S : St) : Option (Unit × St) :=
  vlet (pJ S 2 w1) (fun S29 => vlet (pI S29 32 ((gI S29 32) + 1)) (fun S30 => rec184 S30))
def f_X12_take_b184 (rec184 : St → Option (Unit × St)) (S : St) : Option (Unit × St) :=
  bnd (f_X12_at (gI S 32) S) (fun r24 S23 => bnd (f_X12_in (Int32.toInt64 r24) 48 57 S23) (fun r26 S25 => if r26 = 0 then (f_X12_take_b310 S25)
    else (if (lg_cmp (gJ S25 2) 100000) ≤ 0 then (bnd (f_X12_at (gI S25 32) S25) (fun r28 S27 => f_X12_take_b246 rec184 ((((gJ S25 2) * 10) + (Int32.toInt64 r28)) - 48) S27))
      else (f_X12_take_b246 rec184 (gJ S25 2) S25))))
def f_X12_take_l184 (n : Nat) (s : St) : Option (Unit × St) :=
  loopN (fun rec184 s => f_X12_take_b184 rec184  s) n s
def f_X12_take_b142 (rec78 : St → Option (Unit × St)) (w1 : Int64) (S : St) : Option (Unit × St) :=
  vlet (pJ S 2 w1) (fun S36 => vlet (pI S36 32 ((gI S36 32) + 1)) (fun S37 => rec78 S37))
def f_X12_take_b78 (rec78 : St → Option (Unit × St)) (S : St) : Option (Unit × St) :=
  bnd (f_X12_at (gI S 32) S) (fun r33 S32 => bnd (f_X12_in (Int32.toInt64 r33) 97 122 S32) (fun r35 S34 => if r35 = 0 then (f_X12_take_b310 S34)
    else (if 6 ≤ ((gI S34 32) - (gI S34 31)) then (f_X12_take_b142 rec78 (-1) S34)
      else (bnd (f_X12_at (gI S34 32) S34) (fun r39 S38 => f_X12_take_b142 rec78 ((((gJ S34 2) * 32) + (Int32.toInt64 r39)) - 96) S38)))))
def f_X12_take_l78 (n : Nat) (s : St) : Option (Unit × St) :=
  loopN (fun rec78 s => f_X12_take_b78 rec78  s) n s
def f_X12_take_b0 (rec0 : St → Option (Unit × St)) (S : St) : Option (Unit × St) :=
  bnd (f_X12_at (gI S 32) S) (fun r2 S1 => if r2 = 32 then (f_X12_take_b26 rec0 S1)
    else (bnd (f_X12_at (gI S1 32) S1) (fun r5 S4 => if r5 = 10 then (f_X12_take_b26 rec0 S4)
      else (vlet (pI S4 31 (gI S4 32)) (fun S6 => vlet (pJ S6 2 0) (fun S7 => bnd (f_X12_at (gI S7 32) S7) (fun r9 S8 => bnd (f_X12_in (Int32.toInt64 r9) 97 122 S8) (fun r11 S10 => if r11 = 0 then (bnd (f_X12_at (gI S10 32) S10) (fun r13 S12 => bnd (f_X12_in (Int32.toInt64 r13) 48 57 S12) (fun r15 S14 => if r15 = 0 then (bnd (f_X12_at (gI S14 32) S14) (fun r17 S16 => if r17 = (-1) then (f_X12_take_b297 0 S16)
            else (bnd (f_X12_at (gI S16 32) S16) (fun r19 S18 => if r19 = 59 then (f_X12_take_b297 3 S18)
              else (f_X12_take_b297 4 S18)))))
          else (vlet (pI S14 30 2) (fun S22 => f_X12_take_l184 fuel S22)))))
        else (vlet (pI S10 30 1) (fun S31 => f_X12_take_l78 fuel S31))))))))))
def f_X12_take_l0 (n : Nat) (s : St) : Option (Unit × St) :=
  loopN (fun rec0 s => f_X12_take_b0 rec0  s) n s
def f_X12_take (S : St) : Option (Unit × St) := f_X12_take_b0 S
/-! StyleRowsModel.takeRule(I)Z -/
def f_X12_takeRule_b14 (S : St) : Option (Int32 × St) :=
  some (0, S)
def f_X12_takeRule_b222 (w0 : Int32) (S : St) : Option (Int32 × St) :=
  chk (isB w0) (some (w0, S))
def f_X12_takeRule_b209 (S : St) : Option (Int32 × St) :=
  if (gI S 30) = 3 then (f_X12_takeRule_b222 1 S)
    else (f_X12_takeRule_b222 0 S)
def f_X12_takeRule_b98 (v1 : Int32) (w0 : Int32) (S : St) : Option (Int32 × St) :=
  if w0 = (-1) then (some (0, S))
    else (chk (inb v1 24) (vlet (wr S 61 v1 w0) (fun S5 => bnd (f_X12_take S5) (fun _u6 S6 => bnd (f_X12_lowest w0 S6) (fun r8 S7 => bnd (f_X12_highest w0 S7) (fun r10 S9 => bnd (f_X12_isNumber r8 r10 S9) (fun r12 S11 => if r12 = 0 then (some (0, S11))
      else (chk (inb v1 24) (vlet (wr S11 62 v1 (Int64.toInt32 (gJ S11 2))) (fun S13 => bnd (f_X12_take S13) (fun _u14 S14 => if (gI S14 30) = 1 then (bnd (f_X12_word 114 97 110 107 0 0 S14) (fun r16 S15 => if (lg_cmp (gJ S14 2) r16) = 0 then (bnd (f_X12_take S15) (fun _u17 S17 => bnd (f_X12_isNumber 0 9 S17) (fun r19 S18 => if r19 = 0 then (some (0, S18))
            else (chk (inb v1 24) (vlet (wr S18 63 v1 (Int64.toInt32 (gJ S18 2))) (fun S20 => bnd (f_X12_take S20) (fun _u21 S21 => f_X12_takeRule_b209 S21)))))))
          else (f_X12_takeRule_b209 S15)))
        else (f_X12_takeRule_b209 S14))))))))))))
def f_X12_takeRule_b82 (v1 : Int32) (S : St) : Option (Int32 × St) :=
  if (gI S 30) = 1 then (bnd (f_X12_named S) (fun r23 S22 => f_X12_takeRule_b98 v1 r23 S22))
    else (f_X12_takeRule_b98 v1 (-1) S)
def f_X12_takeRule_b0 (a1 : Int32) (S : St) : Option (Int32 × St) :=
  if a1 = 24 then (f_X12_takeRule_b14 S)
    else (if (gI S 30) = 1 then (chk (inb a1 24) (vlet (wr S 60 a1 (-1)) (fun S1 => chk (inb a1 24) (vlet (wr S1 63 a1 0) (fun S2 => bnd (f_X12_word 118 111 105 99 101 0 S2) (fun r4 S3 => if (lg_cmp (gJ S2 2) r4) = 0 then (bnd (f_X12_take S3) (fun _u24 S24 => bnd (f_X12_isNumber 0 3 S24) (fun r26 S25 => if r26 = 0 then (some (0, S25))
          else (chk (inb a1 24) (vlet (wr S25 60 a1 (Int64.toInt32 (gJ S25 2))) (fun S27 => bnd (f_X12_take S27) (fun _u28 S28 => f_X12_takeRule_b82 a1 S28)))))))
        else (f_X12_takeRule_b82 a1 S3)))))))
      else (f_X12_takeRule_b14 S))
def f_X12_takeRule (a1 : Int32) (S : St) : Option (Int32 × St) := f_X12_takeRule_b0 a1 S
/-! StyleRowsModel.read()I -/
def f_X12_read_b47 (v1 : Int32) (v2 : Int32) (S : St) : Option (Int32 × St) :=
  vlet (gI S 31) (fun x4 => vlet (pI S 29 0) (fun S5 => if v2 = 0 then (some ((-10) - x4, S5))
    else (vlet (pI S5 28 v1) (fun S6 => some (gI S6 28, S6)))))
def f_X12_read_b16 (rec16 : Int32 × Int32 × St → Option (Int32 × St)) (v1 : Int32) (v2 : Int32) (S : St) : Option (Int32 × St) :=
  if v2 = 0 then (f_X12_read_b47 v1 v2 S)
    else (if (gI S 30) = 0 then (f_X12_read_b47 v1 v2 S)
      else (bnd (f_X12_takeRule v1 S) (fun r8 S7 => if r8 = 0 then (rec16 (v1, r8, S7))
        else (bnd (f_X12_take S7) (fun _u9 S9 => rec16 (v1 + 1, r8, S9))))))
def f_X12_read_l16 (n : Nat) (s : Int32 × Int32 × St) : Option (Int32 × St) :=
  loopN (fun rec16 s => f_X12_read_b16 rec16 s.1 s.2.1 s.2.2) n s
def f_X12_read_b0 (S : St) : Option (Int32 × St) :=
  vlet (gI S 28) (fun x1 => vlet (pI S 32 0) (fun S2 => bnd (f_X12_take S2) (fun _u3 S3 => f_X12_read_l16 fuel (x1, 1, S3))))
def f_X12_read (S : St) : Option (Int32 × St) := f_X12_read_b0 S
/-! StyleRowsModel.rule(II)I -/
def f_X12_rule_b78 (w0 : Int32) (S : St) : Option (Int32 × St) :=
  some (w0, S)
def f_X12_rule_b0 (a1 : Int32) (a2 : Int32) (S : St) : Option (Int32 × St) :=
  bnd (f_X12_in (Int32.toInt64 a1) 0 (Int32.toInt64 ((gI S 28) - 1)) S) (fun r2 S1 => if r2 = 0 then (some ((-1001), S1))
    else (if a2 = 0 then (chk (inb a1 24) (f_X12_rule_b78 (rd S1 60 a1) S1))
      else (if a2 = 1 then (chk (inb a1 24) (f_X12_rule_b78 (rd S1 61 a1) S1))
        else (if a2 = 2 then (chk (inb a1 24) (f_X12_rule_b78 (rd S1 62 a1) S1))
          else (if a2 = 3 then (chk (inb a1 24) (f_X12_rule_b78 (rd S1 63 a1) S1))
            else (f_X12_rule_b78 (-1001) S1))))))
def f_X12_rule (a1 : Int32) (a2 : Int32) (S : St) : Option (Int32 × St) := f_X12_rule_b0 a1 a2 S
/-! StyleRowsModel.sounding(I)I -/
def f_X12_sounding_b56 (rec4 : Int32 × Int32 × St → Option (Int32 × St)) (v1 : Int32) (v3 : Int32) (w0 : Int32) (w1 : Int32) (S : St) : Option (Int32 × St) :=
  vlet (w0 + w1) (fun x1 => rec4 (x1, v3 + 1, S))
def f_X12_sounding_b55 (rec4 : Int32 × Int32 × St → Option (Int32 × St)) (v1 : Int32) (v3 : Int32) (w0 : Int32) (S : St) : Option (Int32 × St) :=
  f_X12_sounding_b56 rec4 v1 v3 w0 0 S
def f_X12_sounding_b4 (rec4 : Int32 × Int32 × St → Option (Int32 × St)) (v1 : Int32) (v2 : Int32) (v3 : Int32) (S : St) : Option (Int32 × St) :=
  if (gI S 34) ≤ v3 then (some (v2, S))
    else (chk (inb (6 * v3) 2400) (if v1 < (rd S 66 (6 * v3)) then (f_X12_sounding_b55 rec4 v1 v3 v2 S)
      else (chk (inb (6 * v3) 2400) (chk (inb ((6 * v3) + 1) 2400) (if ((rd S 66 (6 * v3)) + (rd S 66 ((6 * v3) + 1))) ≤ v1 then (f_X12_sounding_b55 rec4 v1 v3 v2 S)
        else (f_X12_sounding_b56 rec4 v1 v3 v2 1 S))))))
def f_X12_sounding_l4 (v1 : Int32) (n : Nat) (s : Int32 × Int32 × St) : Option (Int32 × St) :=
  loopN (fun rec4 s => f_X12_sounding_b4 rec4 v1 s.1 s.2.1 s.2.2) n s
def f_X12_sounding_b0 (a1 : Int32) (S : St) : Option (Int32 × St) :=
  f_X12_sounding_l4 a1 fuel (0, 0, S)
def f_X12_sounding (a1 : Int32) (S : St) : Option (Int32 × St) := f_X12_sounding_b0 a1 S
/-! StyleRowsModel.span(II)I -/
def f_X12_span_b20 (S : St) : Option (Int32 × St) :=
  some ((-1001), S)
def f_X12_span_b170 (w0 : Int32) (S : St) : Option (Int32 × St) :=
  some (w0, S)
def f_X12_span_b144 (rec35 : Int32 × Int32 × Int32 × Int32 × St → Option (Int32 × St)) (v1 : Int32) (v2 : Int32) (v3 : Int32) (v4 : Int32) (v5 : Int32) (v6 : Int32) (S : St) : Option (Int32 × St) :=
  rec35 (v3, v4, v5, v6 + 1, S)
def f_X12_span_b139 (rec35 : Int32 × Int32 × Int32 × Int32 × St → Option (Int32 × St)) (v1 : Int32) (v2 : Int32) (v3 : Int32) (v4 : Int32) (v6 : Int32) (w0 : Int32) (S : St) : Option (Int32 × St) :=
  f_X12_span_b144 rec35 v1 v2 (v3 + 1) v4 w0 v6 S
def f_X12_span_b132 (rec35 : Int32 × Int32 × Int32 × Int32 × St → Option (Int32 × St)) (v1 : Int32) (v2 : Int32) (v3 : Int32) (v4 : Int32) (v6 : Int32) (v7 : Int32) (S : St) : Option (Int32 × St) :=
  f_X12_span_b139 rec35 v1 v2 v3 v4 v6 v7 S
def f_X12_span_b119 (rec35 : Int32 × Int32 × Int32 × Int32 × St → Option (Int32 × St)) (v1 : Int32) (v2 : Int32) (v3 : Int32) (v5 : Int32) (v6 : Int32) (v7 : Int32) (w0 : Int32) (S : St) : Option (Int32 × St) :=
  if v3 = 0 then (f_X12_span_b132 rec35 v1 v2 v3 w0 v6 v7 S)
    else (if v7 ≤ v5 then (f_X12_span_b139 rec35 v1 v2 v3 w0 v6 v5 S)
      else (f_X12_span_b132 rec35 v1 v2 v3 w0 v6 v7 S))
def f_X12_span_b104 (rec35 : Int32 × Int32 × Int32 × Int32 × St → Option (Int32 × St)) (v1 : Int32) (v2 : Int32) (v3 : Int32) (v5 : Int32) (v6 : Int32) (v7 : Int32) (S : St) : Option (Int32 × St) :=
  chk (inb (6 * v6) 2400) (f_X12_span_b119 rec35 v1 v2 v3 v5 v6 v7 (rd S 66 (6 * v6)) S)
def f_X12_span_b35 (rec35 : Int32 × Int32 × Int32 × Int32 × St → Option (Int32 × St)) (v1 : Int32) (v2 : Int32) (v3 : Int32) (v4 : Int32) (v5 : Int32) (v6 : Int32) (S : St) : Option (Int32 × St) :=
  if (gI S 34) ≤ v6 then (if v2 = 0 then (f_X12_span_b170 v3 S)
      else (if v2 = 1 then (f_X12_span_b170 v4 S)
        else (f_X12_span_b170 v5 S)))
    else (chk (inb ((6 * v6) + 4) 2400) (if (rd S 66 ((6 * v6) + 4)) = v1 then (chk (inb (6 * v6) 2400) (chk (inb ((6 * v6) + 1) 2400) (vlet ((rd S 66 (6 * v6)) + (rd S 66 ((6 * v6) + 1))) (fun x5 => if v3 = 0 then (f_X12_span_b104 rec35 v1 v2 v3 v5 v6 x5 S)
        else (chk (inb (6 * v6) 2400) (if v4 ≤ (rd S 66 (6 * v6)) then (f_X12_span_b119 rec35 v1 v2 v3 v5 v6 x5 v4 S)
          else (f_X12_span_b104 rec35 v1 v2 v3 v5 v6 x5 S)))))))
      else (f_X12_span_b144 rec35 v1 v2 v3 v4 v5 v6 S)))
def f_X12_span_l35 (v1 : Int32) (v2 : Int32) (n : Nat) (s : Int32 × Int32 × Int32 × Int32 × St) : Option (Int32 × St) :=
  loopN (fun rec35 s => f_X12_span_b35 rec35 v1 v2 s.1 s.2.1 s.2.2.1 s.2.2.2.1 s.2.2.2.2) n s
def f_X12_span_b0 (a1 : Int32) (a2 : Int32) (S : St) : Option (Int32 × St) :=
  bnd (f_X12_isNote a1 S) (fun r2 S1 => if r2 = 0 then (f_X12_span_b20 S1)
    else (bnd (f_X12_in (Int32.toInt64 a2) 0 2 S1) (fun r4 S3 => if r4 = 0 then (f_X12_span_b20 S3)
      else (f_X12_span_l35 a1 a2 fuel (0, (-1), (-1), 0, S3)))))
def f_X12_span (a1 : Int32) (a2 : Int32) (S : St) : Option (Int32 × St) := f_X12_span_b0 a1 a2 S
/-! StyleRowsModel.timeOf(I)I -/
def f_X12_timeOf_b23 (w0 : Int32) (S : St) : Option (Int32 × St) :=
  some (w0, S)
def f_X12_timeOf_b0 (a1 : Int32) (S : St) : Option (Int32 × St) :=
  bnd (f_X12_in (Int32.toInt64 a1) 0 20000 S) (fun r2 S1 => if r2 = 0 then (f_X12_timeOf_b23 (-1002) S1)
    else (bnd (f_X12_time a1 S1) (fun r4 S3 => f_X12_timeOf_b23 r4 S3)))
def f_X12_timeOf (a1 : Int32) (S : St) : Option (Int32 × St) := f_X12_timeOf_b0 a1 S
/-! StyleRowsModel.value(II)I -/
def f_X12_value_b36 (w0 : Int32) (S : St) : Option (Int32 × St) :=
  some (w0, S)
def f_X12_value_b33 (S : St) : Option (Int32 × St) :=
  f_X12_value_b36 (-1001) S
def f_X12_value_b0 (a1 : Int32) (a2 : Int32) (S : St) : Option (Int32 × St) :=
  bnd (f_X12_in (Int32.toInt64 a1) 0 3 S) (fun r2 S1 => if r2 = 0 then (f_X12_value_b33 S1)
    else (bnd (f_X12_in (Int32.toInt64 a2) 0 12 S1) (fun r4 S3 => if r4 = 0 then (f_X12_value_b33 S3)
      else (bnd (f_X12_number a1 a2 S3) (fun r6 S5 => f_X12_value_b36 r6 S5)))))
def f_X12_value (a1 : Int32) (a2 : Int32) (S : St) : Option (Int32 × St) := f_X12_value_b0 a1 a2 S
/-! StyleRowsModel.why(II)I -/
def f_X12_why_b36 (w0 : Int32) (S : St) : Option (Int32 × St) :=
  some (w0, S)
def f_X12_why_b33 (S : St) : Option (Int32 × St) :=
  f_X12_why_b36 (-1001) S
def f_X12_why_b0 (a1 : Int32) (a2 : Int32) (S : St) : Option (Int32 × St) :=
  bnd (f_X12_in (Int32.toInt64 a1) 0 3 S) (fun r2 S1 => if r2 = 0 then (f_X12_why_b33 S1)
    else (bnd (f_X12_in (Int32.toInt64 a2) 0 12 S1) (fun r4 S3 => if r4 = 0 then (f_X12_why_b33 S3)
      else (bnd (f_X12_counts a1 a2 S3) (fun r6 S5 => f_X12_why_b36 r6 S5)))))
def f_X12_why (a1 : Int32) (a2 : Int32) (S : St) : Option (Int32 × St) := f_X12_why_b0 a1 a2 S
end
