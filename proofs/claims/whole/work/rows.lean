section
-- ===== PART A: goes FIRST, ahead of the names: the tables' words, and 'selects' of the private methods out of them =====
/-- a private method of a class that the tables say can be made, by its rows of tables_1 -/
def lw_okq (q : MethodName × Nat) : Prop := (q.1.cls ≠ "java/lang/invoke/MethodHandle" ∧ q.1.cls ≠ "java/lang/invoke/VarHandle") ∧ Cond.instantiable q.1.cls q.2 ∈ tables_1 ∧ Cond.privateMethod q.1 ∈ tables_1 ∧ Cond.instanceMethod q.1 ∈ tables_1
theorem lw_p0 : lw_okq (⟨"EdgePicture$Page", "readNumber", "(II)I"⟩, 3) := ⟨⟨by decide +kernel, by decide +kernel⟩, List.mem_of_getElem? (i := 24) (by decide +kernel), List.mem_of_getElem? (i := 218) (by decide +kernel), List.mem_of_getElem? (i := 219) (by decide +kernel)⟩
theorem lw_p1 : lw_okq (⟨"EdgePicture$Page", "readSign", "(C)Z"⟩, 3) := ⟨⟨by decide +kernel, by decide +kernel⟩, List.mem_of_getElem? (i := 24) (by decide +kernel), List.mem_of_getElem? (i := 226) (by decide +kernel), List.mem_of_getElem? (i := 227) (by decide +kernel)⟩
theorem lw_p2 : lw_okq (⟨"EdgePicture$Page", "readClue", "(LEdgePicture$Table;I)Z"⟩, 3) := ⟨⟨by decide +kernel, by decide +kernel⟩, List.mem_of_getElem? (i := 24) (by decide +kernel), List.mem_of_getElem? (i := 230) (by decide +kernel), List.mem_of_getElem? (i := 231) (by decide +kernel)⟩
theorem lw_p3 : lw_okq (⟨"EdgePicture$Page", "readKind", "()I"⟩, 3) := ⟨⟨by decide +kernel, by decide +kernel⟩, List.mem_of_getElem? (i := 24) (by decide +kernel), List.mem_of_getElem? (i := 238) (by decide +kernel), List.mem_of_getElem? (i := 239) (by decide +kernel)⟩
theorem lw_p4 : lw_okq (⟨"EdgePicture", "isSpare", "(I)Z"⟩, 12) := ⟨⟨by decide +kernel, by decide +kernel⟩, List.mem_of_getElem? (i := 16) (by decide +kernel), List.mem_of_getElem? (i := 368) (by decide +kernel), List.mem_of_getElem? (i := 369) (by decide +kernel)⟩
theorem lw_p5 : lw_okq (⟨"EdgePicture", "settled", "()LEdgePicture$Fits;"⟩, 12) := ⟨⟨by decide +kernel, by decide +kernel⟩, List.mem_of_getElem? (i := 16) (by decide +kernel), List.mem_of_getElem? (i := 372) (by decide +kernel), List.mem_of_getElem? (i := 373) (by decide +kernel)⟩
theorem lw_p6 : lw_okq (⟨"EdgePicture$Search", "openColumn", "(II)V"⟩, 8) := ⟨⟨by decide +kernel, by decide +kernel⟩, List.mem_of_getElem? (i := 102) (by decide +kernel), List.mem_of_getElem? (i := 402) (by decide +kernel), List.mem_of_getElem? (i := 403) (by decide +kernel)⟩
theorem lw_p7 : lw_okq (⟨"EdgePicture$Search", "lay", "(IIILEdgePicture$Fits;)V"⟩, 8) := ⟨⟨by decide +kernel, by decide +kernel⟩, List.mem_of_getElem? (i := 102) (by decide +kernel), List.mem_of_getElem? (i := 406) (by decide +kernel), List.mem_of_getElem? (i := 407) (by decide +kernel)⟩
theorem lw_p8 : lw_okq (⟨"EdgePicture$Search", "canGoOn", "(II)Z"⟩, 8) := ⟨⟨by decide +kernel, by decide +kernel⟩, List.mem_of_getElem? (i := 102) (by decide +kernel), List.mem_of_getElem? (i := 417) (by decide +kernel), List.mem_of_getElem? (i := 418) (by decide +kernel)⟩
theorem lw_p9 : lw_okq (⟨"EdgePicture$Table", "canBeOf", "(II)Z"⟩, 11) := ⟨⟨by decide +kernel, by decide +kernel⟩, List.mem_of_getElem? (i := 43) (by decide +kernel), List.mem_of_getElem? (i := 433) (by decide +kernel), List.mem_of_getElem? (i := 434) (by decide +kernel)⟩
theorem lw_p10 : lw_okq (⟨"EdgePicture$Table", "wouldKeep", "(III)Z"⟩, 11) := ⟨⟨by decide +kernel, by decide +kernel⟩, List.mem_of_getElem? (i := 43) (by decide +kernel), List.mem_of_getElem? (i := 437) (by decide +kernel), List.mem_of_getElem? (i := 438) (by decide +kernel)⟩
theorem lw_p11 : lw_okq (⟨"EdgePicture$Table", "worstOfTry", "(III)I"⟩, 11) := ⟨⟨by decide +kernel, by decide +kernel⟩, List.mem_of_getElem? (i := 43) (by decide +kernel), List.mem_of_getElem? (i := 449) (by decide +kernel), List.mem_of_getElem? (i := 450) (by decide +kernel)⟩
theorem lw_p12 : lw_okq (⟨"EdgePicture", "fewestHints", "(I)I"⟩, 12) := ⟨⟨by decide +kernel, by decide +kernel⟩, List.mem_of_getElem? (i := 16) (by decide +kernel), List.mem_of_getElem? (i := 566) (by decide +kernel), List.mem_of_getElem? (i := 567) (by decide +kernel)⟩
theorem lw_p13 : lw_okq (⟨"EdgePicture", "growHints", "(IIII)I"⟩, 12) := ⟨⟨by decide +kernel, by decide +kernel⟩, List.mem_of_getElem? (i := 16) (by decide +kernel), List.mem_of_getElem? (i := 570) (by decide +kernel), List.mem_of_getElem? (i := 571) (by decide +kernel)⟩
theorem lw_p14 : lw_okq (⟨"EdgePicture", "changeToOne", "(I)I"⟩, 12) := ⟨⟨by decide +kernel, by decide +kernel⟩, List.mem_of_getElem? (i := 16) (by decide +kernel), List.mem_of_getElem? (i := 587) (by decide +kernel), List.mem_of_getElem? (i := 588) (by decide +kernel)⟩
theorem lw_p15 : lw_okq (⟨"EdgePicture", "leavesOne", "(IIII)Z"⟩, 12) := ⟨⟨by decide +kernel, by decide +kernel⟩, List.mem_of_getElem? (i := 16) (by decide +kernel), List.mem_of_getElem? (i := 592) (by decide +kernel), List.mem_of_getElem? (i := 593) (by decide +kernel)⟩
def lw_privs_1 : List (MethodName × Nat) := [(⟨"EdgePicture$Page", "readNumber", "(II)I"⟩, 3), (⟨"EdgePicture$Page", "readSign", "(C)Z"⟩, 3), (⟨"EdgePicture$Page", "readClue", "(LEdgePicture$Table;I)Z"⟩, 3), (⟨"EdgePicture$Page", "readKind", "()I"⟩, 3), (⟨"EdgePicture", "isSpare", "(I)Z"⟩, 12), (⟨"EdgePicture", "settled", "()LEdgePicture$Fits;"⟩, 12), (⟨"EdgePicture$Search", "openColumn", "(II)V"⟩, 8), (⟨"EdgePicture$Search", "lay", "(IIILEdgePicture$Fits;)V"⟩, 8), (⟨"EdgePicture$Search", "canGoOn", "(II)Z"⟩, 8), (⟨"EdgePicture$Table", "canBeOf", "(II)Z"⟩, 11), (⟨"EdgePicture$Table", "wouldKeep", "(III)Z"⟩, 11), (⟨"EdgePicture$Table", "worstOfTry", "(III)I"⟩, 11), (⟨"EdgePicture", "fewestHints", "(I)I"⟩, 12), (⟨"EdgePicture", "growHints", "(IIII)I"⟩, 12), (⟨"EdgePicture", "changeToOne", "(I)I"⟩, 12), (⟨"EdgePicture", "leavesOne", "(IIII)Z"⟩, 12)]
theorem lw_r1 : ∀ q ∈ lw_privs_1, lw_okq q := List.forall_mem_cons.mpr ⟨lw_p0, List.forall_mem_cons.mpr ⟨lw_p1, List.forall_mem_cons.mpr ⟨lw_p2, List.forall_mem_cons.mpr ⟨lw_p3, List.forall_mem_cons.mpr ⟨lw_p4, List.forall_mem_cons.mpr ⟨lw_p5, List.forall_mem_cons.mpr ⟨lw_p6, List.forall_mem_cons.mpr ⟨lw_p7, List.forall_mem_cons.mpr ⟨lw_p8, List.forall_mem_cons.mpr ⟨lw_p9, List.forall_mem_cons.mpr ⟨lw_p10, List.forall_mem_cons.mpr ⟨lw_p11, List.forall_mem_cons.mpr ⟨lw_p12, List.forall_mem_cons.mpr ⟨lw_p13, List.forall_mem_cons.mpr ⟨lw_p14, List.forall_mem_cons.mpr ⟨lw_p15, fun _ h => absurd h List.not_mem_nil⟩⟩⟩⟩⟩⟩⟩⟩⟩⟩⟩⟩⟩⟩⟩⟩
theorem lw_p16 : lw_okq (⟨"EdgePicture", "playGame", "(I)I"⟩, 12) := ⟨⟨by decide +kernel, by decide +kernel⟩, List.mem_of_getElem? (i := 16) (by decide +kernel), List.mem_of_getElem? (i := 621) (by decide +kernel), List.mem_of_getElem? (i := 622) (by decide +kernel)⟩
theorem lw_p17 : lw_okq (⟨"EdgePicture", "sureCells", "()I"⟩, 12) := ⟨⟨by decide +kernel, by decide +kernel⟩, List.mem_of_getElem? (i := 16) (by decide +kernel), List.mem_of_getElem? (i := 647) (by decide +kernel), List.mem_of_getElem? (i := 648) (by decide +kernel)⟩
theorem lw_p18 : lw_okq (⟨"EdgePictureModel", "faultOf", "()I"⟩, 41) := ⟨⟨by decide +kernel, by decide +kernel⟩, List.mem_of_getElem? (i := 664) (by decide +kernel), List.mem_of_getElem? (i := 811) (by decide +kernel), List.mem_of_getElem? (i := 812) (by decide +kernel)⟩
theorem lw_p19 : lw_okq (⟨"EdgePictureModel", "isGood", "(I)Z"⟩, 41) := ⟨⟨by decide +kernel, by decide +kernel⟩, List.mem_of_getElem? (i := 664) (by decide +kernel), List.mem_of_getElem? (i := 815) (by decide +kernel), List.mem_of_getElem? (i := 816) (by decide +kernel)⟩
theorem lw_p20 : lw_okq (⟨"EdgePictureModel", "isKindLetter", "(I)Z"⟩, 41) := ⟨⟨by decide +kernel, by decide +kernel⟩, List.mem_of_getElem? (i := 664) (by decide +kernel), List.mem_of_getElem? (i := 821) (by decide +kernel), List.mem_of_getElem? (i := 822) (by decide +kernel)⟩
theorem lw_p21 : lw_okq (⟨"EdgePictureModel", "isFirstLetter", "(I)Z"⟩, 41) := ⟨⟨by decide +kernel, by decide +kernel⟩, List.mem_of_getElem? (i := 664) (by decide +kernel), List.mem_of_getElem? (i := 828) (by decide +kernel), List.mem_of_getElem? (i := 829) (by decide +kernel)⟩
theorem lw_p22 : lw_okq (⟨"EdgePictureModel", "readCells", "()I"⟩, 41) := ⟨⟨by decide +kernel, by decide +kernel⟩, List.mem_of_getElem? (i := 664) (by decide +kernel), List.mem_of_getElem? (i := 835) (by decide +kernel), List.mem_of_getElem? (i := 836) (by decide +kernel)⟩
theorem lw_p23 : lw_okq (⟨"EdgePictureModel", "readHigh", "()I"⟩, 41) := ⟨⟨by decide +kernel, by decide +kernel⟩, List.mem_of_getElem? (i := 664) (by decide +kernel), List.mem_of_getElem? (i := 839) (by decide +kernel), List.mem_of_getElem? (i := 840) (by decide +kernel)⟩
theorem lw_p24 : lw_okq (⟨"EdgePictureModel", "isSecondLetter", "(I)Z"⟩, 41) := ⟨⟨by decide +kernel, by decide +kernel⟩, List.mem_of_getElem? (i := 664) (by decide +kernel), List.mem_of_getElem? (i := 843) (by decide +kernel), List.mem_of_getElem? (i := 844) (by decide +kernel)⟩
theorem lw_p25 : lw_okq (⟨"EdgePictureModel", "isBehindLetter", "(I)Z"⟩, 41) := ⟨⟨by decide +kernel, by decide +kernel⟩, List.mem_of_getElem? (i := 664) (by decide +kernel), List.mem_of_getElem? (i := 850) (by decide +kernel), List.mem_of_getElem? (i := 851) (by decide +kernel)⟩
theorem lw_p26 : lw_okq (⟨"EdgePictureModel", "readLines", "()I"⟩, 41) := ⟨⟨by decide +kernel, by decide +kernel⟩, List.mem_of_getElem? (i := 664) (by decide +kernel), List.mem_of_getElem? (i := 854) (by decide +kernel), List.mem_of_getElem? (i := 855) (by decide +kernel)⟩
theorem lw_p27 : lw_okq (⟨"EdgePictureModel", "isLine", "(I)Z"⟩, 41) := ⟨⟨by decide +kernel, by decide +kernel⟩, List.mem_of_getElem? (i := 664) (by decide +kernel), List.mem_of_getElem? (i := 869) (by decide +kernel), List.mem_of_getElem? (i := 870) (by decide +kernel)⟩
theorem lw_p28 : lw_okq (⟨"EdgePictureModel", "cellsOf", "(I)I"⟩, 41) := ⟨⟨by decide +kernel, by decide +kernel⟩, List.mem_of_getElem? (i := 664) (by decide +kernel), List.mem_of_getElem? (i := 873) (by decide +kernel), List.mem_of_getElem? (i := 874) (by decide +kernel)⟩
theorem lw_p29 : lw_okq (⟨"EdgePictureModel", "keepsOf", "(II)I"⟩, 41) := ⟨⟨by decide +kernel, by decide +kernel⟩, List.mem_of_getElem? (i := 664) (by decide +kernel), List.mem_of_getElem? (i := 877) (by decide +kernel), List.mem_of_getElem? (i := 878) (by decide +kernel)⟩
theorem lw_p30 : lw_okq (⟨"EdgePictureModel", "isKept", "(IIII)Z"⟩, 41) := ⟨⟨by decide +kernel, by decide +kernel⟩, List.mem_of_getElem? (i := 664) (by decide +kernel), List.mem_of_getElem? (i := 881) (by decide +kernel), List.mem_of_getElem? (i := 882) (by decide +kernel)⟩
theorem lw_p31 : lw_okq (⟨"EdgePictureModel", "layRuns", "(I)V"⟩, 41) := ⟨⟨by decide +kernel, by decide +kernel⟩, List.mem_of_getElem? (i := 664) (by decide +kernel), List.mem_of_getElem? (i := 885) (by decide +kernel), List.mem_of_getElem? (i := 886) (by decide +kernel)⟩
def lw_privs_2 : List (MethodName × Nat) := [(⟨"EdgePicture", "playGame", "(I)I"⟩, 12), (⟨"EdgePicture", "sureCells", "()I"⟩, 12), (⟨"EdgePictureModel", "faultOf", "()I"⟩, 41), (⟨"EdgePictureModel", "isGood", "(I)Z"⟩, 41), (⟨"EdgePictureModel", "isKindLetter", "(I)Z"⟩, 41), (⟨"EdgePictureModel", "isFirstLetter", "(I)Z"⟩, 41), (⟨"EdgePictureModel", "readCells", "()I"⟩, 41), (⟨"EdgePictureModel", "readHigh", "()I"⟩, 41), (⟨"EdgePictureModel", "isSecondLetter", "(I)Z"⟩, 41), (⟨"EdgePictureModel", "isBehindLetter", "(I)Z"⟩, 41), (⟨"EdgePictureModel", "readLines", "()I"⟩, 41), (⟨"EdgePictureModel", "isLine", "(I)Z"⟩, 41), (⟨"EdgePictureModel", "cellsOf", "(I)I"⟩, 41), (⟨"EdgePictureModel", "keepsOf", "(II)I"⟩, 41), (⟨"EdgePictureModel", "isKept", "(IIII)Z"⟩, 41), (⟨"EdgePictureModel", "layRuns", "(I)V"⟩, 41)]
theorem lw_r2 : ∀ q ∈ lw_privs_2, lw_okq q := List.forall_mem_cons.mpr ⟨lw_p16, List.forall_mem_cons.mpr ⟨lw_p17, List.forall_mem_cons.mpr ⟨lw_p18, List.forall_mem_cons.mpr ⟨lw_p19, List.forall_mem_cons.mpr ⟨lw_p20, List.forall_mem_cons.mpr ⟨lw_p21, List.forall_mem_cons.mpr ⟨lw_p22, List.forall_mem_cons.mpr ⟨lw_p23, List.forall_mem_cons.mpr ⟨lw_p24, List.forall_mem_cons.mpr ⟨lw_p25, List.forall_mem_cons.mpr ⟨lw_p26, List.forall_mem_cons.mpr ⟨lw_p27, List.forall_mem_cons.mpr ⟨lw_p28, List.forall_mem_cons.mpr ⟨lw_p29, List.forall_mem_cons.mpr ⟨lw_p30, List.forall_mem_cons.mpr ⟨lw_p31, fun _ h => absurd h List.not_mem_nil⟩⟩⟩⟩⟩⟩⟩⟩⟩⟩⟩⟩⟩⟩⟩⟩
theorem lw_p32 : lw_okq (⟨"EdgePictureModel", "lacks", "()Z"⟩, 41) := ⟨⟨by decide +kernel, by decide +kernel⟩, List.mem_of_getElem? (i := 664) (by decide +kernel), List.mem_of_getElem? (i := 896) (by decide +kernel), List.mem_of_getElem? (i := 897) (by decide +kernel)⟩
theorem lw_p33 : lw_okq (⟨"EdgePictureModel", "leftOf", "()I"⟩, 41) := ⟨⟨by decide +kernel, by decide +kernel⟩, List.mem_of_getElem? (i := 664) (by decide +kernel), List.mem_of_getElem? (i := 900) (by decide +kernel), List.mem_of_getElem? (i := 901) (by decide +kernel)⟩
theorem lw_p34 : lw_okq (⟨"EdgePictureModel", "freshen", "()V"⟩, 41) := ⟨⟨by decide +kernel, by decide +kernel⟩, List.mem_of_getElem? (i := 664) (by decide +kernel), List.mem_of_getElem? (i := 904) (by decide +kernel), List.mem_of_getElem? (i := 905) (by decide +kernel)⟩
theorem lw_p35 : lw_okq (⟨"EdgePictureModel", "layFit", "()V"⟩, 41) := ⟨⟨by decide +kernel, by decide +kernel⟩, List.mem_of_getElem? (i := 664) (by decide +kernel), List.mem_of_getElem? (i := 908) (by decide +kernel), List.mem_of_getElem? (i := 909) (by decide +kernel)⟩
theorem lw_p36 : lw_okq (⟨"EdgePictureModel", "layTable", "()V"⟩, 41) := ⟨⟨by decide +kernel, by decide +kernel⟩, List.mem_of_getElem? (i := 664) (by decide +kernel), List.mem_of_getElem? (i := 912) (by decide +kernel), List.mem_of_getElem? (i := 913) (by decide +kernel)⟩
theorem lw_p37 : lw_okq (⟨"EdgePictureModel", "marked", "(I)I"⟩, 41) := ⟨⟨by decide +kernel, by decide +kernel⟩, List.mem_of_getElem? (i := 664) (by decide +kernel), List.mem_of_getElem? (i := 916) (by decide +kernel), List.mem_of_getElem? (i := 917) (by decide +kernel)⟩
theorem lw_p38 : lw_okq (⟨"EdgePictureModel", "isFitting", "(III)Z"⟩, 41) := ⟨⟨by decide +kernel, by decide +kernel⟩, List.mem_of_getElem? (i := 664) (by decide +kernel), List.mem_of_getElem? (i := 920) (by decide +kernel), List.mem_of_getElem? (i := 921) (by decide +kernel)⟩
theorem lw_p39 : lw_okq (⟨"EdgePictureModel", "rowOf", "(II)I"⟩, 41) := ⟨⟨by decide +kernel, by decide +kernel⟩, List.mem_of_getElem? (i := 664) (by decide +kernel), List.mem_of_getElem? (i := 924) (by decide +kernel), List.mem_of_getElem? (i := 925) (by decide +kernel)⟩
theorem lw_p40 : lw_okq (⟨"EdgePictureModel", "columnOf", "(II)I"⟩, 41) := ⟨⟨by decide +kernel, by decide +kernel⟩, List.mem_of_getElem? (i := 664) (by decide +kernel), List.mem_of_getElem? (i := 928) (by decide +kernel), List.mem_of_getElem? (i := 929) (by decide +kernel)⟩
theorem lw_p41 : lw_okq (⟨"EdgePictureModel", "pictureOf", "(I)I"⟩, 41) := ⟨⟨by decide +kernel, by decide +kernel⟩, List.mem_of_getElem? (i := 664) (by decide +kernel), List.mem_of_getElem? (i := 936) (by decide +kernel), List.mem_of_getElem? (i := 937) (by decide +kernel)⟩
theorem lw_p42 : lw_okq (⟨"EdgePictureModel", "soManieth", "(I)I"⟩, 41) := ⟨⟨by decide +kernel, by decide +kernel⟩, List.mem_of_getElem? (i := 664) (by decide +kernel), List.mem_of_getElem? (i := 940) (by decide +kernel), List.mem_of_getElem? (i := 941) (by decide +kernel)⟩
theorem lw_p43 : lw_okq (⟨"EdgePictureModel", "nextFit", "(I)I"⟩, 41) := ⟨⟨by decide +kernel, by decide +kernel⟩, List.mem_of_getElem? (i := 664) (by decide +kernel), List.mem_of_getElem? (i := 944) (by decide +kernel), List.mem_of_getElem? (i := 945) (by decide +kernel)⟩
theorem lw_p44 : lw_okq (⟨"EdgePictureModel", "isFit", "(I)Z"⟩, 41) := ⟨⟨by decide +kernel, by decide +kernel⟩, List.mem_of_getElem? (i := 664) (by decide +kernel), List.mem_of_getElem? (i := 948) (by decide +kernel), List.mem_of_getElem? (i := 949) (by decide +kernel)⟩
theorem lw_p45 : lw_okq (⟨"EdgePictureModel", "isCell", "(I)Z"⟩, 41) := ⟨⟨by decide +kernel, by decide +kernel⟩, List.mem_of_getElem? (i := 664) (by decide +kernel), List.mem_of_getElem? (i := 956) (by decide +kernel), List.mem_of_getElem? (i := 957) (by decide +kernel)⟩
theorem lw_p46 : lw_okq (⟨"EdgePictureModel", "tellCell", "(II)I"⟩, 41) := ⟨⟨by decide +kernel, by decide +kernel⟩, List.mem_of_getElem? (i := 664) (by decide +kernel), List.mem_of_getElem? (i := 960) (by decide +kernel), List.mem_of_getElem? (i := 961) (by decide +kernel)⟩
theorem lw_p47 : lw_okq (⟨"EdgePictureModel", "blackOf", "(I)I"⟩, 41) := ⟨⟨by decide +kernel, by decide +kernel⟩, List.mem_of_getElem? (i := 664) (by decide +kernel), List.mem_of_getElem? (i := 964) (by decide +kernel), List.mem_of_getElem? (i := 965) (by decide +kernel)⟩
def lw_privs_3 : List (MethodName × Nat) := [(⟨"EdgePictureModel", "lacks", "()Z"⟩, 41), (⟨"EdgePictureModel", "leftOf", "()I"⟩, 41), (⟨"EdgePictureModel", "freshen", "()V"⟩, 41), (⟨"EdgePictureModel", "layFit", "()V"⟩, 41), (⟨"EdgePictureModel", "layTable", "()V"⟩, 41), (⟨"EdgePictureModel", "marked", "(I)I"⟩, 41), (⟨"EdgePictureModel", "isFitting", "(III)Z"⟩, 41), (⟨"EdgePictureModel", "rowOf", "(II)I"⟩, 41), (⟨"EdgePictureModel", "columnOf", "(II)I"⟩, 41), (⟨"EdgePictureModel", "pictureOf", "(I)I"⟩, 41), (⟨"EdgePictureModel", "soManieth", "(I)I"⟩, 41), (⟨"EdgePictureModel", "nextFit", "(I)I"⟩, 41), (⟨"EdgePictureModel", "isFit", "(I)Z"⟩, 41), (⟨"EdgePictureModel", "isCell", "(I)Z"⟩, 41), (⟨"EdgePictureModel", "tellCell", "(II)I"⟩, 41), (⟨"EdgePictureModel", "blackOf", "(I)I"⟩, 41)]
theorem lw_r3 : ∀ q ∈ lw_privs_3, lw_okq q := List.forall_mem_cons.mpr ⟨lw_p32, List.forall_mem_cons.mpr ⟨lw_p33, List.forall_mem_cons.mpr ⟨lw_p34, List.forall_mem_cons.mpr ⟨lw_p35, List.forall_mem_cons.mpr ⟨lw_p36, List.forall_mem_cons.mpr ⟨lw_p37, List.forall_mem_cons.mpr ⟨lw_p38, List.forall_mem_cons.mpr ⟨lw_p39, List.forall_mem_cons.mpr ⟨lw_p40, List.forall_mem_cons.mpr ⟨lw_p41, List.forall_mem_cons.mpr ⟨lw_p42, List.forall_mem_cons.mpr ⟨lw_p43, List.forall_mem_cons.mpr ⟨lw_p44, List.forall_mem_cons.mpr ⟨lw_p45, List.forall_mem_cons.mpr ⟨lw_p46, List.forall_mem_cons.mpr ⟨lw_p47, fun _ h => absurd h List.not_mem_nil⟩⟩⟩⟩⟩⟩⟩⟩⟩⟩⟩⟩⟩⟩⟩⟩
theorem lw_p48 : lw_okq (⟨"EdgePictureModel", "sureOf", "(I)I"⟩, 41) := ⟨⟨by decide +kernel, by decide +kernel⟩, List.mem_of_getElem? (i := 664) (by decide +kernel), List.mem_of_getElem? (i := 968) (by decide +kernel), List.mem_of_getElem? (i := 969) (by decide +kernel)⟩
theorem lw_p49 : lw_okq (⟨"EdgePictureModel", "tellLine", "(II)I"⟩, 41) := ⟨⟨by decide +kernel, by decide +kernel⟩, List.mem_of_getElem? (i := 664) (by decide +kernel), List.mem_of_getElem? (i := 976) (by decide +kernel), List.mem_of_getElem? (i := 977) (by decide +kernel)⟩
theorem lw_p50 : lw_okq (⟨"EdgePictureModel", "spareOf", "(I)I"⟩, 41) := ⟨⟨by decide +kernel, by decide +kernel⟩, List.mem_of_getElem? (i := 664) (by decide +kernel), List.mem_of_getElem? (i := 980) (by decide +kernel), List.mem_of_getElem? (i := 981) (by decide +kernel)⟩
theorem lw_p51 : lw_okq (⟨"EdgePictureModel", "sortsOf", "(I)I"⟩, 41) := ⟨⟨by decide +kernel, by decide +kernel⟩, List.mem_of_getElem? (i := 664) (by decide +kernel), List.mem_of_getElem? (i := 984) (by decide +kernel), List.mem_of_getElem? (i := 985) (by decide +kernel)⟩
theorem lw_p52 : lw_okq (⟨"EdgePictureModel", "keptBy", "(II)I"⟩, 41) := ⟨⟨by decide +kernel, by decide +kernel⟩, List.mem_of_getElem? (i := 664) (by decide +kernel), List.mem_of_getElem? (i := 988) (by decide +kernel), List.mem_of_getElem? (i := 989) (by decide +kernel)⟩
theorem lw_p53 : lw_okq (⟨"EdgePictureModel", "tryOf", "(I)I"⟩, 41) := ⟨⟨by decide +kernel, by decide +kernel⟩, List.mem_of_getElem? (i := 664) (by decide +kernel), List.mem_of_getElem? (i := 992) (by decide +kernel), List.mem_of_getElem? (i := 993) (by decide +kernel)⟩
theorem lw_p54 : lw_okq (⟨"EdgePictureModel", "markedMany", "()I"⟩, 41) := ⟨⟨by decide +kernel, by decide +kernel⟩, List.mem_of_getElem? (i := 664) (by decide +kernel), List.mem_of_getElem? (i := 1010) (by decide +kernel), List.mem_of_getElem? (i := 1011) (by decide +kernel)⟩
theorem lw_p55 : lw_okq (⟨"EdgePictureModel", "lookOf", "()I"⟩, 41) := ⟨⟨by decide +kernel, by decide +kernel⟩, List.mem_of_getElem? (i := 664) (by decide +kernel), List.mem_of_getElem? (i := 1022) (by decide +kernel), List.mem_of_getElem? (i := 1023) (by decide +kernel)⟩
theorem lw_p56 : lw_okq (⟨"EdgePictureModel", "bestCell", "([III)I"⟩, 41) := ⟨⟨by decide +kernel, by decide +kernel⟩, List.mem_of_getElem? (i := 664) (by decide +kernel), List.mem_of_getElem? (i := 1026) (by decide +kernel), List.mem_of_getElem? (i := 1027) (by decide +kernel)⟩
theorem lw_p57 : lw_okq (⟨"EdgePictureModel", "oddsOf", "(II)I"⟩, 41) := ⟨⟨by decide +kernel, by decide +kernel⟩, List.mem_of_getElem? (i := 664) (by decide +kernel), List.mem_of_getElem? (i := 1035) (by decide +kernel), List.mem_of_getElem? (i := 1036) (by decide +kernel)⟩
theorem lw_p58 : lw_okq (⟨"EdgePictureModel", "hintsOf", "(II)I"⟩, 41) := ⟨⟨by decide +kernel, by decide +kernel⟩, List.mem_of_getElem? (i := 664) (by decide +kernel), List.mem_of_getElem? (i := 1044) (by decide +kernel), List.mem_of_getElem? (i := 1045) (by decide +kernel)⟩
theorem lw_p59 : lw_okq (⟨"EdgePictureModel", "telling", "(III)I"⟩, 41) := ⟨⟨by decide +kernel, by decide +kernel⟩, List.mem_of_getElem? (i := 664) (by decide +kernel), List.mem_of_getElem? (i := 1048) (by decide +kernel), List.mem_of_getElem? (i := 1049) (by decide +kernel)⟩
theorem lw_p60 : lw_okq (⟨"EdgePictureModel", "isTelling", "(II)Z"⟩, 41) := ⟨⟨by decide +kernel, by decide +kernel⟩, List.mem_of_getElem? (i := 664) (by decide +kernel), List.mem_of_getElem? (i := 1052) (by decide +kernel), List.mem_of_getElem? (i := 1053) (by decide +kernel)⟩
theorem lw_p61 : lw_okq (⟨"EdgePictureModel", "oneOfAll", "()I"⟩, 41) := ⟨⟨by decide +kernel, by decide +kernel⟩, List.mem_of_getElem? (i := 664) (by decide +kernel), List.mem_of_getElem? (i := 1060) (by decide +kernel), List.mem_of_getElem? (i := 1061) (by decide +kernel)⟩
theorem lw_p62 : lw_okq (⟨"EdgePictureModel", "oneOf", "(I)I"⟩, 41) := ⟨⟨by decide +kernel, by decide +kernel⟩, List.mem_of_getElem? (i := 664) (by decide +kernel), List.mem_of_getElem? (i := 1064) (by decide +kernel), List.mem_of_getElem? (i := 1065) (by decide +kernel)⟩
theorem lw_p63 : lw_okq (⟨"EdgePictureModel", "isOneBy", "(IIII)Z"⟩, 41) := ⟨⟨by decide +kernel, by decide +kernel⟩, List.mem_of_getElem? (i := 664) (by decide +kernel), List.mem_of_getElem? (i := 1068) (by decide +kernel), List.mem_of_getElem? (i := 1069) (by decide +kernel)⟩
def lw_privs_4 : List (MethodName × Nat) := [(⟨"EdgePictureModel", "sureOf", "(I)I"⟩, 41), (⟨"EdgePictureModel", "tellLine", "(II)I"⟩, 41), (⟨"EdgePictureModel", "spareOf", "(I)I"⟩, 41), (⟨"EdgePictureModel", "sortsOf", "(I)I"⟩, 41), (⟨"EdgePictureModel", "keptBy", "(II)I"⟩, 41), (⟨"EdgePictureModel", "tryOf", "(I)I"⟩, 41), (⟨"EdgePictureModel", "markedMany", "()I"⟩, 41), (⟨"EdgePictureModel", "lookOf", "()I"⟩, 41), (⟨"EdgePictureModel", "bestCell", "([III)I"⟩, 41), (⟨"EdgePictureModel", "oddsOf", "(II)I"⟩, 41), (⟨"EdgePictureModel", "hintsOf", "(II)I"⟩, 41), (⟨"EdgePictureModel", "telling", "(III)I"⟩, 41), (⟨"EdgePictureModel", "isTelling", "(II)Z"⟩, 41), (⟨"EdgePictureModel", "oneOfAll", "()I"⟩, 41), (⟨"EdgePictureModel", "oneOf", "(I)I"⟩, 41), (⟨"EdgePictureModel", "isOneBy", "(IIII)Z"⟩, 41)]
theorem lw_r4 : ∀ q ∈ lw_privs_4, lw_okq q := List.forall_mem_cons.mpr ⟨lw_p48, List.forall_mem_cons.mpr ⟨lw_p49, List.forall_mem_cons.mpr ⟨lw_p50, List.forall_mem_cons.mpr ⟨lw_p51, List.forall_mem_cons.mpr ⟨lw_p52, List.forall_mem_cons.mpr ⟨lw_p53, List.forall_mem_cons.mpr ⟨lw_p54, List.forall_mem_cons.mpr ⟨lw_p55, List.forall_mem_cons.mpr ⟨lw_p56, List.forall_mem_cons.mpr ⟨lw_p57, List.forall_mem_cons.mpr ⟨lw_p58, List.forall_mem_cons.mpr ⟨lw_p59, List.forall_mem_cons.mpr ⟨lw_p60, List.forall_mem_cons.mpr ⟨lw_p61, List.forall_mem_cons.mpr ⟨lw_p62, List.forall_mem_cons.mpr ⟨lw_p63, fun _ h => absurd h List.not_mem_nil⟩⟩⟩⟩⟩⟩⟩⟩⟩⟩⟩⟩⟩⟩⟩⟩
theorem lw_p64 : lw_okq (⟨"EdgePictureModel", "gameOne", "()I"⟩, 41) := ⟨⟨by decide +kernel, by decide +kernel⟩, List.mem_of_getElem? (i := 664) (by decide +kernel), List.mem_of_getElem? (i := 1086) (by decide +kernel), List.mem_of_getElem? (i := 1087) (by decide +kernel)⟩
theorem lw_p65 : lw_okq (⟨"EdgePictureModel", "laySome", "()I"⟩, 41) := ⟨⟨by decide +kernel, by decide +kernel⟩, List.mem_of_getElem? (i := 664) (by decide +kernel), List.mem_of_getElem? (i := 1090) (by decide +kernel), List.mem_of_getElem? (i := 1091) (by decide +kernel)⟩
theorem lw_p66 : lw_okq (⟨"EdgePictureModel", "draw", "(I)I"⟩, 41) := ⟨⟨by decide +kernel, by decide +kernel⟩, List.mem_of_getElem? (i := 664) (by decide +kernel), List.mem_of_getElem? (i := 1094) (by decide +kernel), List.mem_of_getElem? (i := 1095) (by decide +kernel)⟩
theorem lw_p67 : lw_okq (⟨"EdgePictureModel", "countOf", "(I)I"⟩, 41) := ⟨⟨by decide +kernel, by decide +kernel⟩, List.mem_of_getElem? (i := 664) (by decide +kernel), List.mem_of_getElem? (i := 1114) (by decide +kernel), List.mem_of_getElem? (i := 1115) (by decide +kernel)⟩
theorem lw_p68 : lw_okq (⟨"EdgePictureModel", "sureMany", "()I"⟩, 41) := ⟨⟨by decide +kernel, by decide +kernel⟩, List.mem_of_getElem? (i := 664) (by decide +kernel), List.mem_of_getElem? (i := 1118) (by decide +kernel), List.mem_of_getElem? (i := 1119) (by decide +kernel)⟩
theorem lw_p69 : lw_okq (⟨"EdgePictureModel", "sayLine", "(I)V"⟩, 41) := ⟨⟨by decide +kernel, by decide +kernel⟩, List.mem_of_getElem? (i := 664) (by decide +kernel), List.mem_of_getElem? (i := 1127) (by decide +kernel), List.mem_of_getElem? (i := 1128) (by decide +kernel)⟩
theorem lw_p70 : lw_okq (⟨"EdgePictureModel", "say", "(J)V"⟩, 41) := ⟨⟨by decide +kernel, by decide +kernel⟩, List.mem_of_getElem? (i := 664) (by decide +kernel), List.mem_of_getElem? (i := 1131) (by decide +kernel), List.mem_of_getElem? (i := 1132) (by decide +kernel)⟩
def lw_privs_5 : List (MethodName × Nat) := [(⟨"EdgePictureModel", "gameOne", "()I"⟩, 41), (⟨"EdgePictureModel", "laySome", "()I"⟩, 41), (⟨"EdgePictureModel", "draw", "(I)I"⟩, 41), (⟨"EdgePictureModel", "countOf", "(I)I"⟩, 41), (⟨"EdgePictureModel", "sureMany", "()I"⟩, 41), (⟨"EdgePictureModel", "sayLine", "(I)V"⟩, 41), (⟨"EdgePictureModel", "say", "(J)V"⟩, 41)]
theorem lw_r5 : ∀ q ∈ lw_privs_5, lw_okq q := List.forall_mem_cons.mpr ⟨lw_p64, List.forall_mem_cons.mpr ⟨lw_p65, List.forall_mem_cons.mpr ⟨lw_p66, List.forall_mem_cons.mpr ⟨lw_p67, List.forall_mem_cons.mpr ⟨lw_p68, List.forall_mem_cons.mpr ⟨lw_p69, List.forall_mem_cons.mpr ⟨lw_p70, fun _ h => absurd h List.not_mem_nil⟩⟩⟩⟩⟩⟩⟩
def lw_privs : List (MethodName × Nat) := lw_privs_1 ++ (lw_privs_2 ++ (lw_privs_3 ++ (lw_privs_4 ++ (lw_privs_5))))
def lw_tbl : List Cond := k2_sels lw_privs ++ tables_1
theorem lw_privs_ok : ∀ q ∈ lw_privs, lw_okq q := by
  show ∀ q ∈ lw_privs_1 ++ (lw_privs_2 ++ (lw_privs_3 ++ (lw_privs_4 ++ (lw_privs_5)))), lw_okq q
  exact List.forall_mem_append.mpr ⟨lw_r1, List.forall_mem_append.mpr ⟨lw_r2, List.forall_mem_append.mpr ⟨lw_r3, List.forall_mem_append.mpr ⟨lw_r4, lw_r5⟩⟩⟩⟩
end
section
def RX0 : String := "EdgePicture$Fits"
def TX0 : u_T := fun k => match k with
  | 0 => ("EdgePicture$Fits", "pictures", "[I", true)
  | 1 => ("EdgePicture$Fits", "blacks", "[I", true)
  | _ => ("EdgePicture$Fits", "size", "I", false)
def tyX0 : Nat → FieldType := fun k => match k with
  | 0 => .array .int
  | 1 => .array .int
  | _ => .int
abbrev wsX00 : List Cond := u_ws RX0 TX0 3
theorem nmX0 : ∀ a, a < 3 → ∀ b, b < 3 → a ≠ b → (TX0 a).2.1 ≠ (TX0 b).2.1 := by decide +kernel
theorem tyX0_ok : ∀ k, k < 3 → parseFieldDescriptor (TX0 k).2.2.1 = some (tyX0 k) := by decide +kernel
abbrev cX0_init : ByteArray := prog_2_method_1_code
def yX0_init : MethodName := ⟨RX0, "<init>", "(I)V"⟩
abbrev cX0_empty : ByteArray := prog_2_method_2_code
def yX0_empty : MethodName := ⟨RX0, "empty", "()V"⟩
abbrev cX0_add : ByteArray := prog_2_method_3_code
def yX0_add : MethodName := ⟨RX0, "add", "(I)V"⟩
abbrev cX0_copyFrom : ByteArray := prog_2_method_4_code
def yX0_copyFrom : MethodName := ⟨RX0, "copyFrom", "(LEdgePicture$Fits;)V"⟩
abbrev cX0_at : ByteArray := prog_2_method_5_code
def yX0_at : MethodName := ⟨RX0, "at", "(I)I"⟩
abbrev cX0_blackIn : ByteArray := prog_2_method_6_code
def yX0_blackIn : MethodName := ⟨RX0, "blackIn", "(I)I"⟩
abbrev cX0_sure : ByteArray := prog_2_method_7_code
def yX0_sure : MethodName := ⟨RX0, "sure", "(I)I"⟩
abbrev cX0_holds : ByteArray := prog_2_method_8_code
def yX0_holds : MethodName := ⟨RX0, "holds", "(I)Z"⟩
abbrev cX0_bestLook : ByteArray := prog_2_method_9_code
def yX0_bestLook : MethodName := ⟨RX0, "bestLook", "(II)I"⟩
abbrev cX0_keepLike : ByteArray := prog_2_method_10_code
def yX0_keepLike : MethodName := ⟨RX0, "keepLike", "(II)V"⟩
abbrev cX0_tells : ByteArray := prog_2_method_11_code
def yX0_tells : MethodName := ⟨RX0, "tells", "(II)Z"⟩
def RX1 : String := "EdgePicture$Kinds"
def TX1 : u_T := fun k => match k with
  | _ => ("", "", "", false)
def tyX1 : Nat → FieldType := fun k => match k with
  | _ => .int
abbrev wsX10 : List Cond := u_ws RX1 TX1 0
theorem nmX1 : ∀ a, a < 0 → ∀ b, b < 0 → a ≠ b → (TX1 a).2.1 ≠ (TX1 b).2.1 := by decide +kernel
theorem tyX1_ok : ∀ k, k < 0 → parseFieldDescriptor (TX1 k).2.2.1 = some (tyX1 k) := by decide +kernel
abbrev cX1_isKind : ByteArray := prog_3_method_2_code
def yX1_isKind : MethodName := ⟨RX1, "isKind", "(I)Z"⟩
abbrev cX1_isSuch : ByteArray := prog_3_method_3_code
def yX1_isSuch : MethodName := ⟨RX1, "isSuch", "(II)Z"⟩
abbrev cX1_hasSecond : ByteArray := prog_3_method_4_code
def yX1_hasSecond : MethodName := ⟨RX1, "hasSecond", "(I)Z"⟩
abbrev cX1_mostSecond : ByteArray := prog_3_method_5_code
def yX1_mostSecond : MethodName := ⟨RX1, "mostSecond", "(II)I"⟩
abbrev cX1_allows : ByteArray := prog_3_method_6_code
def yX1_allows : MethodName := ⟨RX1, "allows", "(IIII)Z"⟩
abbrev cX1_anyCells : ByteArray := prog_3_method_7_code
def yX1_anyCells : MethodName := ⟨RX1, "anyCells", "(I)I"⟩
abbrev cX1_keeping : ByteArray := prog_3_method_8_code
def yX1_keeping : MethodName := ⟨RX1, "keeping", "(IIII)I"⟩
abbrev cX1_isKept : ByteArray := prog_3_method_9_code
def yX1_isKept : MethodName := ⟨RX1, "isKept", "(IIII)Z"⟩
def RX2 : String := "EdgePicture$Page"
def TX2 : u_T := fun k => match k with
  | 0 => ("EdgePicture$Page", "letters", "[C", true)
  | 1 => ("EdgePicture$Page", "size", "I", false)
  | _ => ("EdgePicture$Page", "place", "I", false)
def tyX2 : Nat → FieldType := fun k => match k with
  | 0 => .array .char
  | 1 => .int
  | _ => .int
abbrev wsX20 : List Cond := u_ws RX2 TX2 3
theorem nmX2 : ∀ a, a < 3 → ∀ b, b < 3 → a ≠ b → (TX2 a).2.1 ≠ (TX2 b).2.1 := by decide +kernel
theorem tyX2_ok : ∀ k, k < 3 → parseFieldDescriptor (TX2 k).2.2.1 = some (tyX2 k) := by decide +kernel
abbrev cX2_init : ByteArray := prog_4_method_1_code
def yX2_init : MethodName := ⟨RX2, "<init>", "()V"⟩
abbrev cX2_add : ByteArray := prog_4_method_2_code
def yX2_add : MethodName := ⟨RX2, "add", "(I)V"⟩
abbrev cX2_codeAt : ByteArray := prog_4_method_3_code
def yX2_codeAt : MethodName := ⟨RX2, "codeAt", "(I)I"⟩
abbrev cX2_readInto : ByteArray := prog_4_method_4_code
def yX2_readInto : MethodName := ⟨RX2, "readInto", "(LEdgePicture$Table;)Z"⟩
abbrev cX2_readClue : ByteArray := prog_4_method_5_code
def yX2_readClue : MethodName := ⟨RX2, "readClue", "(LEdgePicture$Table;I)Z"⟩
abbrev cX2_readNumber : ByteArray := prog_4_method_6_code
def yX2_readNumber : MethodName := ⟨RX2, "readNumber", "(II)I"⟩
abbrev cX2_readKind : ByteArray := prog_4_method_7_code
def yX2_readKind : MethodName := ⟨RX2, "readKind", "()I"⟩
abbrev cX2_readSign : ByteArray := prog_4_method_8_code
def yX2_readSign : MethodName := ⟨RX2, "readSign", "(C)Z"⟩
def RX3 : String := "EdgePicture$Search"
def TX3 : u_T := fun k => match k with
  | 0 => ("EdgePicture$Search", "high", "I", false)
  | 1 => ("EdgePicture$Search", "wide", "I", false)
  | 2 => ("EdgePicture$Search", "black", "I", false)
  | 3 => ("EdgePicture$Search", "white", "I", false)
  | 4 => ("EdgePicture$Search", "ways", "[I", true)
  | 5 => ("EdgePicture$Search", "open", "[I", true)
  | 6 => ("EdgePicture$Search", "limit", "I", false)
  | _ => ("EdgePicture$Search", "found", "I", false)
def tyX3 : Nat → FieldType := fun k => match k with
  | 0 => .int
  | 1 => .int
  | 2 => .int
  | 3 => .int
  | 4 => .array .int
  | 5 => .array .int
  | 6 => .int
  | _ => .int
abbrev wsX30 : List Cond := u_ws RX3 TX3 8
theorem nmX3 : ∀ a, a < 8 → ∀ b, b < 8 → a ≠ b → (TX3 a).2.1 ≠ (TX3 b).2.1 := by decide +kernel
theorem tyX3_ok : ∀ k, k < 8 → parseFieldDescriptor (TX3 k).2.2.1 = some (tyX3 k) := by decide +kernel
abbrev cX3_init : ByteArray := prog_5_method_1_code
def yX3_init : MethodName := ⟨RX3, "<init>", "()V"⟩
abbrev cX3_take : ByteArray := prog_5_method_2_code
def yX3_take : MethodName := ⟨RX3, "take", "(LEdgePicture$Table;)V"⟩
abbrev cX3_countWith : ByteArray := prog_5_method_3_code
def yX3_countWith : MethodName := ⟨RX3, "countWith", "(III)I"⟩
abbrev cX3_run : ByteArray := prog_5_method_4_code
def yX3_run : MethodName := ⟨RX3, "run", "(ILEdgePicture$Fits;)V"⟩
abbrev cX3_openColumn : ByteArray := prog_5_method_5_code
def yX3_openColumn : MethodName := ⟨RX3, "openColumn", "(II)V"⟩
abbrev cX3_lay : ByteArray := prog_5_method_6_code
def yX3_lay : MethodName := ⟨RX3, "lay", "(IIILEdgePicture$Fits;)V"⟩
abbrev cX3_spread : ByteArray := prog_5_method_7_code
def yX3_spread : MethodName := ⟨RX3, "spread", "(I)I"⟩
abbrev cX3_canGoOn : ByteArray := prog_5_method_8_code
def yX3_canGoOn : MethodName := ⟨RX3, "canGoOn", "(II)Z"⟩
def RX4 : String := "EdgePicture$Table"
def TX4 : u_T := fun k => match k with
  | 0 => ("EdgePicture$Table", "high", "I", false)
  | 1 => ("EdgePicture$Table", "wide", "I", false)
  | 2 => ("EdgePicture$Table", "kinds", "[I", true)
  | 3 => ("EdgePicture$Table", "firsts", "[I", true)
  | 4 => ("EdgePicture$Table", "seconds", "[I", true)
  | 5 => ("EdgePicture$Table", "black", "I", false)
  | 6 => ("EdgePicture$Table", "white", "I", false)
  | 7 => ("EdgePicture$Table", "seenLines", "[I", true)
  | 8 => ("EdgePicture$Table", "seenCells", "[I", true)
  | 9 => ("EdgePicture$Table", "seenKeeps", "[Z", true)
  | _ => ("EdgePicture$Table", "seen", "I", false)
def tyX4 : Nat → FieldType := fun k => match k with
  | 0 => .int
  | 1 => .int
  | 2 => .array .int
  | 3 => .array .int
  | 4 => .array .int
  | 5 => .int
  | 6 => .int
  | 7 => .array .int
  | 8 => .array .int
  | 9 => .array .boolean
  | _ => .int
abbrev wsX40 : List Cond := u_ws RX4 TX4 11
theorem nmX4 : ∀ a, a < 11 → ∀ b, b < 11 → a ≠ b → (TX4 a).2.1 ≠ (TX4 b).2.1 := by decide +kernel
theorem tyX4_ok : ∀ k, k < 11 → parseFieldDescriptor (TX4 k).2.2.1 = some (tyX4 k) := by decide +kernel
abbrev cX4_init : ByteArray := prog_6_method_1_code
def yX4_init : MethodName := ⟨RX4, "<init>", "()V"⟩
abbrev cX4_forgetAll : ByteArray := prog_6_method_2_code
def yX4_forgetAll : MethodName := ⟨RX4, "forgetAll", "()V"⟩
abbrev cX4_copyFrom : ByteArray := prog_6_method_3_code
def yX4_copyFrom : MethodName := ⟨RX4, "copyFrom", "(LEdgePicture$Table;)V"⟩
abbrev cX4_isBoard : ByteArray := prog_6_method_4_code
def yX4_isBoard : MethodName := ⟨RX4, "isBoard", "()Z"⟩
abbrev cX4_lines : ByteArray := prog_6_method_5_code
def yX4_lines : MethodName := ⟨RX4, "lines", "()I"⟩
abbrev cX4_cells : ByteArray := prog_6_method_6_code
def yX4_cells : MethodName := ⟨RX4, "cells", "()I"⟩
abbrev cX4_hasLine : ByteArray := prog_6_method_7_code
def yX4_hasLine : MethodName := ⟨RX4, "hasLine", "(I)Z"⟩
abbrev cX4_hasCell : ByteArray := prog_6_method_8_code
def yX4_hasCell : MethodName := ⟨RX4, "hasCell", "(I)Z"⟩
abbrev cX4_length : ByteArray := prog_6_method_9_code
def yX4_length : MethodName := ⟨RX4, "length", "(I)I"⟩
abbrev cX4_hasCellsOf : ByteArray := prog_6_method_10_code
def yX4_hasCellsOf : MethodName := ⟨RX4, "hasCellsOf", "(II)Z"⟩
abbrev cX4_setClue : ByteArray := prog_6_method_11_code
def yX4_setClue : MethodName := ⟨RX4, "setClue", "(IIII)V"⟩
abbrev cX4_marked : ByteArray := prog_6_method_12_code
def yX4_marked : MethodName := ⟨RX4, "marked", "()I"⟩
abbrev cX4_markedCells : ByteArray := prog_6_method_13_code
def yX4_markedCells : MethodName := ⟨RX4, "markedCells", "()I"⟩
abbrev cX4_howMarked : ByteArray := prog_6_method_14_code
def yX4_howMarked : MethodName := ⟨RX4, "howMarked", "(I)I"⟩
abbrev cX4_setMark : ByteArray := prog_6_method_15_code
def yX4_setMark : MethodName := ⟨RX4, "setMark", "(II)V"⟩
abbrev cX4_unmarkAll : ByteArray := prog_6_method_16_code
def yX4_unmarkAll : MethodName := ⟨RX4, "unmarkAll", "()V"⟩
abbrev cX4_addSeen : ByteArray := prog_6_method_17_code
def yX4_addSeen : MethodName := ⟨RX4, "addSeen", "(IIZ)V"⟩
abbrev cX4_sorts : ByteArray := prog_6_method_18_code
def yX4_sorts : MethodName := ⟨RX4, "sorts", "(I)I"⟩
abbrev cX4_canBeOf : ByteArray := prog_6_method_19_code
def yX4_canBeOf : MethodName := ⟨RX4, "canBeOf", "(II)Z"⟩
abbrev cX4_wouldKeep : ByteArray := prog_6_method_20_code
def yX4_wouldKeep : MethodName := ⟨RX4, "wouldKeep", "(III)Z"⟩
abbrev cX4_nextTry : ByteArray := prog_6_method_21_code
def yX4_nextTry : MethodName := ⟨RX4, "nextTry", "(I)I"⟩
abbrev cX4_worstOfTry : ByteArray := prog_6_method_22_code
def yX4_worstOfTry : MethodName := ⟨RX4, "worstOfTry", "(III)I"⟩
def RX5 : String := "EdgePicture"
def TX5 : u_T := fun k => match k with
  | 0 => ("EdgePicture", "page", "LEdgePicture$Page;", true)
  | 1 => ("EdgePicture", "now", "LEdgePicture$Table;", true)
  | 2 => ("EdgePicture", "kept", "LEdgePicture$Table;", true)
  | 3 => ("EdgePicture", "draft", "LEdgePicture$Table;", true)
  | 4 => ("EdgePicture", "search", "LEdgePicture$Search;", true)
  | 5 => ("EdgePicture", "fits", "LEdgePicture$Fits;", true)
  | 6 => ("EdgePicture", "game", "LEdgePicture$Fits;", true)
  | 7 => ("EdgePicture", "stale", "Z", false)
  | 8 => ("EdgePicture", "imageStands", "Z", false)
  | 9 => ("EdgePicture", "boardsRead", "I", false)
  | 10 => ("EdgePicture", "hintsDone", "I", false)
  | _ => ("EdgePicture", "onesDone", "I", false)
def tyX5 : Nat → FieldType := fun k => match k with
  | 0 => .object "EdgePicture$Page"
  | 1 => .object "EdgePicture$Table"
  | 2 => .object "EdgePicture$Table"
  | 3 => .object "EdgePicture$Table"
  | 4 => .object "EdgePicture$Search"
  | 5 => .object "EdgePicture$Fits"
  | 6 => .object "EdgePicture$Fits"
  | 7 => .boolean
  | 8 => .boolean
  | 9 => .int
  | 10 => .int
  | _ => .int
abbrev wsX50 : List Cond := u_ws RX5 TX5 12
theorem nmX5 : ∀ a, a < 12 → ∀ b, b < 12 → a ≠ b → (TX5 a).2.1 ≠ (TX5 b).2.1 := by decide +kernel
theorem tyX5_ok : ∀ k, k < 12 → parseFieldDescriptor (TX5 k).2.2.1 = some (tyX5 k) := by decide +kernel
abbrev cX5_init : ByteArray := prog_1_method_1_code
def yX5_init : MethodName := ⟨RX5, "<init>", "()V"⟩
abbrev cX5_letter : ByteArray := prog_1_method_2_code
def yX5_letter : MethodName := ⟨RX5, "letter", "(I)I"⟩
abbrev cX5_blank : ByteArray := prog_1_method_3_code
def yX5_blank : MethodName := ⟨RX5, "blank", "()I"⟩
abbrev cX5_fault : ByteArray := prog_1_method_4_code
def yX5_fault : MethodName := ⟨RX5, "fault", "()I"⟩
abbrev cX5_board : ByteArray := prog_1_method_5_code
def yX5_board : MethodName := ⟨RX5, "board", "()I"⟩
abbrev cX5_line : ByteArray := prog_1_method_6_code
def yX5_line : MethodName := ⟨RX5, "line", "(II)I"⟩
abbrev cX5_as : ByteArray := prog_1_method_7_code
def yX5_as : MethodName := ⟨RX5, "as", "(II)I"⟩
abbrev cX5_cell : ByteArray := prog_1_method_8_code
def yX5_cell : MethodName := ⟨RX5, "cell", "(II)I"⟩
abbrev cX5_keeps : ByteArray := prog_1_method_9_code
def yX5_keeps : MethodName := ⟨RX5, "keeps", "(II)I"⟩
abbrev cX5_mark : ByteArray := prog_1_method_10_code
def yX5_mark : MethodName := ⟨RX5, "mark", "(II)I"⟩
abbrev cX5_clear : ByteArray := prog_1_method_11_code
def yX5_clear : MethodName := ⟨RX5, "clear", "()I"⟩
abbrev cX5_clue : ByteArray := prog_1_method_12_code
def yX5_clue : MethodName := ⟨RX5, "clue", "(IIII)I"⟩
abbrev cX5_left : ByteArray := prog_1_method_13_code
def yX5_left : MethodName := ⟨RX5, "left", "()I"⟩
abbrev cX5_picture : ByteArray := prog_1_method_14_code
def yX5_picture : MethodName := ⟨RX5, "picture", "(I)I"⟩
abbrev cX5_look : ByteArray := prog_1_method_15_code
def yX5_look : MethodName := ⟨RX5, "look", "()I"⟩
abbrev cX5_odds : ByteArray := prog_1_method_16_code
def yX5_odds : MethodName := ⟨RX5, "odds", "(II)I"⟩
abbrev cX5_hints : ByteArray := prog_1_method_17_code
def yX5_hints : MethodName := ⟨RX5, "hints", "(II)I"⟩
abbrev cX5_one : ByteArray := prog_1_method_18_code
def yX5_one : MethodName := ⟨RX5, "one", "()I"⟩
abbrev cX5_see : ByteArray := prog_1_method_19_code
def yX5_see : MethodName := ⟨RX5, "see", "(IIZ)I"⟩
abbrev cX5_forget : ByteArray := prog_1_method_20_code
def yX5_forget : MethodName := ⟨RX5, "forget", "()I"⟩
abbrev cX5_games : ByteArray := prog_1_method_21_code
def yX5_games : MethodName := ⟨RX5, "games", "(III)I"⟩
abbrev cX5_image : ByteArray := prog_1_method_22_code
def yX5_image : MethodName := ⟨RX5, "image", "()I"⟩
abbrev cX5_restore : ByteArray := prog_1_method_23_code
def yX5_restore : MethodName := ⟨RX5, "restore", "()I"⟩
abbrev cX5_count : ByteArray := prog_1_method_24_code
def yX5_count : MethodName := ⟨RX5, "count", "(I)I"⟩
abbrev cX5_digest : ByteArray := prog_1_method_25_code
def yX5_digest : MethodName := ⟨RX5, "digest", "()J"⟩
abbrev cX5_settled : ByteArray := prog_1_method_26_code
def yX5_settled : MethodName := ⟨RX5, "settled", "()LEdgePicture$Fits;"⟩
abbrev cX5_isSpare : ByteArray := prog_1_method_27_code
def yX5_isSpare : MethodName := ⟨RX5, "isSpare", "(I)Z"⟩
abbrev cX5_sureCells : ByteArray := prog_1_method_28_code
def yX5_sureCells : MethodName := ⟨RX5, "sureCells", "()I"⟩
abbrev cX5_commonDivisor : ByteArray := prog_1_method_29_code
def yX5_commonDivisor : MethodName := ⟨RX5, "commonDivisor", "(II)I"⟩
abbrev cX5_fewestHints : ByteArray := prog_1_method_30_code
def yX5_fewestHints : MethodName := ⟨RX5, "fewestHints", "(I)I"⟩
abbrev cX5_growHints : ByteArray := prog_1_method_31_code
def yX5_growHints : MethodName := ⟨RX5, "growHints", "(IIII)I"⟩
abbrev cX5_cellAt : ByteArray := prog_1_method_32_code
def yX5_cellAt : MethodName := ⟨RX5, "cellAt", "(II)I"⟩
abbrev cX5_changeToOne : ByteArray := prog_1_method_33_code
def yX5_changeToOne : MethodName := ⟨RX5, "changeToOne", "(I)I"⟩
abbrev cX5_leavesOne : ByteArray := prog_1_method_34_code
def yX5_leavesOne : MethodName := ⟨RX5, "leavesOne", "(IIII)Z"⟩
abbrev cX5_nextSeed : ByteArray := prog_1_method_35_code
def yX5_nextSeed : MethodName := ⟨RX5, "nextSeed", "(J)J"⟩
abbrev cX5_playGame : ByteArray := prog_1_method_36_code
def yX5_playGame : MethodName := ⟨RX5, "playGame", "(I)I"⟩
def RX6 : String := "EdgePictureModel"
def TX6 : u_T := fun k => match k with
  | 0 => ("EdgePictureModel", "page", "[I", true)
  | 1 => ("EdgePictureModel", "pageMany", "I", false)
  | 2 => ("EdgePictureModel", "readLine", "I", false)
  | 3 => ("EdgePictureModel", "readPart", "I", false)
  | 4 => ("EdgePictureModel", "readKind", "I", false)
  | 5 => ("EdgePictureModel", "readFirst", "I", false)
  | 6 => ("EdgePictureModel", "readKinds", "[I", true)
  | 7 => ("EdgePictureModel", "readFirsts", "[I", true)
  | 8 => ("EdgePictureModel", "readSeconds", "[I", true)
  | 9 => ("EdgePictureModel", "high", "I", false)
  | 10 => ("EdgePictureModel", "wide", "I", false)
  | 11 => ("EdgePictureModel", "boardsRead", "I", false)
  | 12 => ("EdgePictureModel", "kinds", "[I", true)
  | 13 => ("EdgePictureModel", "firsts", "[I", true)
  | 14 => ("EdgePictureModel", "seconds", "[I", true)
  | 15 => ("EdgePictureModel", "marks", "[I", true)
  | 16 => ("EdgePictureModel", "runMany", "I", false)
  | 17 => ("EdgePictureModel", "runLongest", "I", false)
  | 18 => ("EdgePictureModel", "runFirst", "I", false)
  | 19 => ("EdgePictureModel", "runSecond", "I", false)
  | 20 => ("EdgePictureModel", "isStale", "Z", false)
  | 21 => ("EdgePictureModel", "fit", "[J", true)
  | 22 => ("EdgePictureModel", "fitMany", "I", false)
  | 23 => ("EdgePictureModel", "blacks", "[I", true)
  | 24 => ("EdgePictureModel", "table", "[I", true)
  | 25 => ("EdgePictureModel", "without", "I", false)
  | 26 => ("EdgePictureModel", "hintsDone", "I", false)
  | 27 => ("EdgePictureModel", "onesDone", "I", false)
  | 28 => ("EdgePictureModel", "seenMany", "I", false)
  | 29 => ("EdgePictureModel", "sights", "[I", true)
  | 30 => ("EdgePictureModel", "seedNow", "I", false)
  | 31 => ("EdgePictureModel", "some", "[I", true)
  | 32 => ("EdgePictureModel", "blackSome", "[I", true)
  | 33 => ("EdgePictureModel", "keptBoard", "I", false)
  | 34 => ("EdgePictureModel", "keptSeen", "I", false)
  | 35 => ("EdgePictureModel", "keptKinds", "[I", true)
  | 36 => ("EdgePictureModel", "keptFirsts", "[I", true)
  | 37 => ("EdgePictureModel", "keptSeconds", "[I", true)
  | 38 => ("EdgePictureModel", "keptMarks", "[I", true)
  | 39 => ("EdgePictureModel", "keptSights", "[I", true)
  | _ => ("EdgePictureModel", "hash", "J", false)
def tyX6 : Nat → FieldType := fun k => match k with
  | 0 => .array .int
  | 1 => .int
  | 2 => .int
  | 3 => .int
  | 4 => .int
  | 5 => .int
  | 6 => .array .int
  | 7 => .array .int
  | 8 => .array .int
  | 9 => .int
  | 10 => .int
  | 11 => .int
  | 12 => .array .int
  | 13 => .array .int
  | 14 => .array .int
  | 15 => .array .int
  | 16 => .int
  | 17 => .int
  | 18 => .int
  | 19 => .int
  | 20 => .boolean
  | 21 => .array .long
  | 22 => .int
  | 23 => .array .int
  | 24 => .array .int
  | 25 => .int
  | 26 => .int
  | 27 => .int
  | 28 => .int
  | 29 => .array .int
  | 30 => .int
  | 31 => .array .int
  | 32 => .array .int
  | 33 => .int
  | 34 => .int
  | 35 => .array .int
  | 36 => .array .int
  | 37 => .array .int
  | 38 => .array .int
  | 39 => .array .int
  | _ => .long
abbrev wsX60 : List Cond := u_ws RX6 TX6 41
theorem nmX6 : ∀ a, a < 41 → ∀ b, b < 41 → a ≠ b → (TX6 a).2.1 ≠ (TX6 b).2.1 := by decide +kernel
theorem tyX6_ok : ∀ k, k < 41 → parseFieldDescriptor (TX6 k).2.2.1 = some (tyX6 k) := by decide +kernel
abbrev cX6_init : ByteArray := prog_8_method_1_code
def yX6_init : MethodName := ⟨RX6, "<init>", "()V"⟩
abbrev cX6_in : ByteArray := prog_8_method_2_code
def yX6_in : MethodName := ⟨RX6, "in", "(JJJ)Z"⟩
abbrev cX6_copy : ByteArray := prog_8_method_3_code
def yX6_copy : MethodName := ⟨RX6, "copy", "([I[I)V"⟩
abbrev cX6_ones : ByteArray := prog_8_method_4_code
def yX6_ones : MethodName := ⟨RX6, "ones", "(I)I"⟩
abbrev cX6_letter : ByteArray := prog_8_method_5_code
def yX6_letter : MethodName := ⟨RX6, "letter", "(I)I"⟩
abbrev cX6_blank : ByteArray := prog_8_method_6_code
def yX6_blank : MethodName := ⟨RX6, "blank", "()I"⟩
abbrev cX6_kindBy : ByteArray := prog_8_method_7_code
def yX6_kindBy : MethodName := ⟨RX6, "kindBy", "(I)I"⟩
abbrev cX6_isDouble : ByteArray := prog_8_method_8_code
def yX6_isDouble : MethodName := ⟨RX6, "isDouble", "(I)Z"⟩
abbrev cX6_mostSecond : ByteArray := prog_8_method_9_code
def yX6_mostSecond : MethodName := ⟨RX6, "mostSecond", "(II)I"⟩
abbrev cX6_readHigh : ByteArray := prog_8_method_10_code
def yX6_readHigh : MethodName := ⟨RX6, "readHigh", "()I"⟩
abbrev cX6_readLines : ByteArray := prog_8_method_11_code
def yX6_readLines : MethodName := ⟨RX6, "readLines", "()I"⟩
abbrev cX6_readCells : ByteArray := prog_8_method_12_code
def yX6_readCells : MethodName := ⟨RX6, "readCells", "()I"⟩
abbrev cX6_isKindLetter : ByteArray := prog_8_method_13_code
def yX6_isKindLetter : MethodName := ⟨RX6, "isKindLetter", "(I)Z"⟩
abbrev cX6_isFirstLetter : ByteArray := prog_8_method_14_code
def yX6_isFirstLetter : MethodName := ⟨RX6, "isFirstLetter", "(I)Z"⟩
abbrev cX6_isSecondLetter : ByteArray := prog_8_method_15_code
def yX6_isSecondLetter : MethodName := ⟨RX6, "isSecondLetter", "(I)Z"⟩
abbrev cX6_isBehindLetter : ByteArray := prog_8_method_16_code
def yX6_isBehindLetter : MethodName := ⟨RX6, "isBehindLetter", "(I)Z"⟩
abbrev cX6_isGood : ByteArray := prog_8_method_17_code
def yX6_isGood : MethodName := ⟨RX6, "isGood", "(I)Z"⟩
abbrev cX6_faultOf : ByteArray := prog_8_method_18_code
def yX6_faultOf : MethodName := ⟨RX6, "faultOf", "()I"⟩
abbrev cX6_fault : ByteArray := prog_8_method_19_code
def yX6_fault : MethodName := ⟨RX6, "fault", "()I"⟩
abbrev cX6_board : ByteArray := prog_8_method_20_code
def yX6_board : MethodName := ⟨RX6, "board", "()I"⟩
abbrev cX6_lacks : ByteArray := prog_8_method_21_code
def yX6_lacks : MethodName := ⟨RX6, "lacks", "()Z"⟩
abbrev cX6_isLine : ByteArray := prog_8_method_22_code
def yX6_isLine : MethodName := ⟨RX6, "isLine", "(I)Z"⟩
abbrev cX6_isCell : ByteArray := prog_8_method_23_code
def yX6_isCell : MethodName := ⟨RX6, "isCell", "(I)Z"⟩
abbrev cX6_cellsOf : ByteArray := prog_8_method_24_code
def yX6_cellsOf : MethodName := ⟨RX6, "cellsOf", "(I)I"⟩
abbrev cX6_layRuns : ByteArray := prog_8_method_25_code
def yX6_layRuns : MethodName := ⟨RX6, "layRuns", "(I)V"⟩
abbrev cX6_isKept : ByteArray := prog_8_method_26_code
def yX6_isKept : MethodName := ⟨RX6, "isKept", "(IIII)Z"⟩
abbrev cX6_keepsOf : ByteArray := prog_8_method_27_code
def yX6_keepsOf : MethodName := ⟨RX6, "keepsOf", "(II)I"⟩
abbrev cX6_keeps : ByteArray := prog_8_method_28_code
def yX6_keeps : MethodName := ⟨RX6, "keeps", "(II)I"⟩
abbrev cX6_layTable : ByteArray := prog_8_method_29_code
def yX6_layTable : MethodName := ⟨RX6, "layTable", "()V"⟩
abbrev cX6_rowOf : ByteArray := prog_8_method_30_code
def yX6_rowOf : MethodName := ⟨RX6, "rowOf", "(II)I"⟩
abbrev cX6_columnOf : ByteArray := prog_8_method_31_code
def yX6_columnOf : MethodName := ⟨RX6, "columnOf", "(II)I"⟩
abbrev cX6_isFitting : ByteArray := prog_8_method_32_code
def yX6_isFitting : MethodName := ⟨RX6, "isFitting", "(III)Z"⟩
abbrev cX6_marked : ByteArray := prog_8_method_33_code
def yX6_marked : MethodName := ⟨RX6, "marked", "(I)I"⟩
abbrev cX6_layFit : ByteArray := prog_8_method_34_code
def yX6_layFit : MethodName := ⟨RX6, "layFit", "()V"⟩
abbrev cX6_freshen : ByteArray := prog_8_method_35_code
def yX6_freshen : MethodName := ⟨RX6, "freshen", "()V"⟩
abbrev cX6_isFit : ByteArray := prog_8_method_36_code
def yX6_isFit : MethodName := ⟨RX6, "isFit", "(I)Z"⟩
abbrev cX6_nextFit : ByteArray := prog_8_method_37_code
def yX6_nextFit : MethodName := ⟨RX6, "nextFit", "(I)I"⟩
abbrev cX6_soManieth : ByteArray := prog_8_method_38_code
def yX6_soManieth : MethodName := ⟨RX6, "soManieth", "(I)I"⟩
abbrev cX6_leftOf : ByteArray := prog_8_method_39_code
def yX6_leftOf : MethodName := ⟨RX6, "leftOf", "()I"⟩
abbrev cX6_left : ByteArray := prog_8_method_40_code
def yX6_left : MethodName := ⟨RX6, "left", "()I"⟩
abbrev cX6_pictureOf : ByteArray := prog_8_method_41_code
def yX6_pictureOf : MethodName := ⟨RX6, "pictureOf", "(I)I"⟩
abbrev cX6_picture : ByteArray := prog_8_method_42_code
def yX6_picture : MethodName := ⟨RX6, "picture", "(I)I"⟩
abbrev cX6_sureOf : ByteArray := prog_8_method_43_code
def yX6_sureOf : MethodName := ⟨RX6, "sureOf", "(I)I"⟩
abbrev cX6_blackOf : ByteArray := prog_8_method_44_code
def yX6_blackOf : MethodName := ⟨RX6, "blackOf", "(I)I"⟩
abbrev cX6_tellCell : ByteArray := prog_8_method_45_code
def yX6_tellCell : MethodName := ⟨RX6, "tellCell", "(II)I"⟩
abbrev cX6_cell : ByteArray := prog_8_method_46_code
def yX6_cell : MethodName := ⟨RX6, "cell", "(II)I"⟩
abbrev cX6_spareOf : ByteArray := prog_8_method_47_code
def yX6_spareOf : MethodName := ⟨RX6, "spareOf", "(I)I"⟩
abbrev cX6_tellLine : ByteArray := prog_8_method_48_code
def yX6_tellLine : MethodName := ⟨RX6, "tellLine", "(II)I"⟩
abbrev cX6_line : ByteArray := prog_8_method_49_code
def yX6_line : MethodName := ⟨RX6, "line", "(II)I"⟩
abbrev cX6_as : ByteArray := prog_8_method_50_code
def yX6_as : MethodName := ⟨RX6, "as", "(II)I"⟩
abbrev cX6_mark : ByteArray := prog_8_method_51_code
def yX6_mark : MethodName := ⟨RX6, "mark", "(II)I"⟩
abbrev cX6_markedMany : ByteArray := prog_8_method_52_code
def yX6_markedMany : MethodName := ⟨RX6, "markedMany", "()I"⟩
abbrev cX6_clear : ByteArray := prog_8_method_53_code
def yX6_clear : MethodName := ⟨RX6, "clear", "()I"⟩
abbrev cX6_clue : ByteArray := prog_8_method_54_code
def yX6_clue : MethodName := ⟨RX6, "clue", "(IIII)I"⟩
abbrev cX6_bestCell : ByteArray := prog_8_method_55_code
def yX6_bestCell : MethodName := ⟨RX6, "bestCell", "([III)I"⟩
abbrev cX6_lookOf : ByteArray := prog_8_method_56_code
def yX6_lookOf : MethodName := ⟨RX6, "lookOf", "()I"⟩
abbrev cX6_look : ByteArray := prog_8_method_57_code
def yX6_look : MethodName := ⟨RX6, "look", "()I"⟩
abbrev cX6_oddsOf : ByteArray := prog_8_method_58_code
def yX6_oddsOf : MethodName := ⟨RX6, "oddsOf", "(II)I"⟩
abbrev cX6_odds : ByteArray := prog_8_method_59_code
def yX6_odds : MethodName := ⟨RX6, "odds", "(II)I"⟩
abbrev cX6_isTelling : ByteArray := prog_8_method_60_code
def yX6_isTelling : MethodName := ⟨RX6, "isTelling", "(II)Z"⟩
abbrev cX6_telling : ByteArray := prog_8_method_61_code
def yX6_telling : MethodName := ⟨RX6, "telling", "(III)I"⟩
abbrev cX6_hintsOf : ByteArray := prog_8_method_62_code
def yX6_hintsOf : MethodName := ⟨RX6, "hintsOf", "(II)I"⟩
abbrev cX6_hints : ByteArray := prog_8_method_63_code
def yX6_hints : MethodName := ⟨RX6, "hints", "(II)I"⟩
abbrev cX6_isOneBy : ByteArray := prog_8_method_64_code
def yX6_isOneBy : MethodName := ⟨RX6, "isOneBy", "(IIII)Z"⟩
abbrev cX6_oneOf : ByteArray := prog_8_method_65_code
def yX6_oneOf : MethodName := ⟨RX6, "oneOf", "(I)I"⟩
abbrev cX6_oneOfAll : ByteArray := prog_8_method_66_code
def yX6_oneOfAll : MethodName := ⟨RX6, "oneOfAll", "()I"⟩
abbrev cX6_one : ByteArray := prog_8_method_67_code
def yX6_one : MethodName := ⟨RX6, "one", "()I"⟩
abbrev cX6_see : ByteArray := prog_8_method_68_code
def yX6_see : MethodName := ⟨RX6, "see", "(IIZ)I"⟩
abbrev cX6_forget : ByteArray := prog_8_method_69_code
def yX6_forget : MethodName := ⟨RX6, "forget", "()I"⟩
abbrev cX6_keptBy : ByteArray := prog_8_method_70_code
def yX6_keptBy : MethodName := ⟨RX6, "keptBy", "(II)I"⟩
abbrev cX6_sortsOf : ByteArray := prog_8_method_71_code
def yX6_sortsOf : MethodName := ⟨RX6, "sortsOf", "(I)I"⟩
abbrev cX6_tryOf : ByteArray := prog_8_method_72_code
def yX6_tryOf : MethodName := ⟨RX6, "tryOf", "(I)I"⟩
abbrev cX6_draw : ByteArray := prog_8_method_73_code
def yX6_draw : MethodName := ⟨RX6, "draw", "(I)I"⟩
abbrev cX6_laySome : ByteArray := prog_8_method_74_code
def yX6_laySome : MethodName := ⟨RX6, "laySome", "()I"⟩
abbrev cX6_gameOne : ByteArray := prog_8_method_75_code
def yX6_gameOne : MethodName := ⟨RX6, "gameOne", "()I"⟩
abbrev cX6_games : ByteArray := prog_8_method_76_code
def yX6_games : MethodName := ⟨RX6, "games", "(III)I"⟩
abbrev cX6_image : ByteArray := prog_8_method_77_code
def yX6_image : MethodName := ⟨RX6, "image", "()I"⟩
abbrev cX6_restore : ByteArray := prog_8_method_78_code
def yX6_restore : MethodName := ⟨RX6, "restore", "()I"⟩
abbrev cX6_sureMany : ByteArray := prog_8_method_79_code
def yX6_sureMany : MethodName := ⟨RX6, "sureMany", "()I"⟩
abbrev cX6_countOf : ByteArray := prog_8_method_80_code
def yX6_countOf : MethodName := ⟨RX6, "countOf", "(I)I"⟩
abbrev cX6_count : ByteArray := prog_8_method_81_code
def yX6_count : MethodName := ⟨RX6, "count", "(I)I"⟩
abbrev cX6_say : ByteArray := prog_8_method_82_code
def yX6_say : MethodName := ⟨RX6, "say", "(J)V"⟩
abbrev cX6_sayLine : ByteArray := prog_8_method_83_code
def yX6_sayLine : MethodName := ⟨RX6, "sayLine", "(I)V"⟩
abbrev cX6_digest : ByteArray := prog_8_method_84_code
def yX6_digest : MethodName := ⟨RX6, "digest", "()J"⟩
def RJ11 : String := "java/lang/Character"
def TJ11 : u_T := fun k => match k with
  | _ => ("", "", "", false)
def tyJ11 : Nat → FieldType := fun k => match k with
  | _ => .int
abbrev wsJ110 : List Cond := u_ws RJ11 TJ11 0
theorem nmJ11 : ∀ a, a < 0 → ∀ b, b < 0 → a ≠ b → (TJ11 a).2.1 ≠ (TJ11 b).2.1 := by decide +kernel
theorem tyJ11_ok : ∀ k, k < 0 → parseFieldDescriptor (TJ11 k).2.2.1 = some (tyJ11 k) := by decide +kernel
abbrev cJ11_isValidCodePoint_9a6ad : ByteArray := prog_9_method_11_code
def yJ11_isValidCodePoint_9a6ad : MethodName := ⟨RJ11, "isValidCodePoint", "(I)Z"⟩
abbrev cJ11_highSurrogate_5068e : ByteArray := prog_9_method_28_code
def yJ11_highSurrogate_5068e : MethodName := ⟨RJ11, "highSurrogate", "(I)C"⟩
abbrev cJ11_lowSurrogate_5068e : ByteArray := prog_9_method_29_code
def yJ11_lowSurrogate_5068e : MethodName := ⟨RJ11, "lowSurrogate", "(I)C"⟩
def RJ6 : String := "java/lang/Integer"
def TJ6 : u_T := fun k => match k with
  | _ => ("", "", "", false)
def tyJ6 : Nat → FieldType := fun k => match k with
  | _ => .int
abbrev wsJ60 : List Cond := u_ws RJ6 TJ6 0
theorem nmJ6 : ∀ a, a < 0 → ∀ b, b < 0 → a ≠ b → (TJ6 a).2.1 ≠ (TJ6 b).2.1 := by decide +kernel
theorem tyJ6_ok : ∀ k, k < 0 → parseFieldDescriptor (TJ6 k).2.2.1 = some (tyJ6 k) := by decide +kernel
abbrev cJ6_bitCount_0f7a4 : ByteArray := prog_10_method_49_code
def yJ6_bitCount_0f7a4 : MethodName := ⟨RJ6, "bitCount", "(I)I"⟩
def RJ9 : String := "java/lang/Math"
def TJ9 : u_T := fun k => match k with
  | _ => ("", "", "", false)
def tyJ9 : Nat → FieldType := fun k => match k with
  | _ => .int
abbrev wsJ90 : List Cond := u_ws RJ9 TJ9 0
theorem nmJ9 : ∀ a, a < 0 → ∀ b, b < 0 → a ≠ b → (TJ9 a).2.1 ≠ (TJ9 b).2.1 := by decide +kernel
theorem tyJ9_ok : ∀ k, k < 0 → parseFieldDescriptor (TJ9 k).2.2.1 = some (tyJ9 k) := by decide +kernel
abbrev cJ9_max_7cf53 : ByteArray := prog_11_method_65_code
def yJ9_max_7cf53 : MethodName := ⟨RJ9, "max", "(II)I"⟩
abbrev cJ9_min_7cf53 : ByteArray := prog_11_method_69_code
def yJ9_min_7cf53 : MethodName := ⟨RJ9, "min", "(II)I"⟩
def RJ0 : String := "java/lang/String"
def TJ0 : u_T := fun k => match k with
  | _ => ("", "", "", false)
def tyJ0 : Nat → FieldType := fun k => match k with
  | _ => .int
abbrev wsJ00 : List Cond := u_ws RJ0 TJ0 0
theorem nmJ0 : ∀ a, a < 0 → ∀ b, b < 0 → a ≠ b → (TJ0 a).2.1 ≠ (TJ0 b).2.1 := by decide +kernel
theorem tyJ0_ok : ∀ k, k < 0 → parseFieldDescriptor (TJ0 k).2.2.1 = some (tyJ0 k) := by decide +kernel
abbrev cJ0_length_8abf5 : ByteArray := prog_12_method_54_code
def yJ0_length_8abf5 : MethodName := ⟨RJ0, "length", "()I"⟩
abbrev cJ0_indexOf_0f7a4 : ByteArray := prog_12_method_79_code
def yJ0_indexOf_0f7a4 : MethodName := ⟨RJ0, "indexOf", "(I)I"⟩
abbrev cJ0_indexOf_7cf53 : ByteArray := prog_12_method_80_code
def yJ0_indexOf_7cf53 : MethodName := ⟨RJ0, "indexOf", "(II)I"⟩
abbrev cJ0_coder_7d493 : ByteArray := prog_12_method_152_code
def yJ0_coder_7d493 : MethodName := ⟨RJ0, "coder", "()B"⟩
abbrev cJ0_isLatin1_aae02 : ByteArray := prog_12_method_154_code
def yJ0_isLatin1_aae02 : MethodName := ⟨RJ0, "isLatin1", "()Z"⟩
abbrev cJ0_checkBoundsBeginEnd_23922 : ByteArray := prog_12_method_158_code
def yJ0_checkBoundsBeginEnd_23922 : MethodName := ⟨RJ0, "checkBoundsBeginEnd", "(III)V"⟩
def RJ1 : String := "java/lang/StringLatin1"
def TJ1 : u_T := fun k => match k with
  | _ => ("", "", "", false)
def tyJ1 : Nat → FieldType := fun k => match k with
  | _ => .int
abbrev wsJ10 : List Cond := u_ws RJ1 TJ1 0
theorem nmJ1 : ∀ a, a < 0 → ∀ b, b < 0 → a ≠ b → (TJ1 a).2.1 ≠ (TJ1 b).2.1 := by decide +kernel
theorem tyJ1_ok : ∀ k, k < 0 → parseFieldDescriptor (TJ1 k).2.2.1 = some (tyJ1 k) := by decide +kernel
abbrev cJ1_canEncode_9a6ad : ByteArray := prog_13_method_4_code
def yJ1_canEncode_9a6ad : MethodName := ⟨RJ1, "canEncode", "(I)Z"⟩
abbrev cJ1_indexOf_4cfef : ByteArray := prog_13_method_22_code
def yJ1_indexOf_4cfef : MethodName := ⟨RJ1, "indexOf", "([BIII)I"⟩
abbrev cJ1_indexOfChar_4cfef : ByteArray := prog_13_method_23_code
def yJ1_indexOfChar_4cfef : MethodName := ⟨RJ1, "indexOfChar", "([BIII)I"⟩
def RJ2 : String := "java/lang/StringUTF16"
def TJ2 : u_T := fun k => match k with
  | _ => ("", "", "", false)
def tyJ2 : Nat → FieldType := fun k => match k with
  | _ => .int
abbrev wsJ20 : List Cond := u_ws RJ2 TJ2 0
theorem nmJ2 : ∀ a, a < 0 → ∀ b, b < 0 → a ≠ b → (TJ2 a).2.1 ≠ (TJ2 b).2.1 := by decide +kernel
theorem tyJ2_ok : ∀ k, k < 0 → parseFieldDescriptor (TJ2 k).2.2.1 = some (tyJ2 k) := by decide +kernel
abbrev cJ2_getChar_3b067 : ByteArray := prog_14_method_5_code
def yJ2_getChar_3b067 : MethodName := ⟨RJ2, "getChar", "([BI)C"⟩
abbrev cJ2_length_9d52b : ByteArray := prog_14_method_6_code
def yJ2_length_9d52b : MethodName := ⟨RJ2, "length", "([B)I"⟩
abbrev cJ2_indexOf_4cfef : ByteArray := prog_14_method_40_code
def yJ2_indexOf_4cfef : MethodName := ⟨RJ2, "indexOf", "([BIII)I"⟩
abbrev cJ2_indexOfChar_4cfef : ByteArray := prog_14_method_47_code
def yJ2_indexOfChar_4cfef : MethodName := ⟨RJ2, "indexOfChar", "([BIII)I"⟩
abbrev cJ2_indexOfCharUnsafe_4cfef : ByteArray := prog_14_method_48_code
def yJ2_indexOfCharUnsafe_4cfef : MethodName := ⟨RJ2, "indexOfCharUnsafe", "([BIII)I"⟩
abbrev cJ2_indexOfSupplementary_4cfef : ByteArray := prog_14_method_49_code
def yJ2_indexOfSupplementary_4cfef : MethodName := ⟨RJ2, "indexOfSupplementary", "([BIII)I"⟩
abbrev cJ2_checkBoundsBeginEnd_d044e : ByteArray := prog_14_method_93_code
def yJ2_checkBoundsBeginEnd_d044e : MethodName := ⟨RJ2, "checkBoundsBeginEnd", "(II[B)V"⟩
def RJ3 : String := "jdk/internal/util/Preconditions"
def TJ3 : u_T := fun k => match k with
  | _ => ("", "", "", false)
def tyJ3 : Nat → FieldType := fun k => match k with
  | _ => .int
abbrev wsJ30 : List Cond := u_ws RJ3 TJ3 0
theorem nmJ3 : ∀ a, a < 0 → ∀ b, b < 0 → a ≠ b → (TJ3 a).2.1 ≠ (TJ3 b).2.1 := by decide +kernel
theorem tyJ3_ok : ∀ k, k < 0 → parseFieldDescriptor (TJ3 k).2.2.1 = some (tyJ3 k) := by decide +kernel
abbrev cJ3_checkFromToIndex_8c36e : ByteArray := prog_15_method_12_code
def yJ3_checkFromToIndex_8c36e : MethodName := ⟨RJ3, "checkFromToIndex", "(IIILjava/util/function/BiFunction;)I"⟩
def RL : String := "EdgePictureLaw"
abbrev cL_law : ByteArray := code
def yL_law : MethodName := ⟨RL, "law", "([I)Z"⟩
abbrev vwCl : List vw_C := [(RX0, TX0, 3), (RX2, TX2, 3), (RX3, TX3, 8), (RX4, TX4, 11), (RX5, TX5, 12), (RX6, TX6, 41)]
end
section
theorem dJ0_length_8abf5_0 : decode cJ0_length_8abf5 0 = .ok (.aload_n 0, 1) := by decide +kernel
theorem dJ0_length_8abf5_1 : decode cJ0_length_8abf5 1 = .ok (.getfield 9, 3) := by decide +kernel
theorem dJ0_length_8abf5_4 : decode cJ0_length_8abf5 4 = .ok (.arraylength, 1) := by decide +kernel
theorem dJ0_length_8abf5_5 : decode cJ0_length_8abf5 5 = .ok (.aload_n 0, 1) := by decide +kernel
theorem dJ0_length_8abf5_6 : decode cJ0_length_8abf5 6 = .ok (.invokevirtual 335, 3) := by decide +kernel
theorem dJ0_length_8abf5_9 : decode cJ0_length_8abf5 9 = .ok (.ishr, 1) := by decide +kernel
theorem dJ0_length_8abf5_10 : decode cJ0_length_8abf5 10 = .ok (.ireturn, 1) := by decide +kernel
theorem dJ0_indexOf_0f7a4_0 : decode cJ0_indexOf_0f7a4 0 = .ok (.aload_n 0, 1) := by decide +kernel
theorem dJ0_indexOf_0f7a4_1 : decode cJ0_indexOf_0f7a4 1 = .ok (.iload_n 1, 1) := by decide +kernel
theorem dJ0_indexOf_0f7a4_2 : decode cJ0_indexOf_0f7a4 2 = .ok (.iconst 0, 1) := by decide +kernel
theorem dJ0_indexOf_0f7a4_3 : decode cJ0_indexOf_0f7a4 3 = .ok (.invokevirtual 633, 3) := by decide +kernel
theorem dJ0_indexOf_0f7a4_6 : decode cJ0_indexOf_0f7a4 6 = .ok (.ireturn, 1) := by decide +kernel
theorem dJ0_indexOf_7cf53_0 : decode cJ0_indexOf_7cf53 0 = .ok (.aload_n 0, 1) := by decide +kernel
theorem dJ0_indexOf_7cf53_1 : decode cJ0_indexOf_7cf53 1 = .ok (.invokevirtual 492, 3) := by decide +kernel
theorem dJ0_indexOf_7cf53_4 : decode cJ0_indexOf_7cf53 4 = .ok (.ifCond .eq 19, 3) := by decide +kernel
theorem dJ0_indexOf_7cf53_7 : decode cJ0_indexOf_7cf53 7 = .ok (.aload_n 0, 1) := by decide +kernel
theorem dJ0_indexOf_7cf53_8 : decode cJ0_indexOf_7cf53 8 = .ok (.getfield 9, 3) := by decide +kernel
theorem dJ0_indexOf_7cf53_11 : decode cJ0_indexOf_7cf53 11 = .ok (.iload_n 1, 1) := by decide +kernel
theorem dJ0_indexOf_7cf53_12 : decode cJ0_indexOf_7cf53 12 = .ok (.iload_n 2, 1) := by decide +kernel
theorem dJ0_indexOf_7cf53_13 : decode cJ0_indexOf_7cf53 13 = .ok (.aload_n 0, 1) := by decide +kernel
theorem dJ0_indexOf_7cf53_14 : decode cJ0_indexOf_7cf53 14 = .ok (.invokevirtual 505, 3) := by decide +kernel
theorem dJ0_indexOf_7cf53_17 : decode cJ0_indexOf_7cf53 17 = .ok (.invokestatic 637, 3) := by decide +kernel
theorem dJ0_indexOf_7cf53_20 : decode cJ0_indexOf_7cf53 20 = .ok (.goto 16, 3) := by decide +kernel
theorem dJ0_indexOf_7cf53_23 : decode cJ0_indexOf_7cf53 23 = .ok (.aload_n 0, 1) := by decide +kernel
theorem dJ0_indexOf_7cf53_24 : decode cJ0_indexOf_7cf53 24 = .ok (.getfield 9, 3) := by decide +kernel
theorem dJ0_indexOf_7cf53_27 : decode cJ0_indexOf_7cf53 27 = .ok (.iload_n 1, 1) := by decide +kernel
theorem dJ0_indexOf_7cf53_28 : decode cJ0_indexOf_7cf53 28 = .ok (.iload_n 2, 1) := by decide +kernel
theorem dJ0_indexOf_7cf53_29 : decode cJ0_indexOf_7cf53 29 = .ok (.aload_n 0, 1) := by decide +kernel
theorem dJ0_indexOf_7cf53_30 : decode cJ0_indexOf_7cf53 30 = .ok (.invokevirtual 505, 3) := by decide +kernel
theorem dJ0_indexOf_7cf53_33 : decode cJ0_indexOf_7cf53 33 = .ok (.invokestatic 640, 3) := by decide +kernel
theorem dJ0_indexOf_7cf53_36 : decode cJ0_indexOf_7cf53 36 = .ok (.ireturn, 1) := by decide +kernel
theorem dJ0_coder_7d493_0 : decode cJ0_coder_7d493 0 = .ok (.getstatic 38, 3) := by decide +kernel
theorem dJ0_coder_7d493_3 : decode cJ0_coder_7d493 3 = .ok (.ifCond .eq 10, 3) := by decide +kernel
theorem dJ0_coder_7d493_6 : decode cJ0_coder_7d493 6 = .ok (.aload_n 0, 1) := by decide +kernel
theorem dJ0_coder_7d493_7 : decode cJ0_coder_7d493 7 = .ok (.getfield 15, 3) := by decide +kernel
theorem dJ0_coder_7d493_10 : decode cJ0_coder_7d493 10 = .ok (.goto 4, 3) := by decide +kernel
theorem dJ0_coder_7d493_13 : decode cJ0_coder_7d493 13 = .ok (.iconst 1, 1) := by decide +kernel
theorem dJ0_coder_7d493_14 : decode cJ0_coder_7d493 14 = .ok (.ireturn, 1) := by decide +kernel
theorem dJ0_isLatin1_aae02_0 : decode cJ0_isLatin1_aae02 0 = .ok (.getstatic 38, 3) := by decide +kernel
theorem dJ0_isLatin1_aae02_3 : decode cJ0_isLatin1_aae02 3 = .ok (.ifCond .eq 14, 3) := by decide +kernel
theorem dJ0_isLatin1_aae02_6 : decode cJ0_isLatin1_aae02 6 = .ok (.aload_n 0, 1) := by decide +kernel
theorem dJ0_isLatin1_aae02_7 : decode cJ0_isLatin1_aae02 7 = .ok (.getfield 15, 3) := by decide +kernel
theorem dJ0_isLatin1_aae02_10 : decode cJ0_isLatin1_aae02 10 = .ok (.ifCond .ne 7, 3) := by decide +kernel
theorem dJ0_isLatin1_aae02_13 : decode cJ0_isLatin1_aae02 13 = .ok (.iconst 1, 1) := by decide +kernel
theorem dJ0_isLatin1_aae02_14 : decode cJ0_isLatin1_aae02 14 = .ok (.goto 4, 3) := by decide +kernel
theorem dJ0_isLatin1_aae02_17 : decode cJ0_isLatin1_aae02 17 = .ok (.iconst 0, 1) := by decide +kernel
theorem dJ0_isLatin1_aae02_18 : decode cJ0_isLatin1_aae02 18 = .ok (.ireturn, 1) := by decide +kernel
theorem dJ0_checkBoundsBeginEnd_23922_0 : decode cJ0_checkBoundsBeginEnd_23922 0 = .ok (.iload_n 0, 1) := by decide +kernel
theorem dJ0_checkBoundsBeginEnd_23922_1 : decode cJ0_checkBoundsBeginEnd_23922 1 = .ok (.iload_n 1, 1) := by decide +kernel
theorem dJ0_checkBoundsBeginEnd_23922_2 : decode cJ0_checkBoundsBeginEnd_23922 2 = .ok (.iload_n 2, 1) := by decide +kernel
theorem dJ0_checkBoundsBeginEnd_23922_3 : decode cJ0_checkBoundsBeginEnd_23922 3 = .ok (.getstatic 1053, 3) := by decide +kernel
theorem dJ0_checkBoundsBeginEnd_23922_6 : decode cJ0_checkBoundsBeginEnd_23922 6 = .ok (.invokestatic 1062, 3) := by decide +kernel
theorem dJ0_checkBoundsBeginEnd_23922_9 : decode cJ0_checkBoundsBeginEnd_23922 9 = .ok (.pop, 1) := by decide +kernel
theorem dJ0_checkBoundsBeginEnd_23922_10 : decode cJ0_checkBoundsBeginEnd_23922 10 = .ok (.return_, 1) := by decide +kernel
theorem dJ1_canEncode_9a6ad_0 : decode cJ1_canEncode_9a6ad 0 = .ok (.iload_n 0, 1) := by decide +kernel
theorem dJ1_canEncode_9a6ad_1 : decode cJ1_canEncode_9a6ad 1 = .ok (.ifCond .lt 14, 3) := by decide +kernel
theorem dJ1_canEncode_9a6ad_4 : decode cJ1_canEncode_9a6ad 4 = .ok (.iload_n 0, 1) := by decide +kernel
theorem dJ1_canEncode_9a6ad_5 : decode cJ1_canEncode_9a6ad 5 = .ok (.sipush 255, 3) := by decide +kernel
theorem dJ1_canEncode_9a6ad_8 : decode cJ1_canEncode_9a6ad 8 = .ok (.if_icmp .gt 7, 3) := by decide +kernel
theorem dJ1_canEncode_9a6ad_11 : decode cJ1_canEncode_9a6ad 11 = .ok (.iconst 1, 1) := by decide +kernel
theorem dJ1_canEncode_9a6ad_12 : decode cJ1_canEncode_9a6ad 12 = .ok (.goto 4, 3) := by decide +kernel
theorem dJ1_canEncode_9a6ad_15 : decode cJ1_canEncode_9a6ad 15 = .ok (.iconst 0, 1) := by decide +kernel
theorem dJ1_canEncode_9a6ad_16 : decode cJ1_canEncode_9a6ad 16 = .ok (.ireturn, 1) := by decide +kernel
theorem dJ1_indexOf_4cfef_0 : decode cJ1_indexOf_4cfef 0 = .ok (.iload_n 1, 1) := by decide +kernel
theorem dJ1_indexOf_4cfef_1 : decode cJ1_indexOf_4cfef 1 = .ok (.invokestatic 88, 3) := by decide +kernel
theorem dJ1_indexOf_4cfef_4 : decode cJ1_indexOf_4cfef 4 = .ok (.ifCond .ne 5, 3) := by decide +kernel
theorem dJ1_indexOf_4cfef_7 : decode cJ1_indexOf_4cfef 7 = .ok (.iconst (-1), 1) := by decide +kernel
theorem dJ1_indexOf_4cfef_8 : decode cJ1_indexOf_4cfef 8 = .ok (.ireturn, 1) := by decide +kernel
theorem dJ1_indexOf_4cfef_9 : decode cJ1_indexOf_4cfef 9 = .ok (.iload_n 2, 1) := by decide +kernel
theorem dJ1_indexOf_4cfef_10 : decode cJ1_indexOf_4cfef 10 = .ok (.iconst 0, 1) := by decide +kernel
theorem dJ1_indexOf_4cfef_11 : decode cJ1_indexOf_4cfef 11 = .ok (.invokestatic 92, 3) := by decide +kernel
theorem dJ1_indexOf_4cfef_14 : decode cJ1_indexOf_4cfef 14 = .ok (.istore_n 2, 1) := by decide +kernel
theorem dJ1_indexOf_4cfef_15 : decode cJ1_indexOf_4cfef 15 = .ok (.iload_n 3, 1) := by decide +kernel
theorem dJ1_indexOf_4cfef_16 : decode cJ1_indexOf_4cfef 16 = .ok (.aload_n 0, 1) := by decide +kernel
theorem dJ1_indexOf_4cfef_17 : decode cJ1_indexOf_4cfef 17 = .ok (.arraylength, 1) := by decide +kernel
theorem dJ1_indexOf_4cfef_18 : decode cJ1_indexOf_4cfef 18 = .ok (.invokestatic 38, 3) := by decide +kernel
theorem dJ1_indexOf_4cfef_21 : decode cJ1_indexOf_4cfef 21 = .ok (.istore_n 3, 1) := by decide +kernel
theorem dJ1_indexOf_4cfef_22 : decode cJ1_indexOf_4cfef 22 = .ok (.iload_n 2, 1) := by decide +kernel
theorem dJ1_indexOf_4cfef_23 : decode cJ1_indexOf_4cfef 23 = .ok (.iload_n 3, 1) := by decide +kernel
theorem dJ1_indexOf_4cfef_24 : decode cJ1_indexOf_4cfef 24 = .ok (.if_icmp .lt 5, 3) := by decide +kernel
theorem dJ1_indexOf_4cfef_27 : decode cJ1_indexOf_4cfef 27 = .ok (.iconst (-1), 1) := by decide +kernel
theorem dJ1_indexOf_4cfef_28 : decode cJ1_indexOf_4cfef 28 = .ok (.ireturn, 1) := by decide +kernel
theorem dJ1_indexOf_4cfef_29 : decode cJ1_indexOf_4cfef 29 = .ok (.aload_n 0, 1) := by decide +kernel
theorem dJ1_indexOf_4cfef_30 : decode cJ1_indexOf_4cfef 30 = .ok (.iload_n 1, 1) := by decide +kernel
theorem dJ1_indexOf_4cfef_31 : decode cJ1_indexOf_4cfef 31 = .ok (.iload_n 2, 1) := by decide +kernel
theorem dJ1_indexOf_4cfef_32 : decode cJ1_indexOf_4cfef 32 = .ok (.iload_n 3, 1) := by decide +kernel
theorem dJ1_indexOf_4cfef_33 : decode cJ1_indexOf_4cfef 33 = .ok (.invokestatic 95, 3) := by decide +kernel
theorem dJ1_indexOf_4cfef_36 : decode cJ1_indexOf_4cfef 36 = .ok (.ireturn, 1) := by decide +kernel
theorem dJ1_indexOfChar_4cfef_0 : decode cJ1_indexOfChar_4cfef 0 = .ok (.iload_n 1, 1) := by decide +kernel
theorem dJ1_indexOfChar_4cfef_1 : decode cJ1_indexOfChar_4cfef 1 = .ok (.i2b, 1) := by decide +kernel
theorem dJ1_indexOfChar_4cfef_2 : decode cJ1_indexOfChar_4cfef 2 = .ok (.istore 4, 2) := by decide +kernel
theorem dJ1_indexOfChar_4cfef_4 : decode cJ1_indexOfChar_4cfef 4 = .ok (.iload_n 2, 1) := by decide +kernel
theorem dJ1_indexOfChar_4cfef_5 : decode cJ1_indexOfChar_4cfef 5 = .ok (.istore 5, 2) := by decide +kernel
theorem dJ1_indexOfChar_4cfef_7 : decode cJ1_indexOfChar_4cfef 7 = .ok (.iload 5, 2) := by decide +kernel
theorem dJ1_indexOfChar_4cfef_9 : decode cJ1_indexOfChar_4cfef 9 = .ok (.iload_n 3, 1) := by decide +kernel
theorem dJ1_indexOfChar_4cfef_10 : decode cJ1_indexOfChar_4cfef 10 = .ok (.if_icmp .ge 21, 3) := by decide +kernel
theorem dJ1_indexOfChar_4cfef_13 : decode cJ1_indexOfChar_4cfef 13 = .ok (.aload_n 0, 1) := by decide +kernel
theorem dJ1_indexOfChar_4cfef_14 : decode cJ1_indexOfChar_4cfef 14 = .ok (.iload 5, 2) := by decide +kernel
theorem dJ1_indexOfChar_4cfef_16 : decode cJ1_indexOfChar_4cfef 16 = .ok (.baload, 1) := by decide +kernel
theorem dJ1_indexOfChar_4cfef_17 : decode cJ1_indexOfChar_4cfef 17 = .ok (.iload 4, 2) := by decide +kernel
theorem dJ1_indexOfChar_4cfef_19 : decode cJ1_indexOfChar_4cfef 19 = .ok (.if_icmp .ne 6, 3) := by decide +kernel
theorem dJ1_indexOfChar_4cfef_22 : decode cJ1_indexOfChar_4cfef 22 = .ok (.iload 5, 2) := by decide +kernel
theorem dJ1_indexOfChar_4cfef_24 : decode cJ1_indexOfChar_4cfef 24 = .ok (.ireturn, 1) := by decide +kernel
theorem dJ1_indexOfChar_4cfef_25 : decode cJ1_indexOfChar_4cfef 25 = .ok (.iinc 5 1, 3) := by decide +kernel
theorem dJ1_indexOfChar_4cfef_28 : decode cJ1_indexOfChar_4cfef 28 = .ok (.goto (-21), 3) := by decide +kernel
theorem dJ1_indexOfChar_4cfef_31 : decode cJ1_indexOfChar_4cfef 31 = .ok (.iconst (-1), 1) := by decide +kernel
theorem dJ1_indexOfChar_4cfef_32 : decode cJ1_indexOfChar_4cfef 32 = .ok (.ireturn, 1) := by decide +kernel
theorem dJ11_isValidCodePoint_9a6ad_0 : decode cJ11_isValidCodePoint_9a6ad 0 = .ok (.iload_n 0, 1) := by decide +kernel
theorem dJ11_isValidCodePoint_9a6ad_1 : decode cJ11_isValidCodePoint_9a6ad 1 = .ok (.bipush 16, 2) := by decide +kernel
theorem dJ11_isValidCodePoint_9a6ad_3 : decode cJ11_isValidCodePoint_9a6ad 3 = .ok (.iushr, 1) := by decide +kernel
theorem dJ11_isValidCodePoint_9a6ad_4 : decode cJ11_isValidCodePoint_9a6ad 4 = .ok (.istore_n 1, 1) := by decide +kernel
theorem dJ11_isValidCodePoint_9a6ad_5 : decode cJ11_isValidCodePoint_9a6ad 5 = .ok (.iload_n 1, 1) := by decide +kernel
theorem dJ11_isValidCodePoint_9a6ad_6 : decode cJ11_isValidCodePoint_9a6ad 6 = .ok (.bipush 17, 2) := by decide +kernel
theorem dJ11_isValidCodePoint_9a6ad_8 : decode cJ11_isValidCodePoint_9a6ad 8 = .ok (.if_icmp .ge 7, 3) := by decide +kernel
theorem dJ11_isValidCodePoint_9a6ad_11 : decode cJ11_isValidCodePoint_9a6ad 11 = .ok (.iconst 1, 1) := by decide +kernel
theorem dJ11_isValidCodePoint_9a6ad_12 : decode cJ11_isValidCodePoint_9a6ad 12 = .ok (.goto 4, 3) := by decide +kernel
theorem dJ11_isValidCodePoint_9a6ad_15 : decode cJ11_isValidCodePoint_9a6ad 15 = .ok (.iconst 0, 1) := by decide +kernel
theorem dJ11_isValidCodePoint_9a6ad_16 : decode cJ11_isValidCodePoint_9a6ad 16 = .ok (.ireturn, 1) := by decide +kernel
theorem dJ11_highSurrogate_5068e_0 : decode cJ11_highSurrogate_5068e 0 = .ok (.iload_n 0, 1) := by decide +kernel
theorem dJ11_highSurrogate_5068e_1 : decode cJ11_highSurrogate_5068e 1 = .ok (.bipush 10, 2) := by decide +kernel
theorem dJ11_highSurrogate_5068e_3 : decode cJ11_highSurrogate_5068e 3 = .ok (.iushr, 1) := by decide +kernel
theorem dJ11_highSurrogate_5068e_4 : decode cJ11_highSurrogate_5068e 4 = .ok (.ldc 110, 2) := by decide +kernel
theorem dJ11_highSurrogate_5068e_6 : decode cJ11_highSurrogate_5068e 6 = .ok (.iadd, 1) := by decide +kernel
theorem dJ11_highSurrogate_5068e_7 : decode cJ11_highSurrogate_5068e 7 = .ok (.i2c, 1) := by decide +kernel
theorem dJ11_highSurrogate_5068e_8 : decode cJ11_highSurrogate_5068e 8 = .ok (.ireturn, 1) := by decide +kernel
theorem dJ11_lowSurrogate_5068e_0 : decode cJ11_lowSurrogate_5068e 0 = .ok (.iload_n 0, 1) := by decide +kernel
theorem dJ11_lowSurrogate_5068e_1 : decode cJ11_lowSurrogate_5068e 1 = .ok (.sipush 1023, 3) := by decide +kernel
theorem dJ11_lowSurrogate_5068e_4 : decode cJ11_lowSurrogate_5068e 4 = .ok (.iand, 1) := by decide +kernel
theorem dJ11_lowSurrogate_5068e_5 : decode cJ11_lowSurrogate_5068e 5 = .ok (.ldc 76, 2) := by decide +kernel
theorem dJ11_lowSurrogate_5068e_7 : decode cJ11_lowSurrogate_5068e 7 = .ok (.iadd, 1) := by decide +kernel
theorem dJ11_lowSurrogate_5068e_8 : decode cJ11_lowSurrogate_5068e 8 = .ok (.i2c, 1) := by decide +kernel
theorem dJ11_lowSurrogate_5068e_9 : decode cJ11_lowSurrogate_5068e 9 = .ok (.ireturn, 1) := by decide +kernel
theorem dJ2_getChar_3b067_0 : decode cJ2_getChar_3b067 0 = .ok (.getstatic 44, 3) := by decide +kernel
theorem dJ2_getChar_3b067_3 : decode cJ2_getChar_3b067 3 = .ok (.ifCond .ne 25, 3) := by decide +kernel
theorem dJ2_getChar_3b067_6 : decode cJ2_getChar_3b067 6 = .ok (.iload_n 1, 1) := by decide +kernel
theorem dJ2_getChar_3b067_7 : decode cJ2_getChar_3b067 7 = .ok (.ifCond .lt 11, 3) := by decide +kernel
theorem dJ2_getChar_3b067_10 : decode cJ2_getChar_3b067 10 = .ok (.iload_n 1, 1) := by decide +kernel
theorem dJ2_getChar_3b067_11 : decode cJ2_getChar_3b067 11 = .ok (.aload_n 0, 1) := by decide +kernel
theorem dJ2_getChar_3b067_12 : decode cJ2_getChar_3b067 12 = .ok (.invokestatic 48, 3) := by decide +kernel
theorem dJ2_getChar_3b067_15 : decode cJ2_getChar_3b067 15 = .ok (.if_icmp .lt 13, 3) := by decide +kernel
theorem dJ2_getChar_3b067_18 : decode cJ2_getChar_3b067 18 = .ok (.new 52, 3) := by decide +kernel
theorem dJ2_getChar_3b067_21 : decode cJ2_getChar_3b067 21 = .ok (.dup, 1) := by decide +kernel
theorem dJ2_getChar_3b067_22 : decode cJ2_getChar_3b067 22 = .ok (.ldc 54, 2) := by decide +kernel
theorem dJ2_getChar_3b067_24 : decode cJ2_getChar_3b067 24 = .ok (.invokespecial 56, 3) := by decide +kernel
theorem dJ2_getChar_3b067_27 : decode cJ2_getChar_3b067 27 = .ok (.athrow, 1) := by decide +kernel
theorem dJ2_getChar_3b067_28 : decode cJ2_getChar_3b067 28 = .ok (.iload_n 1, 1) := by decide +kernel
theorem dJ2_getChar_3b067_29 : decode cJ2_getChar_3b067 29 = .ok (.iconst 1, 1) := by decide +kernel
theorem dJ2_getChar_3b067_30 : decode cJ2_getChar_3b067 30 = .ok (.ishl, 1) := by decide +kernel
theorem dJ2_getChar_3b067_31 : decode cJ2_getChar_3b067 31 = .ok (.istore_n 1, 1) := by decide +kernel
theorem dJ2_getChar_3b067_32 : decode cJ2_getChar_3b067 32 = .ok (.aload_n 0, 1) := by decide +kernel
theorem dJ2_getChar_3b067_33 : decode cJ2_getChar_3b067 33 = .ok (.iload_n 1, 1) := by decide +kernel
theorem dJ2_getChar_3b067_34 : decode cJ2_getChar_3b067 34 = .ok (.iinc 1 1, 3) := by decide +kernel
theorem dJ2_getChar_3b067_37 : decode cJ2_getChar_3b067 37 = .ok (.baload, 1) := by decide +kernel
theorem dJ2_getChar_3b067_38 : decode cJ2_getChar_3b067 38 = .ok (.sipush 255, 3) := by decide +kernel
theorem dJ2_getChar_3b067_41 : decode cJ2_getChar_3b067 41 = .ok (.iand, 1) := by decide +kernel
theorem dJ2_getChar_3b067_42 : decode cJ2_getChar_3b067 42 = .ok (.getstatic 59, 3) := by decide +kernel
theorem dJ2_getChar_3b067_45 : decode cJ2_getChar_3b067 45 = .ok (.ishl, 1) := by decide +kernel
theorem dJ2_getChar_3b067_46 : decode cJ2_getChar_3b067 46 = .ok (.aload_n 0, 1) := by decide +kernel
theorem dJ2_getChar_3b067_47 : decode cJ2_getChar_3b067 47 = .ok (.iload_n 1, 1) := by decide +kernel
theorem dJ2_getChar_3b067_48 : decode cJ2_getChar_3b067 48 = .ok (.baload, 1) := by decide +kernel
theorem dJ2_getChar_3b067_49 : decode cJ2_getChar_3b067 49 = .ok (.sipush 255, 3) := by decide +kernel
theorem dJ2_getChar_3b067_52 : decode cJ2_getChar_3b067 52 = .ok (.iand, 1) := by decide +kernel
theorem dJ2_getChar_3b067_53 : decode cJ2_getChar_3b067 53 = .ok (.getstatic 63, 3) := by decide +kernel
theorem dJ2_getChar_3b067_56 : decode cJ2_getChar_3b067 56 = .ok (.ishl, 1) := by decide +kernel
theorem dJ2_getChar_3b067_57 : decode cJ2_getChar_3b067 57 = .ok (.ior, 1) := by decide +kernel
theorem dJ2_getChar_3b067_58 : decode cJ2_getChar_3b067 58 = .ok (.i2c, 1) := by decide +kernel
theorem dJ2_getChar_3b067_59 : decode cJ2_getChar_3b067 59 = .ok (.ireturn, 1) := by decide +kernel
theorem dJ2_length_9d52b_0 : decode cJ2_length_9d52b 0 = .ok (.aload_n 0, 1) := by decide +kernel
theorem dJ2_length_9d52b_1 : decode cJ2_length_9d52b 1 = .ok (.arraylength, 1) := by decide +kernel
theorem dJ2_length_9d52b_2 : decode cJ2_length_9d52b 2 = .ok (.iconst 1, 1) := by decide +kernel
theorem dJ2_length_9d52b_3 : decode cJ2_length_9d52b 3 = .ok (.ishr, 1) := by decide +kernel
theorem dJ2_length_9d52b_4 : decode cJ2_length_9d52b 4 = .ok (.ireturn, 1) := by decide +kernel
theorem dJ2_indexOf_4cfef_0 : decode cJ2_indexOf_4cfef 0 = .ok (.iload_n 2, 1) := by decide +kernel
theorem dJ2_indexOf_4cfef_1 : decode cJ2_indexOf_4cfef 1 = .ok (.iconst 0, 1) := by decide +kernel
theorem dJ2_indexOf_4cfef_2 : decode cJ2_indexOf_4cfef 2 = .ok (.invokestatic 224, 3) := by decide +kernel
theorem dJ2_indexOf_4cfef_5 : decode cJ2_indexOf_4cfef 5 = .ok (.istore_n 2, 1) := by decide +kernel
theorem dJ2_indexOf_4cfef_6 : decode cJ2_indexOf_4cfef 6 = .ok (.iload_n 3, 1) := by decide +kernel
theorem dJ2_indexOf_4cfef_7 : decode cJ2_indexOf_4cfef 7 = .ok (.aload_n 0, 1) := by decide +kernel
theorem dJ2_indexOf_4cfef_8 : decode cJ2_indexOf_4cfef 8 = .ok (.arraylength, 1) := by decide +kernel
theorem dJ2_indexOf_4cfef_9 : decode cJ2_indexOf_4cfef 9 = .ok (.iconst 1, 1) := by decide +kernel
theorem dJ2_indexOf_4cfef_10 : decode cJ2_indexOf_4cfef 10 = .ok (.ishr, 1) := by decide +kernel
theorem dJ2_indexOf_4cfef_11 : decode cJ2_indexOf_4cfef 11 = .ok (.invokestatic 183, 3) := by decide +kernel
theorem dJ2_indexOf_4cfef_14 : decode cJ2_indexOf_4cfef 14 = .ok (.istore_n 3, 1) := by decide +kernel
theorem dJ2_indexOf_4cfef_15 : decode cJ2_indexOf_4cfef 15 = .ok (.iload_n 2, 1) := by decide +kernel
theorem dJ2_indexOf_4cfef_16 : decode cJ2_indexOf_4cfef 16 = .ok (.iload_n 3, 1) := by decide +kernel
theorem dJ2_indexOf_4cfef_17 : decode cJ2_indexOf_4cfef 17 = .ok (.if_icmp .lt 5, 3) := by decide +kernel
theorem dJ2_indexOf_4cfef_20 : decode cJ2_indexOf_4cfef 20 = .ok (.iconst (-1), 1) := by decide +kernel
theorem dJ2_indexOf_4cfef_21 : decode cJ2_indexOf_4cfef 21 = .ok (.ireturn, 1) := by decide +kernel
theorem dJ2_indexOf_4cfef_22 : decode cJ2_indexOf_4cfef 22 = .ok (.iload_n 1, 1) := by decide +kernel
theorem dJ2_indexOf_4cfef_23 : decode cJ2_indexOf_4cfef 23 = .ok (.ldc 227, 2) := by decide +kernel
theorem dJ2_indexOf_4cfef_25 : decode cJ2_indexOf_4cfef 25 = .ok (.if_icmp .ge 11, 3) := by decide +kernel
theorem dJ2_indexOf_4cfef_28 : decode cJ2_indexOf_4cfef 28 = .ok (.aload_n 0, 1) := by decide +kernel
theorem dJ2_indexOf_4cfef_29 : decode cJ2_indexOf_4cfef 29 = .ok (.iload_n 1, 1) := by decide +kernel
theorem dJ2_indexOf_4cfef_30 : decode cJ2_indexOf_4cfef 30 = .ok (.iload_n 2, 1) := by decide +kernel
theorem dJ2_indexOf_4cfef_31 : decode cJ2_indexOf_4cfef 31 = .ok (.iload_n 3, 1) := by decide +kernel
theorem dJ2_indexOf_4cfef_32 : decode cJ2_indexOf_4cfef 32 = .ok (.invokestatic 228, 3) := by decide +kernel
theorem dJ2_indexOf_4cfef_35 : decode cJ2_indexOf_4cfef 35 = .ok (.ireturn, 1) := by decide +kernel
theorem dJ2_indexOf_4cfef_36 : decode cJ2_indexOf_4cfef 36 = .ok (.aload_n 0, 1) := by decide +kernel
theorem dJ2_indexOf_4cfef_37 : decode cJ2_indexOf_4cfef 37 = .ok (.iload_n 1, 1) := by decide +kernel
theorem dJ2_indexOf_4cfef_38 : decode cJ2_indexOf_4cfef 38 = .ok (.iload_n 2, 1) := by decide +kernel
theorem dJ2_indexOf_4cfef_39 : decode cJ2_indexOf_4cfef 39 = .ok (.iload_n 3, 1) := by decide +kernel
theorem dJ2_indexOf_4cfef_40 : decode cJ2_indexOf_4cfef 40 = .ok (.invokestatic 232, 3) := by decide +kernel
theorem dJ2_indexOf_4cfef_43 : decode cJ2_indexOf_4cfef 43 = .ok (.ireturn, 1) := by decide +kernel
theorem dJ2_indexOfChar_4cfef_0 : decode cJ2_indexOfChar_4cfef 0 = .ok (.iload_n 2, 1) := by decide +kernel
theorem dJ2_indexOfChar_4cfef_1 : decode cJ2_indexOfChar_4cfef 1 = .ok (.iload_n 3, 1) := by decide +kernel
theorem dJ2_indexOfChar_4cfef_2 : decode cJ2_indexOfChar_4cfef 2 = .ok (.aload_n 0, 1) := by decide +kernel
theorem dJ2_indexOfChar_4cfef_3 : decode cJ2_indexOfChar_4cfef 3 = .ok (.invokestatic 96, 3) := by decide +kernel
theorem dJ2_indexOfChar_4cfef_6 : decode cJ2_indexOfChar_4cfef 6 = .ok (.aload_n 0, 1) := by decide +kernel
theorem dJ2_indexOfChar_4cfef_7 : decode cJ2_indexOfChar_4cfef 7 = .ok (.iload_n 1, 1) := by decide +kernel
theorem dJ2_indexOfChar_4cfef_8 : decode cJ2_indexOfChar_4cfef 8 = .ok (.iload_n 2, 1) := by decide +kernel
theorem dJ2_indexOfChar_4cfef_9 : decode cJ2_indexOfChar_4cfef 9 = .ok (.iload_n 3, 1) := by decide +kernel
theorem dJ2_indexOfChar_4cfef_10 : decode cJ2_indexOfChar_4cfef 10 = .ok (.invokestatic 244, 3) := by decide +kernel
theorem dJ2_indexOfChar_4cfef_13 : decode cJ2_indexOfChar_4cfef 13 = .ok (.ireturn, 1) := by decide +kernel
theorem dJ2_indexOfCharUnsafe_4cfef_0 : decode cJ2_indexOfCharUnsafe_4cfef 0 = .ok (.iload_n 2, 1) := by decide +kernel
theorem dJ2_indexOfCharUnsafe_4cfef_1 : decode cJ2_indexOfCharUnsafe_4cfef 1 = .ok (.istore 4, 2) := by decide +kernel
theorem dJ2_indexOfCharUnsafe_4cfef_3 : decode cJ2_indexOfCharUnsafe_4cfef 3 = .ok (.iload 4, 2) := by decide +kernel
theorem dJ2_indexOfCharUnsafe_4cfef_5 : decode cJ2_indexOfCharUnsafe_4cfef 5 = .ok (.iload_n 3, 1) := by decide +kernel
theorem dJ2_indexOfCharUnsafe_4cfef_6 : decode cJ2_indexOfCharUnsafe_4cfef 6 = .ok (.if_icmp .ge 22, 3) := by decide +kernel
theorem dJ2_indexOfCharUnsafe_4cfef_9 : decode cJ2_indexOfCharUnsafe_4cfef 9 = .ok (.aload_n 0, 1) := by decide +kernel
theorem dJ2_indexOfCharUnsafe_4cfef_10 : decode cJ2_indexOfCharUnsafe_4cfef 10 = .ok (.iload 4, 2) := by decide +kernel
theorem dJ2_indexOfCharUnsafe_4cfef_12 : decode cJ2_indexOfCharUnsafe_4cfef 12 = .ok (.invokestatic 71, 3) := by decide +kernel
theorem dJ2_indexOfCharUnsafe_4cfef_15 : decode cJ2_indexOfCharUnsafe_4cfef 15 = .ok (.iload_n 1, 1) := by decide +kernel
theorem dJ2_indexOfCharUnsafe_4cfef_16 : decode cJ2_indexOfCharUnsafe_4cfef 16 = .ok (.if_icmp .ne 6, 3) := by decide +kernel
theorem dJ2_indexOfCharUnsafe_4cfef_19 : decode cJ2_indexOfCharUnsafe_4cfef 19 = .ok (.iload 4, 2) := by decide +kernel
theorem dJ2_indexOfCharUnsafe_4cfef_21 : decode cJ2_indexOfCharUnsafe_4cfef 21 = .ok (.ireturn, 1) := by decide +kernel
theorem dJ2_indexOfCharUnsafe_4cfef_22 : decode cJ2_indexOfCharUnsafe_4cfef 22 = .ok (.iinc 4 1, 3) := by decide +kernel
theorem dJ2_indexOfCharUnsafe_4cfef_25 : decode cJ2_indexOfCharUnsafe_4cfef 25 = .ok (.goto (-22), 3) := by decide +kernel
theorem dJ2_indexOfCharUnsafe_4cfef_28 : decode cJ2_indexOfCharUnsafe_4cfef 28 = .ok (.iconst (-1), 1) := by decide +kernel
theorem dJ2_indexOfCharUnsafe_4cfef_29 : decode cJ2_indexOfCharUnsafe_4cfef 29 = .ok (.ireturn, 1) := by decide +kernel
theorem dJ2_indexOfSupplementary_4cfef_0 : decode cJ2_indexOfSupplementary_4cfef 0 = .ok (.iload_n 1, 1) := by decide +kernel
theorem dJ2_indexOfSupplementary_4cfef_1 : decode cJ2_indexOfSupplementary_4cfef 1 = .ok (.invokestatic 164, 3) := by decide +kernel
theorem dJ2_indexOfSupplementary_4cfef_4 : decode cJ2_indexOfSupplementary_4cfef 4 = .ok (.ifCond .eq 65, 3) := by decide +kernel
theorem dJ2_indexOfSupplementary_4cfef_7 : decode cJ2_indexOfSupplementary_4cfef 7 = .ok (.iload_n 1, 1) := by decide +kernel
theorem dJ2_indexOfSupplementary_4cfef_8 : decode cJ2_indexOfSupplementary_4cfef 8 = .ok (.invokestatic 157, 3) := by decide +kernel
theorem dJ2_indexOfSupplementary_4cfef_11 : decode cJ2_indexOfSupplementary_4cfef 11 = .ok (.istore 4, 2) := by decide +kernel
theorem dJ2_indexOfSupplementary_4cfef_13 : decode cJ2_indexOfSupplementary_4cfef 13 = .ok (.iload_n 1, 1) := by decide +kernel
theorem dJ2_indexOfSupplementary_4cfef_14 : decode cJ2_indexOfSupplementary_4cfef 14 = .ok (.invokestatic 161, 3) := by decide +kernel
theorem dJ2_indexOfSupplementary_4cfef_17 : decode cJ2_indexOfSupplementary_4cfef 17 = .ok (.istore 5, 2) := by decide +kernel
theorem dJ2_indexOfSupplementary_4cfef_19 : decode cJ2_indexOfSupplementary_4cfef 19 = .ok (.iload_n 2, 1) := by decide +kernel
theorem dJ2_indexOfSupplementary_4cfef_20 : decode cJ2_indexOfSupplementary_4cfef 20 = .ok (.iload_n 3, 1) := by decide +kernel
theorem dJ2_indexOfSupplementary_4cfef_21 : decode cJ2_indexOfSupplementary_4cfef 21 = .ok (.aload_n 0, 1) := by decide +kernel
theorem dJ2_indexOfSupplementary_4cfef_22 : decode cJ2_indexOfSupplementary_4cfef 22 = .ok (.invokestatic 96, 3) := by decide +kernel
theorem dJ2_indexOfSupplementary_4cfef_25 : decode cJ2_indexOfSupplementary_4cfef 25 = .ok (.iload_n 2, 1) := by decide +kernel
theorem dJ2_indexOfSupplementary_4cfef_26 : decode cJ2_indexOfSupplementary_4cfef 26 = .ok (.istore 6, 2) := by decide +kernel
theorem dJ2_indexOfSupplementary_4cfef_28 : decode cJ2_indexOfSupplementary_4cfef 28 = .ok (.iload 6, 2) := by decide +kernel
theorem dJ2_indexOfSupplementary_4cfef_30 : decode cJ2_indexOfSupplementary_4cfef 30 = .ok (.iload_n 3, 1) := by decide +kernel
theorem dJ2_indexOfSupplementary_4cfef_31 : decode cJ2_indexOfSupplementary_4cfef 31 = .ok (.iconst 1, 1) := by decide +kernel
theorem dJ2_indexOfSupplementary_4cfef_32 : decode cJ2_indexOfSupplementary_4cfef 32 = .ok (.isub, 1) := by decide +kernel
theorem dJ2_indexOfSupplementary_4cfef_33 : decode cJ2_indexOfSupplementary_4cfef 33 = .ok (.if_icmp .ge 36, 3) := by decide +kernel
theorem dJ2_indexOfSupplementary_4cfef_36 : decode cJ2_indexOfSupplementary_4cfef 36 = .ok (.aload_n 0, 1) := by decide +kernel
theorem dJ2_indexOfSupplementary_4cfef_37 : decode cJ2_indexOfSupplementary_4cfef 37 = .ok (.iload 6, 2) := by decide +kernel
theorem dJ2_indexOfSupplementary_4cfef_39 : decode cJ2_indexOfSupplementary_4cfef 39 = .ok (.invokestatic 71, 3) := by decide +kernel
theorem dJ2_indexOfSupplementary_4cfef_42 : decode cJ2_indexOfSupplementary_4cfef 42 = .ok (.iload 4, 2) := by decide +kernel
theorem dJ2_indexOfSupplementary_4cfef_44 : decode cJ2_indexOfSupplementary_4cfef 44 = .ok (.if_icmp .ne 19, 3) := by decide +kernel
theorem dJ2_indexOfSupplementary_4cfef_47 : decode cJ2_indexOfSupplementary_4cfef 47 = .ok (.aload_n 0, 1) := by decide +kernel
theorem dJ2_indexOfSupplementary_4cfef_48 : decode cJ2_indexOfSupplementary_4cfef 48 = .ok (.iload 6, 2) := by decide +kernel
theorem dJ2_indexOfSupplementary_4cfef_50 : decode cJ2_indexOfSupplementary_4cfef 50 = .ok (.iconst 1, 1) := by decide +kernel
theorem dJ2_indexOfSupplementary_4cfef_51 : decode cJ2_indexOfSupplementary_4cfef 51 = .ok (.iadd, 1) := by decide +kernel
theorem dJ2_indexOfSupplementary_4cfef_52 : decode cJ2_indexOfSupplementary_4cfef 52 = .ok (.invokestatic 71, 3) := by decide +kernel
theorem dJ2_indexOfSupplementary_4cfef_55 : decode cJ2_indexOfSupplementary_4cfef 55 = .ok (.iload 5, 2) := by decide +kernel
theorem dJ2_indexOfSupplementary_4cfef_57 : decode cJ2_indexOfSupplementary_4cfef 57 = .ok (.if_icmp .ne 6, 3) := by decide +kernel
theorem dJ2_indexOfSupplementary_4cfef_60 : decode cJ2_indexOfSupplementary_4cfef 60 = .ok (.iload 6, 2) := by decide +kernel
theorem dJ2_indexOfSupplementary_4cfef_62 : decode cJ2_indexOfSupplementary_4cfef 62 = .ok (.ireturn, 1) := by decide +kernel
theorem dJ2_indexOfSupplementary_4cfef_63 : decode cJ2_indexOfSupplementary_4cfef 63 = .ok (.iinc 6 1, 3) := by decide +kernel
theorem dJ2_indexOfSupplementary_4cfef_66 : decode cJ2_indexOfSupplementary_4cfef 66 = .ok (.goto (-38), 3) := by decide +kernel
theorem dJ2_indexOfSupplementary_4cfef_69 : decode cJ2_indexOfSupplementary_4cfef 69 = .ok (.iconst (-1), 1) := by decide +kernel
theorem dJ2_indexOfSupplementary_4cfef_70 : decode cJ2_indexOfSupplementary_4cfef 70 = .ok (.ireturn, 1) := by decide +kernel
theorem dJ2_checkBoundsBeginEnd_d044e_0 : decode cJ2_checkBoundsBeginEnd_d044e 0 = .ok (.iload_n 0, 1) := by decide +kernel
theorem dJ2_checkBoundsBeginEnd_d044e_1 : decode cJ2_checkBoundsBeginEnd_d044e 1 = .ok (.iload_n 1, 1) := by decide +kernel
theorem dJ2_checkBoundsBeginEnd_d044e_2 : decode cJ2_checkBoundsBeginEnd_d044e 2 = .ok (.aload_n 2, 1) := by decide +kernel
theorem dJ2_checkBoundsBeginEnd_d044e_3 : decode cJ2_checkBoundsBeginEnd_d044e 3 = .ok (.invokestatic 48, 3) := by decide +kernel
theorem dJ2_checkBoundsBeginEnd_d044e_6 : decode cJ2_checkBoundsBeginEnd_d044e 6 = .ok (.invokestatic 241, 3) := by decide +kernel
theorem dJ2_checkBoundsBeginEnd_d044e_9 : decode cJ2_checkBoundsBeginEnd_d044e 9 = .ok (.return_, 1) := by decide +kernel
theorem dJ3_checkFromToIndex_8c36e_0 : decode cJ3_checkFromToIndex_8c36e 0 = .ok (.iload_n 0, 1) := by decide +kernel
theorem dJ3_checkFromToIndex_8c36e_1 : decode cJ3_checkFromToIndex_8c36e 1 = .ok (.ifCond .lt 13, 3) := by decide +kernel
theorem dJ3_checkFromToIndex_8c36e_4 : decode cJ3_checkFromToIndex_8c36e 4 = .ok (.iload_n 0, 1) := by decide +kernel
theorem dJ3_checkFromToIndex_8c36e_5 : decode cJ3_checkFromToIndex_8c36e 5 = .ok (.iload_n 1, 1) := by decide +kernel
theorem dJ3_checkFromToIndex_8c36e_6 : decode cJ3_checkFromToIndex_8c36e 6 = .ok (.if_icmp .gt 8, 3) := by decide +kernel
theorem dJ3_checkFromToIndex_8c36e_9 : decode cJ3_checkFromToIndex_8c36e 9 = .ok (.iload_n 1, 1) := by decide +kernel
theorem dJ3_checkFromToIndex_8c36e_10 : decode cJ3_checkFromToIndex_8c36e 10 = .ok (.iload_n 2, 1) := by decide +kernel
theorem dJ3_checkFromToIndex_8c36e_11 : decode cJ3_checkFromToIndex_8c36e 11 = .ok (.if_icmp .le 11, 3) := by decide +kernel
theorem dJ3_checkFromToIndex_8c36e_14 : decode cJ3_checkFromToIndex_8c36e 14 = .ok (.aload_n 3, 1) := by decide +kernel
theorem dJ3_checkFromToIndex_8c36e_15 : decode cJ3_checkFromToIndex_8c36e 15 = .ok (.iload_n 0, 1) := by decide +kernel
theorem dJ3_checkFromToIndex_8c36e_16 : decode cJ3_checkFromToIndex_8c36e 16 = .ok (.iload_n 1, 1) := by decide +kernel
theorem dJ3_checkFromToIndex_8c36e_17 : decode cJ3_checkFromToIndex_8c36e 17 = .ok (.iload_n 2, 1) := by decide +kernel
theorem dJ3_checkFromToIndex_8c36e_18 : decode cJ3_checkFromToIndex_8c36e 18 = .ok (.invokestatic 99, 3) := by decide +kernel
theorem dJ3_checkFromToIndex_8c36e_21 : decode cJ3_checkFromToIndex_8c36e 21 = .ok (.athrow, 1) := by decide +kernel
theorem dJ3_checkFromToIndex_8c36e_22 : decode cJ3_checkFromToIndex_8c36e 22 = .ok (.iload_n 0, 1) := by decide +kernel
theorem dJ3_checkFromToIndex_8c36e_23 : decode cJ3_checkFromToIndex_8c36e 23 = .ok (.ireturn, 1) := by decide +kernel
theorem dJ6_bitCount_0f7a4_0 : decode cJ6_bitCount_0f7a4 0 = .ok (.iload_n 0, 1) := by decide +kernel
theorem dJ6_bitCount_0f7a4_1 : decode cJ6_bitCount_0f7a4 1 = .ok (.iload_n 0, 1) := by decide +kernel
theorem dJ6_bitCount_0f7a4_2 : decode cJ6_bitCount_0f7a4 2 = .ok (.iconst 1, 1) := by decide +kernel
theorem dJ6_bitCount_0f7a4_3 : decode cJ6_bitCount_0f7a4 3 = .ok (.iushr, 1) := by decide +kernel
theorem dJ6_bitCount_0f7a4_4 : decode cJ6_bitCount_0f7a4 4 = .ok (.ldc_w 265, 3) := by decide +kernel
theorem dJ6_bitCount_0f7a4_7 : decode cJ6_bitCount_0f7a4 7 = .ok (.iand, 1) := by decide +kernel
theorem dJ6_bitCount_0f7a4_8 : decode cJ6_bitCount_0f7a4 8 = .ok (.isub, 1) := by decide +kernel
theorem dJ6_bitCount_0f7a4_9 : decode cJ6_bitCount_0f7a4 9 = .ok (.istore_n 0, 1) := by decide +kernel
theorem dJ6_bitCount_0f7a4_10 : decode cJ6_bitCount_0f7a4 10 = .ok (.iload_n 0, 1) := by decide +kernel
theorem dJ6_bitCount_0f7a4_11 : decode cJ6_bitCount_0f7a4 11 = .ok (.ldc_w 266, 3) := by decide +kernel
theorem dJ6_bitCount_0f7a4_14 : decode cJ6_bitCount_0f7a4 14 = .ok (.iand, 1) := by decide +kernel
theorem dJ6_bitCount_0f7a4_15 : decode cJ6_bitCount_0f7a4 15 = .ok (.iload_n 0, 1) := by decide +kernel
theorem dJ6_bitCount_0f7a4_16 : decode cJ6_bitCount_0f7a4 16 = .ok (.iconst 2, 1) := by decide +kernel
theorem dJ6_bitCount_0f7a4_17 : decode cJ6_bitCount_0f7a4 17 = .ok (.iushr, 1) := by decide +kernel
theorem dJ6_bitCount_0f7a4_18 : decode cJ6_bitCount_0f7a4 18 = .ok (.ldc_w 266, 3) := by decide +kernel
theorem dJ6_bitCount_0f7a4_21 : decode cJ6_bitCount_0f7a4 21 = .ok (.iand, 1) := by decide +kernel
theorem dJ6_bitCount_0f7a4_22 : decode cJ6_bitCount_0f7a4 22 = .ok (.iadd, 1) := by decide +kernel
theorem dJ6_bitCount_0f7a4_23 : decode cJ6_bitCount_0f7a4 23 = .ok (.istore_n 0, 1) := by decide +kernel
theorem dJ6_bitCount_0f7a4_24 : decode cJ6_bitCount_0f7a4 24 = .ok (.iload_n 0, 1) := by decide +kernel
theorem dJ6_bitCount_0f7a4_25 : decode cJ6_bitCount_0f7a4 25 = .ok (.iload_n 0, 1) := by decide +kernel
theorem dJ6_bitCount_0f7a4_26 : decode cJ6_bitCount_0f7a4 26 = .ok (.iconst 4, 1) := by decide +kernel
theorem dJ6_bitCount_0f7a4_27 : decode cJ6_bitCount_0f7a4 27 = .ok (.iushr, 1) := by decide +kernel
theorem dJ6_bitCount_0f7a4_28 : decode cJ6_bitCount_0f7a4 28 = .ok (.iadd, 1) := by decide +kernel
theorem dJ6_bitCount_0f7a4_29 : decode cJ6_bitCount_0f7a4 29 = .ok (.ldc_w 267, 3) := by decide +kernel
theorem dJ6_bitCount_0f7a4_32 : decode cJ6_bitCount_0f7a4 32 = .ok (.iand, 1) := by decide +kernel
theorem dJ6_bitCount_0f7a4_33 : decode cJ6_bitCount_0f7a4 33 = .ok (.istore_n 0, 1) := by decide +kernel
theorem dJ6_bitCount_0f7a4_34 : decode cJ6_bitCount_0f7a4 34 = .ok (.iload_n 0, 1) := by decide +kernel
theorem dJ6_bitCount_0f7a4_35 : decode cJ6_bitCount_0f7a4 35 = .ok (.iload_n 0, 1) := by decide +kernel
theorem dJ6_bitCount_0f7a4_36 : decode cJ6_bitCount_0f7a4 36 = .ok (.bipush 8, 2) := by decide +kernel
theorem dJ6_bitCount_0f7a4_38 : decode cJ6_bitCount_0f7a4 38 = .ok (.iushr, 1) := by decide +kernel
theorem dJ6_bitCount_0f7a4_39 : decode cJ6_bitCount_0f7a4 39 = .ok (.iadd, 1) := by decide +kernel
theorem dJ6_bitCount_0f7a4_40 : decode cJ6_bitCount_0f7a4 40 = .ok (.istore_n 0, 1) := by decide +kernel
theorem dJ6_bitCount_0f7a4_41 : decode cJ6_bitCount_0f7a4 41 = .ok (.iload_n 0, 1) := by decide +kernel
theorem dJ6_bitCount_0f7a4_42 : decode cJ6_bitCount_0f7a4 42 = .ok (.iload_n 0, 1) := by decide +kernel
theorem dJ6_bitCount_0f7a4_43 : decode cJ6_bitCount_0f7a4 43 = .ok (.bipush 16, 2) := by decide +kernel
theorem dJ6_bitCount_0f7a4_45 : decode cJ6_bitCount_0f7a4 45 = .ok (.iushr, 1) := by decide +kernel
theorem dJ6_bitCount_0f7a4_46 : decode cJ6_bitCount_0f7a4 46 = .ok (.iadd, 1) := by decide +kernel
theorem dJ6_bitCount_0f7a4_47 : decode cJ6_bitCount_0f7a4 47 = .ok (.istore_n 0, 1) := by decide +kernel
theorem dJ6_bitCount_0f7a4_48 : decode cJ6_bitCount_0f7a4 48 = .ok (.iload_n 0, 1) := by decide +kernel
theorem dJ6_bitCount_0f7a4_49 : decode cJ6_bitCount_0f7a4 49 = .ok (.bipush 63, 2) := by decide +kernel
theorem dJ6_bitCount_0f7a4_51 : decode cJ6_bitCount_0f7a4 51 = .ok (.iand, 1) := by decide +kernel
theorem dJ6_bitCount_0f7a4_52 : decode cJ6_bitCount_0f7a4 52 = .ok (.ireturn, 1) := by decide +kernel
theorem dJ9_max_7cf53_0 : decode cJ9_max_7cf53 0 = .ok (.iload_n 0, 1) := by decide +kernel
theorem dJ9_max_7cf53_1 : decode cJ9_max_7cf53 1 = .ok (.iload_n 1, 1) := by decide +kernel
theorem dJ9_max_7cf53_2 : decode cJ9_max_7cf53 2 = .ok (.if_icmp .lt 7, 3) := by decide +kernel
theorem dJ9_max_7cf53_5 : decode cJ9_max_7cf53 5 = .ok (.iload_n 0, 1) := by decide +kernel
theorem dJ9_max_7cf53_6 : decode cJ9_max_7cf53 6 = .ok (.goto 4, 3) := by decide +kernel
theorem dJ9_max_7cf53_9 : decode cJ9_max_7cf53 9 = .ok (.iload_n 1, 1) := by decide +kernel
theorem dJ9_max_7cf53_10 : decode cJ9_max_7cf53 10 = .ok (.ireturn, 1) := by decide +kernel
theorem dJ9_min_7cf53_0 : decode cJ9_min_7cf53 0 = .ok (.iload_n 0, 1) := by decide +kernel
theorem dJ9_min_7cf53_1 : decode cJ9_min_7cf53 1 = .ok (.iload_n 1, 1) := by decide +kernel
theorem dJ9_min_7cf53_2 : decode cJ9_min_7cf53 2 = .ok (.if_icmp .gt 7, 3) := by decide +kernel
theorem dJ9_min_7cf53_5 : decode cJ9_min_7cf53 5 = .ok (.iload_n 0, 1) := by decide +kernel
theorem dJ9_min_7cf53_6 : decode cJ9_min_7cf53 6 = .ok (.goto 4, 3) := by decide +kernel
theorem dJ9_min_7cf53_9 : decode cJ9_min_7cf53 9 = .ok (.iload_n 1, 1) := by decide +kernel
theorem dJ9_min_7cf53_10 : decode cJ9_min_7cf53 10 = .ok (.ireturn, 1) := by decide +kernel
theorem dX0_init_0 : decode cX0_init 0 = .ok (.aload_n 0, 1) := by decide +kernel
theorem dX0_init_1 : decode cX0_init 1 = .ok (.invokespecial 3, 3) := by decide +kernel
theorem dX0_init_4 : decode cX0_init 4 = .ok (.aload_n 0, 1) := by decide +kernel
theorem dX0_init_5 : decode cX0_init 5 = .ok (.bipush 16, 2) := by decide +kernel
theorem dX0_init_7 : decode cX0_init 7 = .ok (.newarray .int, 2) := by decide +kernel
theorem dX0_init_9 : decode cX0_init 9 = .ok (.putfield 9, 3) := by decide +kernel
theorem dX0_init_12 : decode cX0_init 12 = .ok (.aload_n 0, 1) := by decide +kernel
theorem dX0_init_13 : decode cX0_init 13 = .ok (.iconst 0, 1) := by decide +kernel
theorem dX0_init_14 : decode cX0_init 14 = .ok (.iload_n 1, 1) := by decide +kernel
theorem dX0_init_15 : decode cX0_init 15 = .ok (.invokestatic 15, 3) := by decide +kernel
theorem dX0_init_18 : decode cX0_init 18 = .ok (.newarray .int, 2) := by decide +kernel
theorem dX0_init_20 : decode cX0_init 20 = .ok (.putfield 21, 3) := by decide +kernel
theorem dX0_init_23 : decode cX0_init 23 = .ok (.return_, 1) := by decide +kernel
theorem dX0_empty_0 : decode cX0_empty 0 = .ok (.aload_n 0, 1) := by decide +kernel
theorem dX0_empty_1 : decode cX0_empty 1 = .ok (.iconst 0, 1) := by decide +kernel
theorem dX0_empty_2 : decode cX0_empty 2 = .ok (.putfield 24, 3) := by decide +kernel
theorem dX0_empty_5 : decode cX0_empty 5 = .ok (.iconst 0, 1) := by decide +kernel
theorem dX0_empty_6 : decode cX0_empty 6 = .ok (.istore_n 1, 1) := by decide +kernel
theorem dX0_empty_7 : decode cX0_empty 7 = .ok (.iload_n 1, 1) := by decide +kernel
theorem dX0_empty_8 : decode cX0_empty 8 = .ok (.bipush 16, 2) := by decide +kernel
theorem dX0_empty_10 : decode cX0_empty 10 = .ok (.if_icmp .ge 16, 3) := by decide +kernel
theorem dX0_empty_13 : decode cX0_empty 13 = .ok (.aload_n 0, 1) := by decide +kernel
theorem dX0_empty_14 : decode cX0_empty 14 = .ok (.getfield 9, 3) := by decide +kernel
theorem dX0_empty_17 : decode cX0_empty 17 = .ok (.iload_n 1, 1) := by decide +kernel
theorem dX0_empty_18 : decode cX0_empty 18 = .ok (.iconst 0, 1) := by decide +kernel
theorem dX0_empty_19 : decode cX0_empty 19 = .ok (.iastore, 1) := by decide +kernel
theorem dX0_empty_20 : decode cX0_empty 20 = .ok (.iinc 1 1, 3) := by decide +kernel
theorem dX0_empty_23 : decode cX0_empty 23 = .ok (.goto (-16), 3) := by decide +kernel
theorem dX0_empty_26 : decode cX0_empty 26 = .ok (.return_, 1) := by decide +kernel
theorem dX0_add_0 : decode cX0_add 0 = .ok (.aload_n 0, 1) := by decide +kernel
theorem dX0_add_1 : decode cX0_add 1 = .ok (.getfield 24, 3) := by decide +kernel
theorem dX0_add_4 : decode cX0_add 4 = .ok (.ifCond .lt 15, 3) := by decide +kernel
theorem dX0_add_7 : decode cX0_add 7 = .ok (.aload_n 0, 1) := by decide +kernel
theorem dX0_add_8 : decode cX0_add 8 = .ok (.getfield 24, 3) := by decide +kernel
theorem dX0_add_11 : decode cX0_add 11 = .ok (.aload_n 0, 1) := by decide +kernel
theorem dX0_add_12 : decode cX0_add 12 = .ok (.getfield 21, 3) := by decide +kernel
theorem dX0_add_15 : decode cX0_add 15 = .ok (.arraylength, 1) := by decide +kernel
theorem dX0_add_16 : decode cX0_add 16 = .ok (.if_icmp .lt 4, 3) := by decide +kernel
theorem dX0_add_19 : decode cX0_add 19 = .ok (.return_, 1) := by decide +kernel
theorem dX0_add_20 : decode cX0_add 20 = .ok (.aload_n 0, 1) := by decide +kernel
theorem dX0_add_21 : decode cX0_add 21 = .ok (.getfield 21, 3) := by decide +kernel
theorem dX0_add_24 : decode cX0_add 24 = .ok (.aload_n 0, 1) := by decide +kernel
theorem dX0_add_25 : decode cX0_add 25 = .ok (.getfield 24, 3) := by decide +kernel
theorem dX0_add_28 : decode cX0_add 28 = .ok (.iload_n 1, 1) := by decide +kernel
theorem dX0_add_29 : decode cX0_add 29 = .ok (.iastore, 1) := by decide +kernel
theorem dX0_add_30 : decode cX0_add 30 = .ok (.aload_n 0, 1) := by decide +kernel
theorem dX0_add_31 : decode cX0_add 31 = .ok (.dup, 1) := by decide +kernel
theorem dX0_add_32 : decode cX0_add 32 = .ok (.getfield 24, 3) := by decide +kernel
theorem dX0_add_35 : decode cX0_add 35 = .ok (.iconst 1, 1) := by decide +kernel
theorem dX0_add_36 : decode cX0_add 36 = .ok (.iadd, 1) := by decide +kernel
theorem dX0_add_37 : decode cX0_add 37 = .ok (.putfield 24, 3) := by decide +kernel
theorem dX0_add_40 : decode cX0_add 40 = .ok (.iconst 0, 1) := by decide +kernel
theorem dX0_add_41 : decode cX0_add 41 = .ok (.istore_n 2, 1) := by decide +kernel
theorem dX0_add_42 : decode cX0_add 42 = .ok (.iload_n 2, 1) := by decide +kernel
theorem dX0_add_43 : decode cX0_add 43 = .ok (.bipush 16, 2) := by decide +kernel
theorem dX0_add_45 : decode cX0_add 45 = .ok (.if_icmp .ge 23, 3) := by decide +kernel
theorem dX0_add_48 : decode cX0_add 48 = .ok (.aload_n 0, 1) := by decide +kernel
theorem dX0_add_49 : decode cX0_add 49 = .ok (.getfield 9, 3) := by decide +kernel
theorem dX0_add_52 : decode cX0_add 52 = .ok (.iload_n 2, 1) := by decide +kernel
theorem dX0_add_53 : decode cX0_add 53 = .ok (.dup2, 1) := by decide +kernel
theorem dX0_add_54 : decode cX0_add 54 = .ok (.iaload, 1) := by decide +kernel
theorem dX0_add_55 : decode cX0_add 55 = .ok (.iload_n 1, 1) := by decide +kernel
theorem dX0_add_56 : decode cX0_add 56 = .ok (.iload_n 2, 1) := by decide +kernel
theorem dX0_add_57 : decode cX0_add 57 = .ok (.ishr, 1) := by decide +kernel
theorem dX0_add_58 : decode cX0_add 58 = .ok (.iconst 1, 1) := by decide +kernel
theorem dX0_add_59 : decode cX0_add 59 = .ok (.iand, 1) := by decide +kernel
theorem dX0_add_60 : decode cX0_add 60 = .ok (.iadd, 1) := by decide +kernel
theorem dX0_add_61 : decode cX0_add 61 = .ok (.iastore, 1) := by decide +kernel
theorem dX0_add_62 : decode cX0_add 62 = .ok (.iinc 2 1, 3) := by decide +kernel
theorem dX0_add_65 : decode cX0_add 65 = .ok (.goto (-23), 3) := by decide +kernel
theorem dX0_add_68 : decode cX0_add 68 = .ok (.return_, 1) := by decide +kernel
theorem dX0_copyFrom_0 : decode cX0_copyFrom 0 = .ok (.aload_n 0, 1) := by decide +kernel
theorem dX0_copyFrom_1 : decode cX0_copyFrom 1 = .ok (.invokevirtual 28, 3) := by decide +kernel
theorem dX0_copyFrom_4 : decode cX0_copyFrom 4 = .ok (.iconst 0, 1) := by decide +kernel
theorem dX0_copyFrom_5 : decode cX0_copyFrom 5 = .ok (.istore_n 2, 1) := by decide +kernel
theorem dX0_copyFrom_6 : decode cX0_copyFrom 6 = .ok (.iload_n 2, 1) := by decide +kernel
theorem dX0_copyFrom_7 : decode cX0_copyFrom 7 = .ok (.aload_n 1, 1) := by decide +kernel
theorem dX0_copyFrom_8 : decode cX0_copyFrom 8 = .ok (.getfield 24, 3) := by decide +kernel
theorem dX0_copyFrom_11 : decode cX0_copyFrom 11 = .ok (.if_icmp .ge 18, 3) := by decide +kernel
theorem dX0_copyFrom_14 : decode cX0_copyFrom 14 = .ok (.aload_n 0, 1) := by decide +kernel
theorem dX0_copyFrom_15 : decode cX0_copyFrom 15 = .ok (.aload_n 1, 1) := by decide +kernel
theorem dX0_copyFrom_16 : decode cX0_copyFrom 16 = .ok (.iload_n 2, 1) := by decide +kernel
theorem dX0_copyFrom_17 : decode cX0_copyFrom 17 = .ok (.invokevirtual 31, 3) := by decide +kernel
theorem dX0_copyFrom_20 : decode cX0_copyFrom 20 = .ok (.invokevirtual 35, 3) := by decide +kernel
theorem dX0_copyFrom_23 : decode cX0_copyFrom 23 = .ok (.iinc 2 1, 3) := by decide +kernel
theorem dX0_copyFrom_26 : decode cX0_copyFrom 26 = .ok (.goto (-20), 3) := by decide +kernel
theorem dX0_copyFrom_29 : decode cX0_copyFrom 29 = .ok (.return_, 1) := by decide +kernel
theorem dX0_at_0 : decode cX0_at 0 = .ok (.iload_n 1, 1) := by decide +kernel
theorem dX0_at_1 : decode cX0_at 1 = .ok (.ifCond .lt 20, 3) := by decide +kernel
theorem dX0_at_4 : decode cX0_at 4 = .ok (.iload_n 1, 1) := by decide +kernel
theorem dX0_at_5 : decode cX0_at 5 = .ok (.aload_n 0, 1) := by decide +kernel
theorem dX0_at_6 : decode cX0_at 6 = .ok (.getfield 24, 3) := by decide +kernel
theorem dX0_at_9 : decode cX0_at 9 = .ok (.if_icmp .ge 12, 3) := by decide +kernel
theorem dX0_at_12 : decode cX0_at 12 = .ok (.iload_n 1, 1) := by decide +kernel
theorem dX0_at_13 : decode cX0_at 13 = .ok (.aload_n 0, 1) := by decide +kernel
theorem dX0_at_14 : decode cX0_at 14 = .ok (.getfield 21, 3) := by decide +kernel
theorem dX0_at_17 : decode cX0_at 17 = .ok (.arraylength, 1) := by decide +kernel
theorem dX0_at_18 : decode cX0_at 18 = .ok (.if_icmp .lt 5, 3) := by decide +kernel
theorem dX0_at_21 : decode cX0_at 21 = .ok (.iconst (-1), 1) := by decide +kernel
theorem dX0_at_22 : decode cX0_at 22 = .ok (.ireturn, 1) := by decide +kernel
theorem dX0_at_23 : decode cX0_at 23 = .ok (.aload_n 0, 1) := by decide +kernel
theorem dX0_at_24 : decode cX0_at 24 = .ok (.getfield 21, 3) := by decide +kernel
theorem dX0_at_27 : decode cX0_at 27 = .ok (.iload_n 1, 1) := by decide +kernel
theorem dX0_at_28 : decode cX0_at 28 = .ok (.iaload, 1) := by decide +kernel
theorem dX0_at_29 : decode cX0_at 29 = .ok (.ireturn, 1) := by decide +kernel
theorem dX0_blackIn_0 : decode cX0_blackIn 0 = .ok (.iload_n 1, 1) := by decide +kernel
theorem dX0_blackIn_1 : decode cX0_blackIn 1 = .ok (.ifCond .lt 18, 3) := by decide +kernel
theorem dX0_blackIn_4 : decode cX0_blackIn 4 = .ok (.iload_n 1, 1) := by decide +kernel
theorem dX0_blackIn_5 : decode cX0_blackIn 5 = .ok (.bipush 16, 2) := by decide +kernel
theorem dX0_blackIn_7 : decode cX0_blackIn 7 = .ok (.if_icmp .ge 12, 3) := by decide +kernel
theorem dX0_blackIn_10 : decode cX0_blackIn 10 = .ok (.aload_n 0, 1) := by decide +kernel
theorem dX0_blackIn_11 : decode cX0_blackIn 11 = .ok (.getfield 9, 3) := by decide +kernel
theorem dX0_blackIn_14 : decode cX0_blackIn 14 = .ok (.iload_n 1, 1) := by decide +kernel
theorem dX0_blackIn_15 : decode cX0_blackIn 15 = .ok (.iaload, 1) := by decide +kernel
theorem dX0_blackIn_16 : decode cX0_blackIn 16 = .ok (.goto 4, 3) := by decide +kernel
theorem dX0_blackIn_19 : decode cX0_blackIn 19 = .ok (.iconst 0, 1) := by decide +kernel
theorem dX0_blackIn_20 : decode cX0_blackIn 20 = .ok (.ireturn, 1) := by decide +kernel
theorem dX0_sure_0 : decode cX0_sure 0 = .ok (.aload_n 0, 1) := by decide +kernel
theorem dX0_sure_1 : decode cX0_sure 1 = .ok (.iload_n 1, 1) := by decide +kernel
theorem dX0_sure_2 : decode cX0_sure 2 = .ok (.invokevirtual 39, 3) := by decide +kernel
theorem dX0_sure_5 : decode cX0_sure 5 = .ok (.istore_n 2, 1) := by decide +kernel
theorem dX0_sure_6 : decode cX0_sure 6 = .ok (.aload_n 0, 1) := by decide +kernel
theorem dX0_sure_7 : decode cX0_sure 7 = .ok (.getfield 24, 3) := by decide +kernel
theorem dX0_sure_10 : decode cX0_sure 10 = .ok (.ifCond .eq 15, 3) := by decide +kernel
theorem dX0_sure_13 : decode cX0_sure 13 = .ok (.iload_n 2, 1) := by decide +kernel
theorem dX0_sure_14 : decode cX0_sure 14 = .ok (.ifCond .eq 13, 3) := by decide +kernel
theorem dX0_sure_17 : decode cX0_sure 17 = .ok (.iload_n 2, 1) := by decide +kernel
theorem dX0_sure_18 : decode cX0_sure 18 = .ok (.aload_n 0, 1) := by decide +kernel
theorem dX0_sure_19 : decode cX0_sure 19 = .ok (.getfield 24, 3) := by decide +kernel
theorem dX0_sure_22 : decode cX0_sure 22 = .ok (.if_icmp .eq 5, 3) := by decide +kernel
theorem dX0_sure_25 : decode cX0_sure 25 = .ok (.iconst (-1), 1) := by decide +kernel
theorem dX0_sure_26 : decode cX0_sure 26 = .ok (.ireturn, 1) := by decide +kernel
theorem dX0_sure_27 : decode cX0_sure 27 = .ok (.iload_n 2, 1) := by decide +kernel
theorem dX0_sure_28 : decode cX0_sure 28 = .ok (.ifCond .ne 7, 3) := by decide +kernel
theorem dX0_sure_31 : decode cX0_sure 31 = .ok (.iconst 0, 1) := by decide +kernel
theorem dX0_sure_32 : decode cX0_sure 32 = .ok (.goto 4, 3) := by decide +kernel
theorem dX0_sure_35 : decode cX0_sure 35 = .ok (.iconst 1, 1) := by decide +kernel
theorem dX0_sure_36 : decode cX0_sure 36 = .ok (.ireturn, 1) := by decide +kernel
theorem dX0_holds_0 : decode cX0_holds 0 = .ok (.iconst 0, 1) := by decide +kernel
theorem dX0_holds_1 : decode cX0_holds 1 = .ok (.istore_n 2, 1) := by decide +kernel
theorem dX0_holds_2 : decode cX0_holds 2 = .ok (.iload_n 2, 1) := by decide +kernel
theorem dX0_holds_3 : decode cX0_holds 3 = .ok (.aload_n 0, 1) := by decide +kernel
theorem dX0_holds_4 : decode cX0_holds 4 = .ok (.getfield 24, 3) := by decide +kernel
theorem dX0_holds_7 : decode cX0_holds 7 = .ok (.if_icmp .ge 20, 3) := by decide +kernel
theorem dX0_holds_10 : decode cX0_holds 10 = .ok (.aload_n 0, 1) := by decide +kernel
theorem dX0_holds_11 : decode cX0_holds 11 = .ok (.iload_n 2, 1) := by decide +kernel
theorem dX0_holds_12 : decode cX0_holds 12 = .ok (.invokevirtual 31, 3) := by decide +kernel
theorem dX0_holds_15 : decode cX0_holds 15 = .ok (.iload_n 1, 1) := by decide +kernel
theorem dX0_holds_16 : decode cX0_holds 16 = .ok (.if_icmp .ne 5, 3) := by decide +kernel
theorem dX0_holds_19 : decode cX0_holds 19 = .ok (.iconst 1, 1) := by decide +kernel
theorem dX0_holds_20 : decode cX0_holds 20 = .ok (.ireturn, 1) := by decide +kernel
theorem dX0_holds_21 : decode cX0_holds 21 = .ok (.iinc 2 1, 3) := by decide +kernel
theorem dX0_holds_24 : decode cX0_holds 24 = .ok (.goto (-22), 3) := by decide +kernel
theorem dX0_holds_27 : decode cX0_holds 27 = .ok (.iconst 0, 1) := by decide +kernel
theorem dX0_holds_28 : decode cX0_holds 28 = .ok (.ireturn, 1) := by decide +kernel
theorem dX0_bestLook_0 : decode cX0_bestLook 0 = .ok (.iconst (-1), 1) := by decide +kernel
theorem dX0_bestLook_1 : decode cX0_bestLook 1 = .ok (.istore_n 3, 1) := by decide +kernel
theorem dX0_bestLook_2 : decode cX0_bestLook 2 = .ok (.aload_n 0, 1) := by decide +kernel
theorem dX0_bestLook_3 : decode cX0_bestLook 3 = .ok (.getfield 24, 3) := by decide +kernel
theorem dX0_bestLook_6 : decode cX0_bestLook 6 = .ok (.istore 4, 2) := by decide +kernel
theorem dX0_bestLook_8 : decode cX0_bestLook 8 = .ok (.aload_n 0, 1) := by decide +kernel
theorem dX0_bestLook_9 : decode cX0_bestLook 9 = .ok (.getfield 24, 3) := by decide +kernel
theorem dX0_bestLook_12 : decode cX0_bestLook 12 = .ok (.ifCond .ne 5, 3) := by decide +kernel
theorem dX0_bestLook_15 : decode cX0_bestLook 15 = .ok (.iconst (-1), 1) := by decide +kernel
theorem dX0_bestLook_16 : decode cX0_bestLook 16 = .ok (.ireturn, 1) := by decide +kernel
theorem dX0_bestLook_17 : decode cX0_bestLook 17 = .ok (.iconst 0, 1) := by decide +kernel
theorem dX0_bestLook_18 : decode cX0_bestLook 18 = .ok (.istore 5, 2) := by decide +kernel
theorem dX0_bestLook_20 : decode cX0_bestLook 20 = .ok (.iload 5, 2) := by decide +kernel
theorem dX0_bestLook_22 : decode cX0_bestLook 22 = .ok (.iload_n 1, 1) := by decide +kernel
theorem dX0_bestLook_23 : decode cX0_bestLook 23 = .ok (.if_icmp .ge 62, 3) := by decide +kernel
theorem dX0_bestLook_26 : decode cX0_bestLook 26 = .ok (.iload_n 2, 1) := by decide +kernel
theorem dX0_bestLook_27 : decode cX0_bestLook 27 = .ok (.iload 5, 2) := by decide +kernel
theorem dX0_bestLook_29 : decode cX0_bestLook 29 = .ok (.ishr, 1) := by decide +kernel
theorem dX0_bestLook_30 : decode cX0_bestLook 30 = .ok (.iconst 1, 1) := by decide +kernel
theorem dX0_bestLook_31 : decode cX0_bestLook 31 = .ok (.iand, 1) := by decide +kernel
theorem dX0_bestLook_32 : decode cX0_bestLook 32 = .ok (.ifCond .eq 6, 3) := by decide +kernel
theorem dX0_bestLook_35 : decode cX0_bestLook 35 = .ok (.goto 44, 3) := by decide +kernel
theorem dX0_bestLook_38 : decode cX0_bestLook 38 = .ok (.aload_n 0, 1) := by decide +kernel
theorem dX0_bestLook_39 : decode cX0_bestLook 39 = .ok (.iload 5, 2) := by decide +kernel
theorem dX0_bestLook_41 : decode cX0_bestLook 41 = .ok (.invokevirtual 39, 3) := by decide +kernel
theorem dX0_bestLook_44 : decode cX0_bestLook 44 = .ok (.aload_n 0, 1) := by decide +kernel
theorem dX0_bestLook_45 : decode cX0_bestLook 45 = .ok (.getfield 24, 3) := by decide +kernel
theorem dX0_bestLook_48 : decode cX0_bestLook 48 = .ok (.aload_n 0, 1) := by decide +kernel
theorem dX0_bestLook_49 : decode cX0_bestLook 49 = .ok (.iload 5, 2) := by decide +kernel
theorem dX0_bestLook_51 : decode cX0_bestLook 51 = .ok (.invokevirtual 39, 3) := by decide +kernel
theorem dX0_bestLook_54 : decode cX0_bestLook 54 = .ok (.isub, 1) := by decide +kernel
theorem dX0_bestLook_55 : decode cX0_bestLook 55 = .ok (.invokestatic 15, 3) := by decide +kernel
theorem dX0_bestLook_58 : decode cX0_bestLook 58 = .ok (.istore 6, 2) := by decide +kernel
theorem dX0_bestLook_60 : decode cX0_bestLook 60 = .ok (.iload_n 3, 1) := by decide +kernel
theorem dX0_bestLook_61 : decode cX0_bestLook 61 = .ok (.iconst (-1), 1) := by decide +kernel
theorem dX0_bestLook_62 : decode cX0_bestLook 62 = .ok (.if_icmp .eq 10, 3) := by decide +kernel
theorem dX0_bestLook_65 : decode cX0_bestLook 65 = .ok (.iload 6, 2) := by decide +kernel
theorem dX0_bestLook_67 : decode cX0_bestLook 67 = .ok (.iload 4, 2) := by decide +kernel
theorem dX0_bestLook_69 : decode cX0_bestLook 69 = .ok (.if_icmp .ge 10, 3) := by decide +kernel
theorem dX0_bestLook_72 : decode cX0_bestLook 72 = .ok (.iload 5, 2) := by decide +kernel
theorem dX0_bestLook_74 : decode cX0_bestLook 74 = .ok (.istore_n 3, 1) := by decide +kernel
theorem dX0_bestLook_75 : decode cX0_bestLook 75 = .ok (.iload 6, 2) := by decide +kernel
theorem dX0_bestLook_77 : decode cX0_bestLook 77 = .ok (.istore 4, 2) := by decide +kernel
theorem dX0_bestLook_79 : decode cX0_bestLook 79 = .ok (.iinc 5 1, 3) := by decide +kernel
theorem dX0_bestLook_82 : decode cX0_bestLook 82 = .ok (.goto (-62), 3) := by decide +kernel
theorem dX0_bestLook_85 : decode cX0_bestLook 85 = .ok (.iload_n 3, 1) := by decide +kernel
theorem dX0_bestLook_86 : decode cX0_bestLook 86 = .ok (.ireturn, 1) := by decide +kernel
theorem dX0_keepLike_0 : decode cX0_keepLike 0 = .ok (.aload_n 0, 1) := by decide +kernel
theorem dX0_keepLike_1 : decode cX0_keepLike 1 = .ok (.getfield 24, 3) := by decide +kernel
theorem dX0_keepLike_4 : decode cX0_keepLike 4 = .ok (.istore_n 3, 1) := by decide +kernel
theorem dX0_keepLike_5 : decode cX0_keepLike 5 = .ok (.aload_n 0, 1) := by decide +kernel
theorem dX0_keepLike_6 : decode cX0_keepLike 6 = .ok (.invokevirtual 28, 3) := by decide +kernel
theorem dX0_keepLike_9 : decode cX0_keepLike 9 = .ok (.iconst 0, 1) := by decide +kernel
theorem dX0_keepLike_10 : decode cX0_keepLike 10 = .ok (.istore 4, 2) := by decide +kernel
theorem dX0_keepLike_12 : decode cX0_keepLike 12 = .ok (.iload 4, 2) := by decide +kernel
theorem dX0_keepLike_14 : decode cX0_keepLike 14 = .ok (.iload_n 3, 1) := by decide +kernel
theorem dX0_keepLike_15 : decode cX0_keepLike 15 = .ok (.if_icmp .ge 45, 3) := by decide +kernel
theorem dX0_keepLike_18 : decode cX0_keepLike 18 = .ok (.iload 4, 2) := by decide +kernel
theorem dX0_keepLike_20 : decode cX0_keepLike 20 = .ok (.aload_n 0, 1) := by decide +kernel
theorem dX0_keepLike_21 : decode cX0_keepLike 21 = .ok (.getfield 21, 3) := by decide +kernel
theorem dX0_keepLike_24 : decode cX0_keepLike 24 = .ok (.arraylength, 1) := by decide +kernel
theorem dX0_keepLike_25 : decode cX0_keepLike 25 = .ok (.if_icmp .ge 35, 3) := by decide +kernel
theorem dX0_keepLike_28 : decode cX0_keepLike 28 = .ok (.aload_n 0, 1) := by decide +kernel
theorem dX0_keepLike_29 : decode cX0_keepLike 29 = .ok (.getfield 21, 3) := by decide +kernel
theorem dX0_keepLike_32 : decode cX0_keepLike 32 = .ok (.iload 4, 2) := by decide +kernel
theorem dX0_keepLike_34 : decode cX0_keepLike 34 = .ok (.iaload, 1) := by decide +kernel
theorem dX0_keepLike_35 : decode cX0_keepLike 35 = .ok (.istore 5, 2) := by decide +kernel
theorem dX0_keepLike_37 : decode cX0_keepLike 37 = .ok (.iload 5, 2) := by decide +kernel
theorem dX0_keepLike_39 : decode cX0_keepLike 39 = .ok (.iload_n 1, 1) := by decide +kernel
theorem dX0_keepLike_40 : decode cX0_keepLike 40 = .ok (.ixor, 1) := by decide +kernel
theorem dX0_keepLike_41 : decode cX0_keepLike 41 = .ok (.iload_n 2, 1) := by decide +kernel
theorem dX0_keepLike_42 : decode cX0_keepLike 42 = .ok (.ishr, 1) := by decide +kernel
theorem dX0_keepLike_43 : decode cX0_keepLike 43 = .ok (.iconst 1, 1) := by decide +kernel
theorem dX0_keepLike_44 : decode cX0_keepLike 44 = .ok (.iand, 1) := by decide +kernel
theorem dX0_keepLike_45 : decode cX0_keepLike 45 = .ok (.ifCond .ne 9, 3) := by decide +kernel
theorem dX0_keepLike_48 : decode cX0_keepLike 48 = .ok (.aload_n 0, 1) := by decide +kernel
theorem dX0_keepLike_49 : decode cX0_keepLike 49 = .ok (.iload 5, 2) := by decide +kernel
theorem dX0_keepLike_51 : decode cX0_keepLike 51 = .ok (.invokevirtual 35, 3) := by decide +kernel
theorem dX0_keepLike_54 : decode cX0_keepLike 54 = .ok (.iinc 4 1, 3) := by decide +kernel
theorem dX0_keepLike_57 : decode cX0_keepLike 57 = .ok (.goto (-45), 3) := by decide +kernel
theorem dX0_keepLike_60 : decode cX0_keepLike 60 = .ok (.return_, 1) := by decide +kernel
theorem dX0_tells_0 : decode cX0_tells 0 = .ok (.iconst 0, 1) := by decide +kernel
theorem dX0_tells_1 : decode cX0_tells 1 = .ok (.istore_n 3, 1) := by decide +kernel
theorem dX0_tells_2 : decode cX0_tells 2 = .ok (.iload_n 3, 1) := by decide +kernel
theorem dX0_tells_3 : decode cX0_tells 3 = .ok (.aload_n 0, 1) := by decide +kernel
theorem dX0_tells_4 : decode cX0_tells 4 = .ok (.getfield 24, 3) := by decide +kernel
theorem dX0_tells_7 : decode cX0_tells 7 = .ok (.if_icmp .ge 33, 3) := by decide +kernel
theorem dX0_tells_10 : decode cX0_tells 10 = .ok (.aload_n 0, 1) := by decide +kernel
theorem dX0_tells_11 : decode cX0_tells 11 = .ok (.iload_n 3, 1) := by decide +kernel
theorem dX0_tells_12 : decode cX0_tells 12 = .ok (.invokevirtual 31, 3) := by decide +kernel
theorem dX0_tells_15 : decode cX0_tells 15 = .ok (.istore 4, 2) := by decide +kernel
theorem dX0_tells_17 : decode cX0_tells 17 = .ok (.iload 4, 2) := by decide +kernel
theorem dX0_tells_19 : decode cX0_tells 19 = .ok (.iload_n 1, 1) := by decide +kernel
theorem dX0_tells_20 : decode cX0_tells 20 = .ok (.if_icmp .eq 14, 3) := by decide +kernel
theorem dX0_tells_23 : decode cX0_tells 23 = .ok (.iload 4, 2) := by decide +kernel
theorem dX0_tells_25 : decode cX0_tells 25 = .ok (.iload_n 1, 1) := by decide +kernel
theorem dX0_tells_26 : decode cX0_tells 26 = .ok (.ixor, 1) := by decide +kernel
theorem dX0_tells_27 : decode cX0_tells 27 = .ok (.iload_n 2, 1) := by decide +kernel
theorem dX0_tells_28 : decode cX0_tells 28 = .ok (.iand, 1) := by decide +kernel
theorem dX0_tells_29 : decode cX0_tells 29 = .ok (.ifCond .ne 5, 3) := by decide +kernel
theorem dX0_tells_32 : decode cX0_tells 32 = .ok (.iconst 0, 1) := by decide +kernel
theorem dX0_tells_33 : decode cX0_tells 33 = .ok (.ireturn, 1) := by decide +kernel
theorem dX0_tells_34 : decode cX0_tells 34 = .ok (.iinc 3 1, 3) := by decide +kernel
theorem dX0_tells_37 : decode cX0_tells 37 = .ok (.goto (-35), 3) := by decide +kernel
theorem dX0_tells_40 : decode cX0_tells 40 = .ok (.iconst 1, 1) := by decide +kernel
theorem dX0_tells_41 : decode cX0_tells 41 = .ok (.ireturn, 1) := by decide +kernel
theorem dX1_isKind_0 : decode cX1_isKind 0 = .ok (.iload_n 0, 1) := by decide +kernel
theorem dX1_isKind_1 : decode cX1_isKind 1 = .ok (.ifCond .lt 12, 3) := by decide +kernel
theorem dX1_isKind_4 : decode cX1_isKind 4 = .ok (.iload_n 0, 1) := by decide +kernel
theorem dX1_isKind_5 : decode cX1_isKind 5 = .ok (.iconst 5, 1) := by decide +kernel
theorem dX1_isKind_6 : decode cX1_isKind 6 = .ok (.if_icmp .ge 7, 3) := by decide +kernel
theorem dX1_isKind_9 : decode cX1_isKind 9 = .ok (.iconst 1, 1) := by decide +kernel
theorem dX1_isKind_10 : decode cX1_isKind 10 = .ok (.goto 4, 3) := by decide +kernel
theorem dX1_isKind_13 : decode cX1_isKind 13 = .ok (.iconst 0, 1) := by decide +kernel
theorem dX1_isKind_14 : decode cX1_isKind 14 = .ok (.ireturn, 1) := by decide +kernel
theorem dX1_isSuch_0 : decode cX1_isSuch 0 = .ok (.iload_n 1, 1) := by decide +kernel
theorem dX1_isSuch_1 : decode cX1_isSuch 1 = .ok (.ifCond .eq 18, 3) := by decide +kernel
theorem dX1_isSuch_4 : decode cX1_isSuch 4 = .ok (.iload_n 1, 1) := by decide +kernel
theorem dX1_isSuch_5 : decode cX1_isSuch 5 = .ok (.iload_n 0, 1) := by decide +kernel
theorem dX1_isSuch_6 : decode cX1_isSuch 6 = .ok (.if_icmp .eq 13, 3) := by decide +kernel
theorem dX1_isSuch_9 : decode cX1_isSuch 9 = .ok (.iload_n 1, 1) := by decide +kernel
theorem dX1_isSuch_10 : decode cX1_isSuch 10 = .ok (.iconst 1, 1) := by decide +kernel
theorem dX1_isSuch_11 : decode cX1_isSuch 11 = .ok (.if_icmp .ne 12, 3) := by decide +kernel
theorem dX1_isSuch_14 : decode cX1_isSuch 14 = .ok (.iload_n 0, 1) := by decide +kernel
theorem dX1_isSuch_15 : decode cX1_isSuch 15 = .ok (.iconst 4, 1) := by decide +kernel
theorem dX1_isSuch_16 : decode cX1_isSuch 16 = .ok (.if_icmp .ne 7, 3) := by decide +kernel
theorem dX1_isSuch_19 : decode cX1_isSuch 19 = .ok (.iconst 1, 1) := by decide +kernel
theorem dX1_isSuch_20 : decode cX1_isSuch 20 = .ok (.goto 4, 3) := by decide +kernel
theorem dX1_isSuch_23 : decode cX1_isSuch 23 = .ok (.iconst 0, 1) := by decide +kernel
theorem dX1_isSuch_24 : decode cX1_isSuch 24 = .ok (.ireturn, 1) := by decide +kernel
theorem dX1_hasSecond_0 : decode cX1_hasSecond 0 = .ok (.iload_n 0, 1) := by decide +kernel
theorem dX1_hasSecond_1 : decode cX1_hasSecond 1 = .ok (.iconst 1, 1) := by decide +kernel
theorem dX1_hasSecond_2 : decode cX1_hasSecond 2 = .ok (.invokestatic 9, 3) := by decide +kernel
theorem dX1_hasSecond_5 : decode cX1_hasSecond 5 = .ok (.ireturn, 1) := by decide +kernel
theorem dX1_mostSecond_0 : decode cX1_mostSecond 0 = .ok (.iload_n 1, 1) := by decide +kernel
theorem dX1_mostSecond_1 : decode cX1_mostSecond 1 = .ok (.ifCond .ne 7, 3) := by decide +kernel
theorem dX1_mostSecond_4 : decode cX1_mostSecond 4 = .ok (.iconst 0, 1) := by decide +kernel
theorem dX1_mostSecond_5 : decode cX1_mostSecond 5 = .ok (.goto 12, 3) := by decide +kernel
theorem dX1_mostSecond_8 : decode cX1_mostSecond 8 = .ok (.iconst 0, 1) := by decide +kernel
theorem dX1_mostSecond_9 : decode cX1_mostSecond 9 = .ok (.iload_n 0, 1) := by decide +kernel
theorem dX1_mostSecond_10 : decode cX1_mostSecond 10 = .ok (.iload_n 1, 1) := by decide +kernel
theorem dX1_mostSecond_11 : decode cX1_mostSecond 11 = .ok (.isub, 1) := by decide +kernel
theorem dX1_mostSecond_12 : decode cX1_mostSecond 12 = .ok (.iconst 1, 1) := by decide +kernel
theorem dX1_mostSecond_13 : decode cX1_mostSecond 13 = .ok (.isub, 1) := by decide +kernel
theorem dX1_mostSecond_14 : decode cX1_mostSecond 14 = .ok (.invokestatic 15, 3) := by decide +kernel
theorem dX1_mostSecond_17 : decode cX1_mostSecond 17 = .ok (.ireturn, 1) := by decide +kernel
theorem dX1_allows_0 : decode cX1_allows 0 = .ok (.iload_n 1, 1) := by decide +kernel
theorem dX1_allows_1 : decode cX1_allows 1 = .ok (.invokestatic 21, 3) := by decide +kernel
theorem dX1_allows_4 : decode cX1_allows 4 = .ok (.ifCond .eq 12, 3) := by decide +kernel
theorem dX1_allows_7 : decode cX1_allows 7 = .ok (.iload_n 2, 1) := by decide +kernel
theorem dX1_allows_8 : decode cX1_allows 8 = .ok (.ifCond .lt 8, 3) := by decide +kernel
theorem dX1_allows_11 : decode cX1_allows 11 = .ok (.iload_n 2, 1) := by decide +kernel
theorem dX1_allows_12 : decode cX1_allows 12 = .ok (.iload_n 0, 1) := by decide +kernel
theorem dX1_allows_13 : decode cX1_allows 13 = .ok (.if_icmp .le 5, 3) := by decide +kernel
theorem dX1_allows_16 : decode cX1_allows 16 = .ok (.iconst 0, 1) := by decide +kernel
theorem dX1_allows_17 : decode cX1_allows 17 = .ok (.ireturn, 1) := by decide +kernel
theorem dX1_allows_18 : decode cX1_allows 18 = .ok (.iload_n 3, 1) := by decide +kernel
theorem dX1_allows_19 : decode cX1_allows 19 = .ok (.ifCond .lt 27, 3) := by decide +kernel
theorem dX1_allows_22 : decode cX1_allows 22 = .ok (.iload_n 3, 1) := by decide +kernel
theorem dX1_allows_23 : decode cX1_allows 23 = .ok (.iload_n 1, 1) := by decide +kernel
theorem dX1_allows_24 : decode cX1_allows 24 = .ok (.invokestatic 25, 3) := by decide +kernel
theorem dX1_allows_27 : decode cX1_allows 27 = .ok (.ifCond .eq 11, 3) := by decide +kernel
theorem dX1_allows_30 : decode cX1_allows 30 = .ok (.iload_n 0, 1) := by decide +kernel
theorem dX1_allows_31 : decode cX1_allows 31 = .ok (.iload_n 2, 1) := by decide +kernel
theorem dX1_allows_32 : decode cX1_allows 32 = .ok (.invokestatic 28, 3) := by decide +kernel
theorem dX1_allows_35 : decode cX1_allows 35 = .ok (.goto 4, 3) := by decide +kernel
theorem dX1_allows_38 : decode cX1_allows 38 = .ok (.iconst 0, 1) := by decide +kernel
theorem dX1_allows_39 : decode cX1_allows 39 = .ok (.if_icmp .gt 7, 3) := by decide +kernel
theorem dX1_allows_42 : decode cX1_allows 42 = .ok (.iconst 1, 1) := by decide +kernel
theorem dX1_allows_43 : decode cX1_allows 43 = .ok (.goto 4, 3) := by decide +kernel
theorem dX1_allows_46 : decode cX1_allows 46 = .ok (.iconst 0, 1) := by decide +kernel
theorem dX1_allows_47 : decode cX1_allows 47 = .ok (.ireturn, 1) := by decide +kernel
theorem dX1_anyCells_0 : decode cX1_anyCells 0 = .ok (.iconst 1, 1) := by decide +kernel
theorem dX1_anyCells_1 : decode cX1_anyCells 1 = .ok (.iconst 1, 1) := by decide +kernel
theorem dX1_anyCells_2 : decode cX1_anyCells 2 = .ok (.iload_n 0, 1) := by decide +kernel
theorem dX1_anyCells_3 : decode cX1_anyCells 3 = .ok (.ishl, 1) := by decide +kernel
theorem dX1_anyCells_4 : decode cX1_anyCells 4 = .ok (.ishl, 1) := by decide +kernel
theorem dX1_anyCells_5 : decode cX1_anyCells 5 = .ok (.iconst 1, 1) := by decide +kernel
theorem dX1_anyCells_6 : decode cX1_anyCells 6 = .ok (.isub, 1) := by decide +kernel
theorem dX1_anyCells_7 : decode cX1_anyCells 7 = .ok (.ireturn, 1) := by decide +kernel
theorem dX1_keeping_0 : decode cX1_keeping 0 = .ok (.iconst 0, 1) := by decide +kernel
theorem dX1_keeping_1 : decode cX1_keeping 1 = .ok (.istore 4, 2) := by decide +kernel
theorem dX1_keeping_3 : decode cX1_keeping 3 = .ok (.iconst 0, 1) := by decide +kernel
theorem dX1_keeping_4 : decode cX1_keeping 4 = .ok (.istore 5, 2) := by decide +kernel
theorem dX1_keeping_6 : decode cX1_keeping 6 = .ok (.iload 5, 2) := by decide +kernel
theorem dX1_keeping_8 : decode cX1_keeping 8 = .ok (.iconst 1, 1) := by decide +kernel
theorem dX1_keeping_9 : decode cX1_keeping 9 = .ok (.iload_n 0, 1) := by decide +kernel
theorem dX1_keeping_10 : decode cX1_keeping 10 = .ok (.ishl, 1) := by decide +kernel
theorem dX1_keeping_11 : decode cX1_keeping 11 = .ok (.if_icmp .ge 29, 3) := by decide +kernel
theorem dX1_keeping_14 : decode cX1_keeping 14 = .ok (.iload_n 1, 1) := by decide +kernel
theorem dX1_keeping_15 : decode cX1_keeping 15 = .ok (.iload_n 2, 1) := by decide +kernel
theorem dX1_keeping_16 : decode cX1_keeping 16 = .ok (.iload_n 3, 1) := by decide +kernel
theorem dX1_keeping_17 : decode cX1_keeping 17 = .ok (.iload 5, 2) := by decide +kernel
theorem dX1_keeping_19 : decode cX1_keeping 19 = .ok (.invokestatic 31, 3) := by decide +kernel
theorem dX1_keeping_22 : decode cX1_keeping 22 = .ok (.ifCond .eq 12, 3) := by decide +kernel
theorem dX1_keeping_25 : decode cX1_keeping 25 = .ok (.iload 4, 2) := by decide +kernel
theorem dX1_keeping_27 : decode cX1_keeping 27 = .ok (.iconst 1, 1) := by decide +kernel
theorem dX1_keeping_28 : decode cX1_keeping 28 = .ok (.iload 5, 2) := by decide +kernel
theorem dX1_keeping_30 : decode cX1_keeping 30 = .ok (.ishl, 1) := by decide +kernel
theorem dX1_keeping_31 : decode cX1_keeping 31 = .ok (.ior, 1) := by decide +kernel
theorem dX1_keeping_32 : decode cX1_keeping 32 = .ok (.istore 4, 2) := by decide +kernel
theorem dX1_keeping_34 : decode cX1_keeping 34 = .ok (.iinc 5 1, 3) := by decide +kernel
theorem dX1_keeping_37 : decode cX1_keeping 37 = .ok (.goto (-31), 3) := by decide +kernel
theorem dX1_keeping_40 : decode cX1_keeping 40 = .ok (.iload 4, 2) := by decide +kernel
theorem dX1_keeping_42 : decode cX1_keeping 42 = .ok (.ireturn, 1) := by decide +kernel
theorem dX1_isKept_0 : decode cX1_isKept 0 = .ok (.iconst 0, 1) := by decide +kernel
theorem dX1_isKept_1 : decode cX1_isKept 1 = .ok (.istore 4, 2) := by decide +kernel
theorem dX1_isKept_3 : decode cX1_isKept 3 = .ok (.iconst 0, 1) := by decide +kernel
theorem dX1_isKept_4 : decode cX1_isKept 4 = .ok (.istore 5, 2) := by decide +kernel
theorem dX1_isKept_6 : decode cX1_isKept 6 = .ok (.iconst 0, 1) := by decide +kernel
theorem dX1_isKept_7 : decode cX1_isKept 7 = .ok (.istore 6, 2) := by decide +kernel
theorem dX1_isKept_9 : decode cX1_isKept 9 = .ok (.iconst 0, 1) := by decide +kernel
theorem dX1_isKept_10 : decode cX1_isKept 10 = .ok (.istore 7, 2) := by decide +kernel
theorem dX1_isKept_12 : decode cX1_isKept 12 = .ok (.iconst 0, 1) := by decide +kernel
theorem dX1_isKept_13 : decode cX1_isKept 13 = .ok (.istore 8, 2) := by decide +kernel
theorem dX1_isKept_15 : decode cX1_isKept 15 = .ok (.iconst 0, 1) := by decide +kernel
theorem dX1_isKept_16 : decode cX1_isKept 16 = .ok (.istore 9, 2) := by decide +kernel
theorem dX1_isKept_18 : decode cX1_isKept 18 = .ok (.iload 9, 2) := by decide +kernel
theorem dX1_isKept_20 : decode cX1_isKept 20 = .ok (.iconst 4, 1) := by decide +kernel
theorem dX1_isKept_21 : decode cX1_isKept 21 = .ok (.if_icmp .gt 62, 3) := by decide +kernel
theorem dX1_isKept_24 : decode cX1_isKept 24 = .ok (.iload_n 3, 1) := by decide +kernel
theorem dX1_isKept_25 : decode cX1_isKept 25 = .ok (.iload 9, 2) := by decide +kernel
theorem dX1_isKept_27 : decode cX1_isKept 27 = .ok (.ishr, 1) := by decide +kernel
theorem dX1_isKept_28 : decode cX1_isKept 28 = .ok (.iconst 1, 1) := by decide +kernel
theorem dX1_isKept_29 : decode cX1_isKept 29 = .ok (.iand, 1) := by decide +kernel
theorem dX1_isKept_30 : decode cX1_isKept 30 = .ok (.ifCond .eq 9, 3) := by decide +kernel
theorem dX1_isKept_33 : decode cX1_isKept 33 = .ok (.iinc 8 1, 3) := by decide +kernel
theorem dX1_isKept_36 : decode cX1_isKept 36 = .ok (.goto 41, 3) := by decide +kernel
theorem dX1_isKept_39 : decode cX1_isKept 39 = .ok (.iload 8, 2) := by decide +kernel
theorem dX1_isKept_41 : decode cX1_isKept 41 = .ok (.ifCond .le 36, 3) := by decide +kernel
theorem dX1_isKept_44 : decode cX1_isKept 44 = .ok (.iload 4, 2) := by decide +kernel
theorem dX1_isKept_46 : decode cX1_isKept 46 = .ok (.ifCond .ne 10, 3) := by decide +kernel
theorem dX1_isKept_49 : decode cX1_isKept 49 = .ok (.iload 8, 2) := by decide +kernel
theorem dX1_isKept_51 : decode cX1_isKept 51 = .ok (.istore 5, 2) := by decide +kernel
theorem dX1_isKept_53 : decode cX1_isKept 53 = .ok (.goto 7, 3) := by decide +kernel
theorem dX1_isKept_56 : decode cX1_isKept 56 = .ok (.iload 8, 2) := by decide +kernel
theorem dX1_isKept_58 : decode cX1_isKept 58 = .ok (.istore 6, 2) := by decide +kernel
theorem dX1_isKept_60 : decode cX1_isKept 60 = .ok (.iinc 4 1, 3) := by decide +kernel
theorem dX1_isKept_63 : decode cX1_isKept 63 = .ok (.iload 8, 2) := by decide +kernel
theorem dX1_isKept_65 : decode cX1_isKept 65 = .ok (.iload 7, 2) := by decide +kernel
theorem dX1_isKept_67 : decode cX1_isKept 67 = .ok (.if_icmp .le 7, 3) := by decide +kernel
theorem dX1_isKept_70 : decode cX1_isKept 70 = .ok (.iload 8, 2) := by decide +kernel
theorem dX1_isKept_72 : decode cX1_isKept 72 = .ok (.istore 7, 2) := by decide +kernel
theorem dX1_isKept_74 : decode cX1_isKept 74 = .ok (.iconst 0, 1) := by decide +kernel
theorem dX1_isKept_75 : decode cX1_isKept 75 = .ok (.istore 8, 2) := by decide +kernel
theorem dX1_isKept_77 : decode cX1_isKept 77 = .ok (.iinc 9 1, 3) := by decide +kernel
theorem dX1_isKept_80 : decode cX1_isKept 80 = .ok (.goto (-62), 3) := by decide +kernel
theorem dX1_isKept_83 : decode cX1_isKept 83 = .ok (.iload 5, 2) := by decide +kernel
theorem dX1_isKept_85 : decode cX1_isKept 85 = .ok (.iload_n 1, 1) := by decide +kernel
theorem dX1_isKept_86 : decode cX1_isKept 86 = .ok (.if_icmp .ne 13, 3) := by decide +kernel
theorem dX1_isKept_89 : decode cX1_isKept 89 = .ok (.iload 6, 2) := by decide +kernel
theorem dX1_isKept_91 : decode cX1_isKept 91 = .ok (.iload_n 2, 1) := by decide +kernel
theorem dX1_isKept_92 : decode cX1_isKept 92 = .ok (.if_icmp .ne 7, 3) := by decide +kernel
theorem dX1_isKept_95 : decode cX1_isKept 95 = .ok (.iconst 1, 1) := by decide +kernel
theorem dX1_isKept_96 : decode cX1_isKept 96 = .ok (.goto 4, 3) := by decide +kernel
theorem dX1_isKept_99 : decode cX1_isKept 99 = .ok (.iconst 0, 1) := by decide +kernel
theorem dX1_isKept_100 : decode cX1_isKept 100 = .ok (.istore 9, 2) := by decide +kernel
theorem dX1_isKept_102 : decode cX1_isKept 102 = .ok (.iload_n 0, 1) := by decide +kernel
theorem dX1_isKept_103 : decode cX1_isKept 103 = .ok (.tableswitch 79 1 4 #[29, 32, 44, 56], 29) := by decide +kernel
theorem dX1_isKept_132 : decode cX1_isKept 132 = .ok (.iload 9, 2) := by decide +kernel
theorem dX1_isKept_134 : decode cX1_isKept 134 = .ok (.ireturn, 1) := by decide +kernel
theorem dX1_isKept_135 : decode cX1_isKept 135 = .ok (.iload 4, 2) := by decide +kernel
theorem dX1_isKept_137 : decode cX1_isKept 137 = .ok (.iload_n 1, 1) := by decide +kernel
theorem dX1_isKept_138 : decode cX1_isKept 138 = .ok (.if_icmp .ne 7, 3) := by decide +kernel
theorem dX1_isKept_141 : decode cX1_isKept 141 = .ok (.iconst 1, 1) := by decide +kernel
theorem dX1_isKept_142 : decode cX1_isKept 142 = .ok (.goto 4, 3) := by decide +kernel
theorem dX1_isKept_145 : decode cX1_isKept 145 = .ok (.iconst 0, 1) := by decide +kernel
theorem dX1_isKept_146 : decode cX1_isKept 146 = .ok (.ireturn, 1) := by decide +kernel
theorem dX1_isKept_147 : decode cX1_isKept 147 = .ok (.iload 7, 2) := by decide +kernel
theorem dX1_isKept_149 : decode cX1_isKept 149 = .ok (.iload_n 1, 1) := by decide +kernel
theorem dX1_isKept_150 : decode cX1_isKept 150 = .ok (.if_icmp .ne 7, 3) := by decide +kernel
theorem dX1_isKept_153 : decode cX1_isKept 153 = .ok (.iconst 1, 1) := by decide +kernel
theorem dX1_isKept_154 : decode cX1_isKept 154 = .ok (.goto 4, 3) := by decide +kernel
theorem dX1_isKept_157 : decode cX1_isKept 157 = .ok (.iconst 0, 1) := by decide +kernel
theorem dX1_isKept_158 : decode cX1_isKept 158 = .ok (.ireturn, 1) := by decide +kernel
theorem dX1_isKept_159 : decode cX1_isKept 159 = .ok (.iload 9, 2) := by decide +kernel
theorem dX1_isKept_161 : decode cX1_isKept 161 = .ok (.ifCond .ne 15, 3) := by decide +kernel
theorem dX1_isKept_164 : decode cX1_isKept 164 = .ok (.iload 5, 2) := by decide +kernel
theorem dX1_isKept_166 : decode cX1_isKept 166 = .ok (.iload_n 2, 1) := by decide +kernel
theorem dX1_isKept_167 : decode cX1_isKept 167 = .ok (.if_icmp .ne 13, 3) := by decide +kernel
theorem dX1_isKept_170 : decode cX1_isKept 170 = .ok (.iload 6, 2) := by decide +kernel
theorem dX1_isKept_172 : decode cX1_isKept 172 = .ok (.iload_n 1, 1) := by decide +kernel
theorem dX1_isKept_173 : decode cX1_isKept 173 = .ok (.if_icmp .ne 7, 3) := by decide +kernel
theorem dX1_isKept_176 : decode cX1_isKept 176 = .ok (.iconst 1, 1) := by decide +kernel
theorem dX1_isKept_177 : decode cX1_isKept 177 = .ok (.goto 4, 3) := by decide +kernel
theorem dX1_isKept_180 : decode cX1_isKept 180 = .ok (.iconst 0, 1) := by decide +kernel
theorem dX1_isKept_181 : decode cX1_isKept 181 = .ok (.ireturn, 1) := by decide +kernel
theorem dX1_isKept_182 : decode cX1_isKept 182 = .ok (.iload_n 3, 1) := by decide +kernel
theorem dX1_isKept_183 : decode cX1_isKept 183 = .ok (.invokestatic 35, 3) := by decide +kernel
theorem dX1_isKept_186 : decode cX1_isKept 186 = .ok (.iload_n 1, 1) := by decide +kernel
theorem dX1_isKept_187 : decode cX1_isKept 187 = .ok (.if_icmp .ne 7, 3) := by decide +kernel
theorem dX1_isKept_190 : decode cX1_isKept 190 = .ok (.iconst 1, 1) := by decide +kernel
theorem dX1_isKept_191 : decode cX1_isKept 191 = .ok (.goto 4, 3) := by decide +kernel
theorem dX1_isKept_194 : decode cX1_isKept 194 = .ok (.iconst 0, 1) := by decide +kernel
theorem dX1_isKept_195 : decode cX1_isKept 195 = .ok (.ireturn, 1) := by decide +kernel
theorem dX2_init_0 : decode cX2_init 0 = .ok (.aload_n 0, 1) := by decide +kernel
theorem dX2_init_1 : decode cX2_init 1 = .ok (.invokespecial 3, 3) := by decide +kernel
theorem dX2_init_4 : decode cX2_init 4 = .ok (.aload_n 0, 1) := by decide +kernel
theorem dX2_init_5 : decode cX2_init 5 = .ok (.bipush 36, 2) := by decide +kernel
theorem dX2_init_7 : decode cX2_init 7 = .ok (.newarray .char, 2) := by decide +kernel
theorem dX2_init_9 : decode cX2_init 9 = .ok (.putfield 9, 3) := by decide +kernel
theorem dX2_init_12 : decode cX2_init 12 = .ok (.return_, 1) := by decide +kernel
theorem dX2_add_0 : decode cX2_add 0 = .ok (.aload_n 0, 1) := by decide +kernel
theorem dX2_add_1 : decode cX2_add 1 = .ok (.getfield 15, 3) := by decide +kernel
theorem dX2_add_4 : decode cX2_add 4 = .ok (.aload_n 0, 1) := by decide +kernel
theorem dX2_add_5 : decode cX2_add 5 = .ok (.getfield 9, 3) := by decide +kernel
theorem dX2_add_8 : decode cX2_add 8 = .ok (.arraylength, 1) := by decide +kernel
theorem dX2_add_9 : decode cX2_add 9 = .ok (.if_icmp .lt 4, 3) := by decide +kernel
theorem dX2_add_12 : decode cX2_add 12 = .ok (.return_, 1) := by decide +kernel
theorem dX2_add_13 : decode cX2_add 13 = .ok (.aload_n 0, 1) := by decide +kernel
theorem dX2_add_14 : decode cX2_add 14 = .ok (.getfield 9, 3) := by decide +kernel
theorem dX2_add_17 : decode cX2_add 17 = .ok (.aload_n 0, 1) := by decide +kernel
theorem dX2_add_18 : decode cX2_add 18 = .ok (.getfield 15, 3) := by decide +kernel
theorem dX2_add_21 : decode cX2_add 21 = .ok (.iload_n 1, 1) := by decide +kernel
theorem dX2_add_22 : decode cX2_add 22 = .ok (.i2c, 1) := by decide +kernel
theorem dX2_add_23 : decode cX2_add 23 = .ok (.castore, 1) := by decide +kernel
theorem dX2_add_24 : decode cX2_add 24 = .ok (.aload_n 0, 1) := by decide +kernel
theorem dX2_add_25 : decode cX2_add 25 = .ok (.dup, 1) := by decide +kernel
theorem dX2_add_26 : decode cX2_add 26 = .ok (.getfield 15, 3) := by decide +kernel
theorem dX2_add_29 : decode cX2_add 29 = .ok (.iconst 1, 1) := by decide +kernel
theorem dX2_add_30 : decode cX2_add 30 = .ok (.iadd, 1) := by decide +kernel
theorem dX2_add_31 : decode cX2_add 31 = .ok (.putfield 15, 3) := by decide +kernel
theorem dX2_add_34 : decode cX2_add 34 = .ok (.return_, 1) := by decide +kernel
theorem dX2_codeAt_0 : decode cX2_codeAt 0 = .ok (.iload_n 1, 1) := by decide +kernel
theorem dX2_codeAt_1 : decode cX2_codeAt 1 = .ok (.ifCond .lt 21, 3) := by decide +kernel
theorem dX2_codeAt_4 : decode cX2_codeAt 4 = .ok (.iload_n 1, 1) := by decide +kernel
theorem dX2_codeAt_5 : decode cX2_codeAt 5 = .ok (.aload_n 0, 1) := by decide +kernel
theorem dX2_codeAt_6 : decode cX2_codeAt 6 = .ok (.getfield 9, 3) := by decide +kernel
theorem dX2_codeAt_9 : decode cX2_codeAt 9 = .ok (.arraylength, 1) := by decide +kernel
theorem dX2_codeAt_10 : decode cX2_codeAt 10 = .ok (.if_icmp .ge 12, 3) := by decide +kernel
theorem dX2_codeAt_13 : decode cX2_codeAt 13 = .ok (.aload_n 0, 1) := by decide +kernel
theorem dX2_codeAt_14 : decode cX2_codeAt 14 = .ok (.getfield 9, 3) := by decide +kernel
theorem dX2_codeAt_17 : decode cX2_codeAt 17 = .ok (.iload_n 1, 1) := by decide +kernel
theorem dX2_codeAt_18 : decode cX2_codeAt 18 = .ok (.caload, 1) := by decide +kernel
theorem dX2_codeAt_19 : decode cX2_codeAt 19 = .ok (.goto 4, 3) := by decide +kernel
theorem dX2_codeAt_22 : decode cX2_codeAt 22 = .ok (.iconst 0, 1) := by decide +kernel
theorem dX2_codeAt_23 : decode cX2_codeAt 23 = .ok (.ireturn, 1) := by decide +kernel
theorem dX2_readInto_0 : decode cX2_readInto 0 = .ok (.aload_n 0, 1) := by decide +kernel
theorem dX2_readInto_1 : decode cX2_readInto 1 = .ok (.iconst 0, 1) := by decide +kernel
theorem dX2_readInto_2 : decode cX2_readInto 2 = .ok (.putfield 19, 3) := by decide +kernel
theorem dX2_readInto_5 : decode cX2_readInto 5 = .ok (.aload_n 1, 1) := by decide +kernel
theorem dX2_readInto_6 : decode cX2_readInto 6 = .ok (.invokevirtual 22, 3) := by decide +kernel
theorem dX2_readInto_9 : decode cX2_readInto 9 = .ok (.aload_n 0, 1) := by decide +kernel
theorem dX2_readInto_10 : decode cX2_readInto 10 = .ok (.iconst 2, 1) := by decide +kernel
theorem dX2_readInto_11 : decode cX2_readInto 11 = .ok (.iconst 4, 1) := by decide +kernel
theorem dX2_readInto_12 : decode cX2_readInto 12 = .ok (.invokevirtual 27, 3) := by decide +kernel
theorem dX2_readInto_15 : decode cX2_readInto 15 = .ok (.istore_n 2, 1) := by decide +kernel
theorem dX2_readInto_16 : decode cX2_readInto 16 = .ok (.iload_n 2, 1) := by decide +kernel
theorem dX2_readInto_17 : decode cX2_readInto 17 = .ok (.ifCond .ge 5, 3) := by decide +kernel
theorem dX2_readInto_20 : decode cX2_readInto 20 = .ok (.iconst 0, 1) := by decide +kernel
theorem dX2_readInto_21 : decode cX2_readInto 21 = .ok (.ireturn, 1) := by decide +kernel
theorem dX2_readInto_22 : decode cX2_readInto 22 = .ok (.aload_n 0, 1) := by decide +kernel
theorem dX2_readInto_23 : decode cX2_readInto 23 = .ok (.iconst 2, 1) := by decide +kernel
theorem dX2_readInto_24 : decode cX2_readInto 24 = .ok (.iconst 4, 1) := by decide +kernel
theorem dX2_readInto_25 : decode cX2_readInto 25 = .ok (.invokevirtual 27, 3) := by decide +kernel
theorem dX2_readInto_28 : decode cX2_readInto 28 = .ok (.istore_n 3, 1) := by decide +kernel
theorem dX2_readInto_29 : decode cX2_readInto 29 = .ok (.iload_n 3, 1) := by decide +kernel
theorem dX2_readInto_30 : decode cX2_readInto 30 = .ok (.ifCond .ge 5, 3) := by decide +kernel
theorem dX2_readInto_33 : decode cX2_readInto 33 = .ok (.iconst 0, 1) := by decide +kernel
theorem dX2_readInto_34 : decode cX2_readInto 34 = .ok (.ireturn, 1) := by decide +kernel
theorem dX2_readInto_35 : decode cX2_readInto 35 = .ok (.aload_n 1, 1) := by decide +kernel
theorem dX2_readInto_36 : decode cX2_readInto 36 = .ok (.iload_n 2, 1) := by decide +kernel
theorem dX2_readInto_37 : decode cX2_readInto 37 = .ok (.putfield 31, 3) := by decide +kernel
theorem dX2_readInto_40 : decode cX2_readInto 40 = .ok (.aload_n 1, 1) := by decide +kernel
theorem dX2_readInto_41 : decode cX2_readInto 41 = .ok (.iload_n 3, 1) := by decide +kernel
theorem dX2_readInto_42 : decode cX2_readInto 42 = .ok (.putfield 34, 3) := by decide +kernel
theorem dX2_readInto_45 : decode cX2_readInto 45 = .ok (.iconst 0, 1) := by decide +kernel
theorem dX2_readInto_46 : decode cX2_readInto 46 = .ok (.istore 4, 2) := by decide +kernel
theorem dX2_readInto_48 : decode cX2_readInto 48 = .ok (.iload 4, 2) := by decide +kernel
theorem dX2_readInto_50 : decode cX2_readInto 50 = .ok (.iload_n 2, 1) := by decide +kernel
theorem dX2_readInto_51 : decode cX2_readInto 51 = .ok (.iload_n 3, 1) := by decide +kernel
theorem dX2_readInto_52 : decode cX2_readInto 52 = .ok (.iadd, 1) := by decide +kernel
theorem dX2_readInto_53 : decode cX2_readInto 53 = .ok (.if_icmp .ge 50, 3) := by decide +kernel
theorem dX2_readInto_56 : decode cX2_readInto 56 = .ok (.iload 4, 2) := by decide +kernel
theorem dX2_readInto_58 : decode cX2_readInto 58 = .ok (.ifCond .eq 9, 3) := by decide +kernel
theorem dX2_readInto_61 : decode cX2_readInto 61 = .ok (.iload 4, 2) := by decide +kernel
theorem dX2_readInto_63 : decode cX2_readInto 63 = .ok (.iload_n 2, 1) := by decide +kernel
theorem dX2_readInto_64 : decode cX2_readInto 64 = .ok (.if_icmp .ne 8, 3) := by decide +kernel
theorem dX2_readInto_67 : decode cX2_readInto 67 = .ok (.bipush 59, 2) := by decide +kernel
theorem dX2_readInto_69 : decode cX2_readInto 69 = .ok (.goto 5, 3) := by decide +kernel
theorem dX2_readInto_72 : decode cX2_readInto 72 = .ok (.bipush 44, 2) := by decide +kernel
theorem dX2_readInto_74 : decode cX2_readInto 74 = .ok (.istore 5, 2) := by decide +kernel
theorem dX2_readInto_76 : decode cX2_readInto 76 = .ok (.aload_n 0, 1) := by decide +kernel
theorem dX2_readInto_77 : decode cX2_readInto 77 = .ok (.iload 5, 2) := by decide +kernel
theorem dX2_readInto_79 : decode cX2_readInto 79 = .ok (.invokevirtual 37, 3) := by decide +kernel
theorem dX2_readInto_82 : decode cX2_readInto 82 = .ok (.ifCond .eq 13, 3) := by decide +kernel
theorem dX2_readInto_85 : decode cX2_readInto 85 = .ok (.aload_n 0, 1) := by decide +kernel
theorem dX2_readInto_86 : decode cX2_readInto 86 = .ok (.aload_n 1, 1) := by decide +kernel
theorem dX2_readInto_87 : decode cX2_readInto 87 = .ok (.iload 4, 2) := by decide +kernel
theorem dX2_readInto_89 : decode cX2_readInto 89 = .ok (.invokevirtual 41, 3) := by decide +kernel
theorem dX2_readInto_92 : decode cX2_readInto 92 = .ok (.ifCond .ne 5, 3) := by decide +kernel
theorem dX2_readInto_95 : decode cX2_readInto 95 = .ok (.iconst 0, 1) := by decide +kernel
theorem dX2_readInto_96 : decode cX2_readInto 96 = .ok (.ireturn, 1) := by decide +kernel
theorem dX2_readInto_97 : decode cX2_readInto 97 = .ok (.iinc 4 1, 3) := by decide +kernel
theorem dX2_readInto_100 : decode cX2_readInto 100 = .ok (.goto (-52), 3) := by decide +kernel
theorem dX2_readInto_103 : decode cX2_readInto 103 = .ok (.aload_n 0, 1) := by decide +kernel
theorem dX2_readInto_104 : decode cX2_readInto 104 = .ok (.getfield 19, 3) := by decide +kernel
theorem dX2_readInto_107 : decode cX2_readInto 107 = .ok (.aload_n 0, 1) := by decide +kernel
theorem dX2_readInto_108 : decode cX2_readInto 108 = .ok (.getfield 15, 3) := by decide +kernel
theorem dX2_readInto_111 : decode cX2_readInto 111 = .ok (.if_icmp .ne 7, 3) := by decide +kernel
theorem dX2_readInto_114 : decode cX2_readInto 114 = .ok (.iconst 1, 1) := by decide +kernel
theorem dX2_readInto_115 : decode cX2_readInto 115 = .ok (.goto 4, 3) := by decide +kernel
theorem dX2_readInto_118 : decode cX2_readInto 118 = .ok (.iconst 0, 1) := by decide +kernel
theorem dX2_readInto_119 : decode cX2_readInto 119 = .ok (.ireturn, 1) := by decide +kernel
theorem dX2_readClue_0 : decode cX2_readClue 0 = .ok (.aload_n 1, 1) := by decide +kernel
theorem dX2_readClue_1 : decode cX2_readClue 1 = .ok (.iload_n 2, 1) := by decide +kernel
theorem dX2_readClue_2 : decode cX2_readClue 2 = .ok (.invokevirtual 45, 3) := by decide +kernel
theorem dX2_readClue_5 : decode cX2_readClue 5 = .ok (.istore_n 3, 1) := by decide +kernel
theorem dX2_readClue_6 : decode cX2_readClue 6 = .ok (.aload_n 0, 1) := by decide +kernel
theorem dX2_readClue_7 : decode cX2_readClue 7 = .ok (.invokevirtual 49, 3) := by decide +kernel
theorem dX2_readClue_10 : decode cX2_readClue 10 = .ok (.istore 4, 2) := by decide +kernel
theorem dX2_readClue_12 : decode cX2_readClue 12 = .ok (.iload 4, 2) := by decide +kernel
theorem dX2_readClue_14 : decode cX2_readClue 14 = .ok (.ifCond .ge 5, 3) := by decide +kernel
theorem dX2_readClue_17 : decode cX2_readClue 17 = .ok (.iconst 0, 1) := by decide +kernel
theorem dX2_readClue_18 : decode cX2_readClue 18 = .ok (.ireturn, 1) := by decide +kernel
theorem dX2_readClue_19 : decode cX2_readClue 19 = .ok (.aload_n 0, 1) := by decide +kernel
theorem dX2_readClue_20 : decode cX2_readClue 20 = .ok (.iconst 0, 1) := by decide +kernel
theorem dX2_readClue_21 : decode cX2_readClue 21 = .ok (.iload_n 3, 1) := by decide +kernel
theorem dX2_readClue_22 : decode cX2_readClue 22 = .ok (.invokevirtual 27, 3) := by decide +kernel
theorem dX2_readClue_25 : decode cX2_readClue 25 = .ok (.istore 5, 2) := by decide +kernel
theorem dX2_readClue_27 : decode cX2_readClue 27 = .ok (.iload 5, 2) := by decide +kernel
theorem dX2_readClue_29 : decode cX2_readClue 29 = .ok (.ifCond .ge 5, 3) := by decide +kernel
theorem dX2_readClue_32 : decode cX2_readClue 32 = .ok (.iconst 0, 1) := by decide +kernel
theorem dX2_readClue_33 : decode cX2_readClue 33 = .ok (.ireturn, 1) := by decide +kernel
theorem dX2_readClue_34 : decode cX2_readClue 34 = .ok (.iconst 0, 1) := by decide +kernel
theorem dX2_readClue_35 : decode cX2_readClue 35 = .ok (.istore 6, 2) := by decide +kernel
theorem dX2_readClue_37 : decode cX2_readClue 37 = .ok (.iload 4, 2) := by decide +kernel
theorem dX2_readClue_39 : decode cX2_readClue 39 = .ok (.invokestatic 53, 3) := by decide +kernel
theorem dX2_readClue_42 : decode cX2_readClue 42 = .ok (.ifCond .eq 16, 3) := by decide +kernel
theorem dX2_readClue_45 : decode cX2_readClue 45 = .ok (.aload_n 0, 1) := by decide +kernel
theorem dX2_readClue_46 : decode cX2_readClue 46 = .ok (.iconst 0, 1) := by decide +kernel
theorem dX2_readClue_47 : decode cX2_readClue 47 = .ok (.iload_n 3, 1) := by decide +kernel
theorem dX2_readClue_48 : decode cX2_readClue 48 = .ok (.iload 5, 2) := by decide +kernel
theorem dX2_readClue_50 : decode cX2_readClue 50 = .ok (.invokestatic 59, 3) := by decide +kernel
theorem dX2_readClue_53 : decode cX2_readClue 53 = .ok (.invokevirtual 27, 3) := by decide +kernel
theorem dX2_readClue_56 : decode cX2_readClue 56 = .ok (.istore 6, 2) := by decide +kernel
theorem dX2_readClue_58 : decode cX2_readClue 58 = .ok (.iload 6, 2) := by decide +kernel
theorem dX2_readClue_60 : decode cX2_readClue 60 = .ok (.ifCond .ge 5, 3) := by decide +kernel
theorem dX2_readClue_63 : decode cX2_readClue 63 = .ok (.iconst 0, 1) := by decide +kernel
theorem dX2_readClue_64 : decode cX2_readClue 64 = .ok (.ireturn, 1) := by decide +kernel
theorem dX2_readClue_65 : decode cX2_readClue 65 = .ok (.aload_n 1, 1) := by decide +kernel
theorem dX2_readClue_66 : decode cX2_readClue 66 = .ok (.iload_n 2, 1) := by decide +kernel
theorem dX2_readClue_67 : decode cX2_readClue 67 = .ok (.iload 4, 2) := by decide +kernel
theorem dX2_readClue_69 : decode cX2_readClue 69 = .ok (.iload 5, 2) := by decide +kernel
theorem dX2_readClue_71 : decode cX2_readClue 71 = .ok (.iload 6, 2) := by decide +kernel
theorem dX2_readClue_73 : decode cX2_readClue 73 = .ok (.invokevirtual 62, 3) := by decide +kernel
theorem dX2_readClue_76 : decode cX2_readClue 76 = .ok (.iconst 1, 1) := by decide +kernel
theorem dX2_readClue_77 : decode cX2_readClue 77 = .ok (.ireturn, 1) := by decide +kernel
theorem dX2_readNumber_0 : decode cX2_readNumber 0 = .ok (.aload_n 0, 1) := by decide +kernel
theorem dX2_readNumber_1 : decode cX2_readNumber 1 = .ok (.getfield 19, 3) := by decide +kernel
theorem dX2_readNumber_4 : decode cX2_readNumber 4 = .ok (.aload_n 0, 1) := by decide +kernel
theorem dX2_readNumber_5 : decode cX2_readNumber 5 = .ok (.getfield 15, 3) := by decide +kernel
theorem dX2_readNumber_8 : decode cX2_readNumber 8 = .ok (.if_icmp .lt 5, 3) := by decide +kernel
theorem dX2_readNumber_11 : decode cX2_readNumber 11 = .ok (.iconst (-1), 1) := by decide +kernel
theorem dX2_readNumber_12 : decode cX2_readNumber 12 = .ok (.ireturn, 1) := by decide +kernel
theorem dX2_readNumber_13 : decode cX2_readNumber 13 = .ok (.aload_n 0, 1) := by decide +kernel
theorem dX2_readNumber_14 : decode cX2_readNumber 14 = .ok (.aload_n 0, 1) := by decide +kernel
theorem dX2_readNumber_15 : decode cX2_readNumber 15 = .ok (.getfield 19, 3) := by decide +kernel
theorem dX2_readNumber_18 : decode cX2_readNumber 18 = .ok (.invokevirtual 66, 3) := by decide +kernel
theorem dX2_readNumber_21 : decode cX2_readNumber 21 = .ok (.bipush 48, 2) := by decide +kernel
theorem dX2_readNumber_23 : decode cX2_readNumber 23 = .ok (.isub, 1) := by decide +kernel
theorem dX2_readNumber_24 : decode cX2_readNumber 24 = .ok (.istore_n 3, 1) := by decide +kernel
theorem dX2_readNumber_25 : decode cX2_readNumber 25 = .ok (.iload_n 3, 1) := by decide +kernel
theorem dX2_readNumber_26 : decode cX2_readNumber 26 = .ok (.iload_n 1, 1) := by decide +kernel
theorem dX2_readNumber_27 : decode cX2_readNumber 27 = .ok (.if_icmp .lt 8, 3) := by decide +kernel
theorem dX2_readNumber_30 : decode cX2_readNumber 30 = .ok (.iload_n 3, 1) := by decide +kernel
theorem dX2_readNumber_31 : decode cX2_readNumber 31 = .ok (.iload_n 2, 1) := by decide +kernel
theorem dX2_readNumber_32 : decode cX2_readNumber 32 = .ok (.if_icmp .le 5, 3) := by decide +kernel
theorem dX2_readNumber_35 : decode cX2_readNumber 35 = .ok (.iconst (-1), 1) := by decide +kernel
theorem dX2_readNumber_36 : decode cX2_readNumber 36 = .ok (.ireturn, 1) := by decide +kernel
theorem dX2_readNumber_37 : decode cX2_readNumber 37 = .ok (.aload_n 0, 1) := by decide +kernel
theorem dX2_readNumber_38 : decode cX2_readNumber 38 = .ok (.dup, 1) := by decide +kernel
theorem dX2_readNumber_39 : decode cX2_readNumber 39 = .ok (.getfield 19, 3) := by decide +kernel
theorem dX2_readNumber_42 : decode cX2_readNumber 42 = .ok (.iconst 1, 1) := by decide +kernel
theorem dX2_readNumber_43 : decode cX2_readNumber 43 = .ok (.iadd, 1) := by decide +kernel
theorem dX2_readNumber_44 : decode cX2_readNumber 44 = .ok (.putfield 19, 3) := by decide +kernel
theorem dX2_readNumber_47 : decode cX2_readNumber 47 = .ok (.iload_n 3, 1) := by decide +kernel
theorem dX2_readNumber_48 : decode cX2_readNumber 48 = .ok (.ireturn, 1) := by decide +kernel
theorem dX2_readKind_0 : decode cX2_readKind 0 = .ok (.aload_n 0, 1) := by decide +kernel
theorem dX2_readKind_1 : decode cX2_readKind 1 = .ok (.getfield 19, 3) := by decide +kernel
theorem dX2_readKind_4 : decode cX2_readKind 4 = .ok (.aload_n 0, 1) := by decide +kernel
theorem dX2_readKind_5 : decode cX2_readKind 5 = .ok (.getfield 15, 3) := by decide +kernel
theorem dX2_readKind_8 : decode cX2_readKind 8 = .ok (.if_icmp .lt 5, 3) := by decide +kernel
theorem dX2_readKind_11 : decode cX2_readKind 11 = .ok (.iconst (-1), 1) := by decide +kernel
theorem dX2_readKind_12 : decode cX2_readKind 12 = .ok (.ireturn, 1) := by decide +kernel
theorem dX2_readKind_13 : decode cX2_readKind 13 = .ok (.ldc 69, 2) := by decide +kernel
theorem dX2_readKind_15 : decode cX2_readKind 15 = .ok (.aload_n 0, 1) := by decide +kernel
theorem dX2_readKind_16 : decode cX2_readKind 16 = .ok (.aload_n 0, 1) := by decide +kernel
theorem dX2_readKind_17 : decode cX2_readKind 17 = .ok (.getfield 19, 3) := by decide +kernel
theorem dX2_readKind_20 : decode cX2_readKind 20 = .ok (.invokevirtual 66, 3) := by decide +kernel
theorem dX2_readKind_23 : decode cX2_readKind 23 = .ok (.i2c, 1) := by decide +kernel
theorem dX2_readKind_24 : decode cX2_readKind 24 = .ok (.invokevirtual 71, 3) := by decide +kernel
theorem dX2_readKind_27 : decode cX2_readKind 27 = .ok (.istore_n 1, 1) := by decide +kernel
theorem dX2_readKind_28 : decode cX2_readKind 28 = .ok (.iload_n 1, 1) := by decide +kernel
theorem dX2_readKind_29 : decode cX2_readKind 29 = .ok (.ifCond .lt 13, 3) := by decide +kernel
theorem dX2_readKind_32 : decode cX2_readKind 32 = .ok (.aload_n 0, 1) := by decide +kernel
theorem dX2_readKind_33 : decode cX2_readKind 33 = .ok (.dup, 1) := by decide +kernel
theorem dX2_readKind_34 : decode cX2_readKind 34 = .ok (.getfield 19, 3) := by decide +kernel
theorem dX2_readKind_37 : decode cX2_readKind 37 = .ok (.iconst 1, 1) := by decide +kernel
theorem dX2_readKind_38 : decode cX2_readKind 38 = .ok (.iadd, 1) := by decide +kernel
theorem dX2_readKind_39 : decode cX2_readKind 39 = .ok (.putfield 19, 3) := by decide +kernel
theorem dX2_readKind_42 : decode cX2_readKind 42 = .ok (.iload_n 1, 1) := by decide +kernel
theorem dX2_readKind_43 : decode cX2_readKind 43 = .ok (.ireturn, 1) := by decide +kernel
theorem dX2_readSign_0 : decode cX2_readSign 0 = .ok (.aload_n 0, 1) := by decide +kernel
theorem dX2_readSign_1 : decode cX2_readSign 1 = .ok (.getfield 19, 3) := by decide +kernel
theorem dX2_readSign_4 : decode cX2_readSign 4 = .ok (.aload_n 0, 1) := by decide +kernel
theorem dX2_readSign_5 : decode cX2_readSign 5 = .ok (.getfield 15, 3) := by decide +kernel
theorem dX2_readSign_8 : decode cX2_readSign 8 = .ok (.if_icmp .ge 15, 3) := by decide +kernel
theorem dX2_readSign_11 : decode cX2_readSign 11 = .ok (.aload_n 0, 1) := by decide +kernel
theorem dX2_readSign_12 : decode cX2_readSign 12 = .ok (.aload_n 0, 1) := by decide +kernel
theorem dX2_readSign_13 : decode cX2_readSign 13 = .ok (.getfield 19, 3) := by decide +kernel
theorem dX2_readSign_16 : decode cX2_readSign 16 = .ok (.invokevirtual 66, 3) := by decide +kernel
theorem dX2_readSign_19 : decode cX2_readSign 19 = .ok (.iload_n 1, 1) := by decide +kernel
theorem dX2_readSign_20 : decode cX2_readSign 20 = .ok (.if_icmp .eq 5, 3) := by decide +kernel
theorem dX2_readSign_23 : decode cX2_readSign 23 = .ok (.iconst 0, 1) := by decide +kernel
theorem dX2_readSign_24 : decode cX2_readSign 24 = .ok (.ireturn, 1) := by decide +kernel
theorem dX2_readSign_25 : decode cX2_readSign 25 = .ok (.aload_n 0, 1) := by decide +kernel
theorem dX2_readSign_26 : decode cX2_readSign 26 = .ok (.dup, 1) := by decide +kernel
theorem dX2_readSign_27 : decode cX2_readSign 27 = .ok (.getfield 19, 3) := by decide +kernel
theorem dX2_readSign_30 : decode cX2_readSign 30 = .ok (.iconst 1, 1) := by decide +kernel
theorem dX2_readSign_31 : decode cX2_readSign 31 = .ok (.iadd, 1) := by decide +kernel
theorem dX2_readSign_32 : decode cX2_readSign 32 = .ok (.putfield 19, 3) := by decide +kernel
theorem dX2_readSign_35 : decode cX2_readSign 35 = .ok (.iconst 1, 1) := by decide +kernel
theorem dX2_readSign_36 : decode cX2_readSign 36 = .ok (.ireturn, 1) := by decide +kernel
theorem dX3_init_0 : decode cX3_init 0 = .ok (.aload_n 0, 1) := by decide +kernel
theorem dX3_init_1 : decode cX3_init 1 = .ok (.invokespecial 3, 3) := by decide +kernel
theorem dX3_init_4 : decode cX3_init 4 = .ok (.aload_n 0, 1) := by decide +kernel
theorem dX3_init_5 : decode cX3_init 5 = .ok (.bipush 8, 2) := by decide +kernel
theorem dX3_init_7 : decode cX3_init 7 = .ok (.newarray .int, 2) := by decide +kernel
theorem dX3_init_9 : decode cX3_init 9 = .ok (.putfield 9, 3) := by decide +kernel
theorem dX3_init_12 : decode cX3_init 12 = .ok (.aload_n 0, 1) := by decide +kernel
theorem dX3_init_13 : decode cX3_init 13 = .ok (.bipush 16, 2) := by decide +kernel
theorem dX3_init_15 : decode cX3_init 15 = .ok (.newarray .int, 2) := by decide +kernel
theorem dX3_init_17 : decode cX3_init 17 = .ok (.putfield 15, 3) := by decide +kernel
theorem dX3_init_20 : decode cX3_init 20 = .ok (.return_, 1) := by decide +kernel
theorem dX3_take_0 : decode cX3_take 0 = .ok (.aload_n 0, 1) := by decide +kernel
theorem dX3_take_1 : decode cX3_take 1 = .ok (.aload_n 1, 1) := by decide +kernel
theorem dX3_take_2 : decode cX3_take 2 = .ok (.getfield 18, 3) := by decide +kernel
theorem dX3_take_5 : decode cX3_take 5 = .ok (.putfield 24, 3) := by decide +kernel
theorem dX3_take_8 : decode cX3_take 8 = .ok (.aload_n 0, 1) := by decide +kernel
theorem dX3_take_9 : decode cX3_take 9 = .ok (.aload_n 1, 1) := by decide +kernel
theorem dX3_take_10 : decode cX3_take 10 = .ok (.getfield 25, 3) := by decide +kernel
theorem dX3_take_13 : decode cX3_take 13 = .ok (.putfield 28, 3) := by decide +kernel
theorem dX3_take_16 : decode cX3_take 16 = .ok (.aload_n 0, 1) := by decide +kernel
theorem dX3_take_17 : decode cX3_take 17 = .ok (.aload_n 1, 1) := by decide +kernel
theorem dX3_take_18 : decode cX3_take 18 = .ok (.getfield 29, 3) := by decide +kernel
theorem dX3_take_21 : decode cX3_take 21 = .ok (.putfield 32, 3) := by decide +kernel
theorem dX3_take_24 : decode cX3_take 24 = .ok (.aload_n 0, 1) := by decide +kernel
theorem dX3_take_25 : decode cX3_take 25 = .ok (.aload_n 1, 1) := by decide +kernel
theorem dX3_take_26 : decode cX3_take 26 = .ok (.getfield 33, 3) := by decide +kernel
theorem dX3_take_29 : decode cX3_take 29 = .ok (.putfield 36, 3) := by decide +kernel
theorem dX3_take_32 : decode cX3_take 32 = .ok (.iconst 0, 1) := by decide +kernel
theorem dX3_take_33 : decode cX3_take 33 = .ok (.istore_n 2, 1) := by decide +kernel
theorem dX3_take_34 : decode cX3_take 34 = .ok (.iload_n 2, 1) := by decide +kernel
theorem dX3_take_35 : decode cX3_take 35 = .ok (.aload_n 1, 1) := by decide +kernel
theorem dX3_take_36 : decode cX3_take 36 = .ok (.invokevirtual 37, 3) := by decide +kernel
theorem dX3_take_39 : decode cX3_take 39 = .ok (.if_icmp .ge 47, 3) := by decide +kernel
theorem dX3_take_42 : decode cX3_take 42 = .ok (.iload_n 2, 1) := by decide +kernel
theorem dX3_take_43 : decode cX3_take 43 = .ok (.bipush 8, 2) := by decide +kernel
theorem dX3_take_45 : decode cX3_take 45 = .ok (.if_icmp .ge 41, 3) := by decide +kernel
theorem dX3_take_48 : decode cX3_take 48 = .ok (.aload_n 0, 1) := by decide +kernel
theorem dX3_take_49 : decode cX3_take 49 = .ok (.getfield 9, 3) := by decide +kernel
theorem dX3_take_52 : decode cX3_take 52 = .ok (.iload_n 2, 1) := by decide +kernel
theorem dX3_take_53 : decode cX3_take 53 = .ok (.aload_n 1, 1) := by decide +kernel
theorem dX3_take_54 : decode cX3_take 54 = .ok (.iload_n 2, 1) := by decide +kernel
theorem dX3_take_55 : decode cX3_take 55 = .ok (.invokevirtual 41, 3) := by decide +kernel
theorem dX3_take_58 : decode cX3_take 58 = .ok (.aload_n 1, 1) := by decide +kernel
theorem dX3_take_59 : decode cX3_take 59 = .ok (.getfield 45, 3) := by decide +kernel
theorem dX3_take_62 : decode cX3_take 62 = .ok (.iload_n 2, 1) := by decide +kernel
theorem dX3_take_63 : decode cX3_take 63 = .ok (.iaload, 1) := by decide +kernel
theorem dX3_take_64 : decode cX3_take 64 = .ok (.aload_n 1, 1) := by decide +kernel
theorem dX3_take_65 : decode cX3_take 65 = .ok (.getfield 48, 3) := by decide +kernel
theorem dX3_take_68 : decode cX3_take 68 = .ok (.iload_n 2, 1) := by decide +kernel
theorem dX3_take_69 : decode cX3_take 69 = .ok (.iaload, 1) := by decide +kernel
theorem dX3_take_70 : decode cX3_take 70 = .ok (.aload_n 1, 1) := by decide +kernel
theorem dX3_take_71 : decode cX3_take 71 = .ok (.getfield 51, 3) := by decide +kernel
theorem dX3_take_74 : decode cX3_take 74 = .ok (.iload_n 2, 1) := by decide +kernel
theorem dX3_take_75 : decode cX3_take 75 = .ok (.iaload, 1) := by decide +kernel
theorem dX3_take_76 : decode cX3_take 76 = .ok (.invokestatic 54, 3) := by decide +kernel
theorem dX3_take_79 : decode cX3_take 79 = .ok (.iastore, 1) := by decide +kernel
theorem dX3_take_80 : decode cX3_take 80 = .ok (.iinc 2 1, 3) := by decide +kernel
theorem dX3_take_83 : decode cX3_take 83 = .ok (.goto (-49), 3) := by decide +kernel
theorem dX3_take_86 : decode cX3_take 86 = .ok (.return_, 1) := by decide +kernel
theorem dX3_countWith_0 : decode cX3_countWith 0 = .ok (.iload_n 1, 1) := by decide +kernel
theorem dX3_countWith_1 : decode cX3_countWith 1 = .ok (.ifCond .lt 9, 3) := by decide +kernel
theorem dX3_countWith_4 : decode cX3_countWith 4 = .ok (.iload_n 1, 1) := by decide +kernel
theorem dX3_countWith_5 : decode cX3_countWith 5 = .ok (.bipush 8, 2) := by decide +kernel
theorem dX3_countWith_7 : decode cX3_countWith 7 = .ok (.if_icmp .lt 5, 3) := by decide +kernel
theorem dX3_countWith_10 : decode cX3_countWith 10 = .ok (.iconst 0, 1) := by decide +kernel
theorem dX3_countWith_11 : decode cX3_countWith 11 = .ok (.ireturn, 1) := by decide +kernel
theorem dX3_countWith_12 : decode cX3_countWith 12 = .ok (.aload_n 0, 1) := by decide +kernel
theorem dX3_countWith_13 : decode cX3_countWith 13 = .ok (.getfield 9, 3) := by decide +kernel
theorem dX3_countWith_16 : decode cX3_countWith 16 = .ok (.iload_n 1, 1) := by decide +kernel
theorem dX3_countWith_17 : decode cX3_countWith 17 = .ok (.iaload, 1) := by decide +kernel
theorem dX3_countWith_18 : decode cX3_countWith 18 = .ok (.istore 4, 2) := by decide +kernel
theorem dX3_countWith_20 : decode cX3_countWith 20 = .ok (.aload_n 0, 1) := by decide +kernel
theorem dX3_countWith_21 : decode cX3_countWith 21 = .ok (.getfield 9, 3) := by decide +kernel
theorem dX3_countWith_24 : decode cX3_countWith 24 = .ok (.iload_n 1, 1) := by decide +kernel
theorem dX3_countWith_25 : decode cX3_countWith 25 = .ok (.iload_n 2, 1) := by decide +kernel
theorem dX3_countWith_26 : decode cX3_countWith 26 = .ok (.iastore, 1) := by decide +kernel
theorem dX3_countWith_27 : decode cX3_countWith 27 = .ok (.aload_n 0, 1) := by decide +kernel
theorem dX3_countWith_28 : decode cX3_countWith 28 = .ok (.iload_n 3, 1) := by decide +kernel
theorem dX3_countWith_29 : decode cX3_countWith 29 = .ok (.aconst_null, 1) := by decide +kernel
theorem dX3_countWith_30 : decode cX3_countWith 30 = .ok (.invokevirtual 60, 3) := by decide +kernel
theorem dX3_countWith_33 : decode cX3_countWith 33 = .ok (.aload_n 0, 1) := by decide +kernel
theorem dX3_countWith_34 : decode cX3_countWith 34 = .ok (.getfield 9, 3) := by decide +kernel
theorem dX3_countWith_37 : decode cX3_countWith 37 = .ok (.iload_n 1, 1) := by decide +kernel
theorem dX3_countWith_38 : decode cX3_countWith 38 = .ok (.iload 4, 2) := by decide +kernel
theorem dX3_countWith_40 : decode cX3_countWith 40 = .ok (.iastore, 1) := by decide +kernel
theorem dX3_countWith_41 : decode cX3_countWith 41 = .ok (.aload_n 0, 1) := by decide +kernel
theorem dX3_countWith_42 : decode cX3_countWith 42 = .ok (.getfield 64, 3) := by decide +kernel
theorem dX3_countWith_45 : decode cX3_countWith 45 = .ok (.ireturn, 1) := by decide +kernel
theorem dX3_run_0 : decode cX3_run 0 = .ok (.aload_n 0, 1) := by decide +kernel
theorem dX3_run_1 : decode cX3_run 1 = .ok (.iload_n 1, 1) := by decide +kernel
theorem dX3_run_2 : decode cX3_run 2 = .ok (.putfield 67, 3) := by decide +kernel
theorem dX3_run_5 : decode cX3_run 5 = .ok (.aload_n 0, 1) := by decide +kernel
theorem dX3_run_6 : decode cX3_run 6 = .ok (.iconst 0, 1) := by decide +kernel
theorem dX3_run_7 : decode cX3_run 7 = .ok (.putfield 64, 3) := by decide +kernel
theorem dX3_run_10 : decode cX3_run 10 = .ok (.iconst 0, 1) := by decide +kernel
theorem dX3_run_11 : decode cX3_run 11 = .ok (.istore_n 3, 1) := by decide +kernel
theorem dX3_run_12 : decode cX3_run 12 = .ok (.iload_n 3, 1) := by decide +kernel
theorem dX3_run_13 : decode cX3_run 13 = .ok (.aload_n 0, 1) := by decide +kernel
theorem dX3_run_14 : decode cX3_run 14 = .ok (.getfield 28, 3) := by decide +kernel
theorem dX3_run_17 : decode cX3_run 17 = .ok (.if_icmp .ge 34, 3) := by decide +kernel
theorem dX3_run_20 : decode cX3_run 20 = .ok (.iconst 0, 1) := by decide +kernel
theorem dX3_run_21 : decode cX3_run 21 = .ok (.istore 4, 2) := by decide +kernel
theorem dX3_run_23 : decode cX3_run 23 = .ok (.iload 4, 2) := by decide +kernel
theorem dX3_run_25 : decode cX3_run 25 = .ok (.aload_n 0, 1) := by decide +kernel
theorem dX3_run_26 : decode cX3_run 26 = .ok (.getfield 24, 3) := by decide +kernel
theorem dX3_run_29 : decode cX3_run 29 = .ok (.if_icmp .ge 16, 3) := by decide +kernel
theorem dX3_run_32 : decode cX3_run 32 = .ok (.aload_n 0, 1) := by decide +kernel
theorem dX3_run_33 : decode cX3_run 33 = .ok (.iload 4, 2) := by decide +kernel
theorem dX3_run_35 : decode cX3_run 35 = .ok (.iload_n 3, 1) := by decide +kernel
theorem dX3_run_36 : decode cX3_run 36 = .ok (.invokevirtual 70, 3) := by decide +kernel
theorem dX3_run_39 : decode cX3_run 39 = .ok (.iinc 4 1, 3) := by decide +kernel
theorem dX3_run_42 : decode cX3_run 42 = .ok (.goto (-19), 3) := by decide +kernel
theorem dX3_run_45 : decode cX3_run 45 = .ok (.iinc 3 1, 3) := by decide +kernel
theorem dX3_run_48 : decode cX3_run 48 = .ok (.goto (-36), 3) := by decide +kernel
theorem dX3_run_51 : decode cX3_run 51 = .ok (.aload_n 0, 1) := by decide +kernel
theorem dX3_run_52 : decode cX3_run 52 = .ok (.aload_n 0, 1) := by decide +kernel
theorem dX3_run_53 : decode cX3_run 53 = .ok (.getfield 24, 3) := by decide +kernel
theorem dX3_run_56 : decode cX3_run 56 = .ok (.iconst 1, 1) := by decide +kernel
theorem dX3_run_57 : decode cX3_run 57 = .ok (.isub, 1) := by decide +kernel
theorem dX3_run_58 : decode cX3_run 58 = .ok (.iconst 0, 1) := by decide +kernel
theorem dX3_run_59 : decode cX3_run 59 = .ok (.iconst 0, 1) := by decide +kernel
theorem dX3_run_60 : decode cX3_run 60 = .ok (.aload_n 2, 1) := by decide +kernel
theorem dX3_run_61 : decode cX3_run 61 = .ok (.invokevirtual 74, 3) := by decide +kernel
theorem dX3_run_64 : decode cX3_run 64 = .ok (.return_, 1) := by decide +kernel
theorem dX3_openColumn_0 : decode cX3_openColumn 0 = .ok (.aload_n 0, 1) := by decide +kernel
theorem dX3_openColumn_1 : decode cX3_openColumn 1 = .ok (.getfield 24, 3) := by decide +kernel
theorem dX3_openColumn_4 : decode cX3_openColumn 4 = .ok (.iload_n 2, 1) := by decide +kernel
theorem dX3_openColumn_5 : decode cX3_openColumn 5 = .ok (.iadd, 1) := by decide +kernel
theorem dX3_openColumn_6 : decode cX3_openColumn 6 = .ok (.istore_n 3, 1) := by decide +kernel
theorem dX3_openColumn_7 : decode cX3_openColumn 7 = .ok (.iload_n 1, 1) := by decide +kernel
theorem dX3_openColumn_8 : decode cX3_openColumn 8 = .ok (.iconst 4, 1) := by decide +kernel
theorem dX3_openColumn_9 : decode cX3_openColumn 9 = .ok (.imul, 1) := by decide +kernel
theorem dX3_openColumn_10 : decode cX3_openColumn 10 = .ok (.iload_n 2, 1) := by decide +kernel
theorem dX3_openColumn_11 : decode cX3_openColumn 11 = .ok (.iadd, 1) := by decide +kernel
theorem dX3_openColumn_12 : decode cX3_openColumn 12 = .ok (.istore 4, 2) := by decide +kernel
theorem dX3_openColumn_14 : decode cX3_openColumn 14 = .ok (.iload_n 3, 1) := by decide +kernel
theorem dX3_openColumn_15 : decode cX3_openColumn 15 = .ok (.bipush 8, 2) := by decide +kernel
theorem dX3_openColumn_17 : decode cX3_openColumn 17 = .ok (.if_icmp .ge 10, 3) := by decide +kernel
theorem dX3_openColumn_20 : decode cX3_openColumn 20 = .ok (.iload 4, 2) := by decide +kernel
theorem dX3_openColumn_22 : decode cX3_openColumn 22 = .ok (.bipush 16, 2) := by decide +kernel
theorem dX3_openColumn_24 : decode cX3_openColumn 24 = .ok (.if_icmp .lt 4, 3) := by decide +kernel
theorem dX3_openColumn_27 : decode cX3_openColumn 27 = .ok (.return_, 1) := by decide +kernel
theorem dX3_openColumn_28 : decode cX3_openColumn 28 = .ok (.iconst 0, 1) := by decide +kernel
theorem dX3_openColumn_29 : decode cX3_openColumn 29 = .ok (.istore 5, 2) := by decide +kernel
theorem dX3_openColumn_31 : decode cX3_openColumn 31 = .ok (.iconst 0, 1) := by decide +kernel
theorem dX3_openColumn_32 : decode cX3_openColumn 32 = .ok (.istore 6, 2) := by decide +kernel
theorem dX3_openColumn_34 : decode cX3_openColumn 34 = .ok (.iload 6, 2) := by decide +kernel
theorem dX3_openColumn_36 : decode cX3_openColumn 36 = .ok (.iconst 1, 1) := by decide +kernel
theorem dX3_openColumn_37 : decode cX3_openColumn 37 = .ok (.aload_n 0, 1) := by decide +kernel
theorem dX3_openColumn_38 : decode cX3_openColumn 38 = .ok (.getfield 24, 3) := by decide +kernel
theorem dX3_openColumn_41 : decode cX3_openColumn 41 = .ok (.ishl, 1) := by decide +kernel
theorem dX3_openColumn_42 : decode cX3_openColumn 42 = .ok (.if_icmp .ge 36, 3) := by decide +kernel
theorem dX3_openColumn_45 : decode cX3_openColumn 45 = .ok (.aload_n 0, 1) := by decide +kernel
theorem dX3_openColumn_46 : decode cX3_openColumn 46 = .ok (.getfield 9, 3) := by decide +kernel
theorem dX3_openColumn_49 : decode cX3_openColumn 49 = .ok (.iload_n 3, 1) := by decide +kernel
theorem dX3_openColumn_50 : decode cX3_openColumn 50 = .ok (.iaload, 1) := by decide +kernel
theorem dX3_openColumn_51 : decode cX3_openColumn 51 = .ok (.iload 6, 2) := by decide +kernel
theorem dX3_openColumn_53 : decode cX3_openColumn 53 = .ok (.ishr, 1) := by decide +kernel
theorem dX3_openColumn_54 : decode cX3_openColumn 54 = .ok (.iconst 1, 1) := by decide +kernel
theorem dX3_openColumn_55 : decode cX3_openColumn 55 = .ok (.iand, 1) := by decide +kernel
theorem dX3_openColumn_56 : decode cX3_openColumn 56 = .ok (.ifCond .eq 16, 3) := by decide +kernel
theorem dX3_openColumn_59 : decode cX3_openColumn 59 = .ok (.iload 5, 2) := by decide +kernel
theorem dX3_openColumn_61 : decode cX3_openColumn 61 = .ok (.iconst 1, 1) := by decide +kernel
theorem dX3_openColumn_62 : decode cX3_openColumn 62 = .ok (.iload 6, 2) := by decide +kernel
theorem dX3_openColumn_64 : decode cX3_openColumn 64 = .ok (.iload_n 1, 1) := by decide +kernel
theorem dX3_openColumn_65 : decode cX3_openColumn 65 = .ok (.ishr, 1) := by decide +kernel
theorem dX3_openColumn_66 : decode cX3_openColumn 66 = .ok (.iload_n 1, 1) := by decide +kernel
theorem dX3_openColumn_67 : decode cX3_openColumn 67 = .ok (.ishl, 1) := by decide +kernel
theorem dX3_openColumn_68 : decode cX3_openColumn 68 = .ok (.ishl, 1) := by decide +kernel
theorem dX3_openColumn_69 : decode cX3_openColumn 69 = .ok (.ior, 1) := by decide +kernel
theorem dX3_openColumn_70 : decode cX3_openColumn 70 = .ok (.istore 5, 2) := by decide +kernel
theorem dX3_openColumn_72 : decode cX3_openColumn 72 = .ok (.iinc 6 1, 3) := by decide +kernel
theorem dX3_openColumn_75 : decode cX3_openColumn 75 = .ok (.goto (-41), 3) := by decide +kernel
theorem dX3_openColumn_78 : decode cX3_openColumn 78 = .ok (.aload_n 0, 1) := by decide +kernel
theorem dX3_openColumn_79 : decode cX3_openColumn 79 = .ok (.getfield 15, 3) := by decide +kernel
theorem dX3_openColumn_82 : decode cX3_openColumn 82 = .ok (.iload 4, 2) := by decide +kernel
theorem dX3_openColumn_84 : decode cX3_openColumn 84 = .ok (.iload 5, 2) := by decide +kernel
theorem dX3_openColumn_86 : decode cX3_openColumn 86 = .ok (.iastore, 1) := by decide +kernel
theorem dX3_openColumn_87 : decode cX3_openColumn 87 = .ok (.return_, 1) := by decide +kernel
theorem dX3_lay_0 : decode cX3_lay 0 = .ok (.iload_n 1, 1) := by decide +kernel
theorem dX3_lay_1 : decode cX3_lay 1 = .ok (.iconst 4, 1) := by decide +kernel
theorem dX3_lay_2 : decode cX3_lay 2 = .ok (.if_icmp .lt 4, 3) := by decide +kernel
theorem dX3_lay_5 : decode cX3_lay 5 = .ok (.return_, 1) := by decide +kernel
theorem dX3_lay_6 : decode cX3_lay 6 = .ok (.iload_n 1, 1) := by decide +kernel
theorem dX3_lay_7 : decode cX3_lay 7 = .ok (.ifCond .ge 25, 3) := by decide +kernel
theorem dX3_lay_10 : decode cX3_lay 10 = .ok (.aload_n 0, 1) := by decide +kernel
theorem dX3_lay_11 : decode cX3_lay 11 = .ok (.dup, 1) := by decide +kernel
theorem dX3_lay_12 : decode cX3_lay 12 = .ok (.getfield 64, 3) := by decide +kernel
theorem dX3_lay_15 : decode cX3_lay 15 = .ok (.iconst 1, 1) := by decide +kernel
theorem dX3_lay_16 : decode cX3_lay 16 = .ok (.iadd, 1) := by decide +kernel
theorem dX3_lay_17 : decode cX3_lay 17 = .ok (.putfield 64, 3) := by decide +kernel
theorem dX3_lay_20 : decode cX3_lay 20 = .ok (.aload 4, 2) := by decide +kernel
theorem dX3_lay_22 : decode cX3_lay 22 = .ok (.ifnull 9, 3) := by decide +kernel
theorem dX3_lay_25 : decode cX3_lay 25 = .ok (.aload 4, 2) := by decide +kernel
theorem dX3_lay_27 : decode cX3_lay 27 = .ok (.iload_n 2, 1) := by decide +kernel
theorem dX3_lay_28 : decode cX3_lay 28 = .ok (.invokevirtual 78, 3) := by decide +kernel
theorem dX3_lay_31 : decode cX3_lay 31 = .ok (.return_, 1) := by decide +kernel
theorem dX3_lay_32 : decode cX3_lay 32 = .ok (.iconst 1, 1) := by decide +kernel
theorem dX3_lay_33 : decode cX3_lay 33 = .ok (.aload_n 0, 1) := by decide +kernel
theorem dX3_lay_34 : decode cX3_lay 34 = .ok (.getfield 28, 3) := by decide +kernel
theorem dX3_lay_37 : decode cX3_lay 37 = .ok (.ishl, 1) := by decide +kernel
theorem dX3_lay_38 : decode cX3_lay 38 = .ok (.iconst 1, 1) := by decide +kernel
theorem dX3_lay_39 : decode cX3_lay 39 = .ok (.isub, 1) := by decide +kernel
theorem dX3_lay_40 : decode cX3_lay 40 = .ok (.istore 5, 2) := by decide +kernel
theorem dX3_lay_42 : decode cX3_lay 42 = .ok (.aload_n 0, 1) := by decide +kernel
theorem dX3_lay_43 : decode cX3_lay 43 = .ok (.getfield 32, 3) := by decide +kernel
theorem dX3_lay_46 : decode cX3_lay 46 = .ok (.iload_n 1, 1) := by decide +kernel
theorem dX3_lay_47 : decode cX3_lay 47 = .ok (.aload_n 0, 1) := by decide +kernel
theorem dX3_lay_48 : decode cX3_lay 48 = .ok (.getfield 28, 3) := by decide +kernel
theorem dX3_lay_51 : decode cX3_lay 51 = .ok (.imul, 1) := by decide +kernel
theorem dX3_lay_52 : decode cX3_lay 52 = .ok (.ishr, 1) := by decide +kernel
theorem dX3_lay_53 : decode cX3_lay 53 = .ok (.iload 5, 2) := by decide +kernel
theorem dX3_lay_55 : decode cX3_lay 55 = .ok (.iand, 1) := by decide +kernel
theorem dX3_lay_56 : decode cX3_lay 56 = .ok (.istore 6, 2) := by decide +kernel
theorem dX3_lay_58 : decode cX3_lay 58 = .ok (.aload_n 0, 1) := by decide +kernel
theorem dX3_lay_59 : decode cX3_lay 59 = .ok (.getfield 36, 3) := by decide +kernel
theorem dX3_lay_62 : decode cX3_lay 62 = .ok (.iload_n 1, 1) := by decide +kernel
theorem dX3_lay_63 : decode cX3_lay 63 = .ok (.aload_n 0, 1) := by decide +kernel
theorem dX3_lay_64 : decode cX3_lay 64 = .ok (.getfield 28, 3) := by decide +kernel
theorem dX3_lay_67 : decode cX3_lay 67 = .ok (.imul, 1) := by decide +kernel
theorem dX3_lay_68 : decode cX3_lay 68 = .ok (.ishr, 1) := by decide +kernel
theorem dX3_lay_69 : decode cX3_lay 69 = .ok (.iload 5, 2) := by decide +kernel
theorem dX3_lay_71 : decode cX3_lay 71 = .ok (.iand, 1) := by decide +kernel
theorem dX3_lay_72 : decode cX3_lay 72 = .ok (.istore 7, 2) := by decide +kernel
theorem dX3_lay_74 : decode cX3_lay 74 = .ok (.iconst 0, 1) := by decide +kernel
theorem dX3_lay_75 : decode cX3_lay 75 = .ok (.istore 8, 2) := by decide +kernel
theorem dX3_lay_77 : decode cX3_lay 77 = .ok (.iload 8, 2) := by decide +kernel
theorem dX3_lay_79 : decode cX3_lay 79 = .ok (.iload 5, 2) := by decide +kernel
theorem dX3_lay_81 : decode cX3_lay 81 = .ok (.if_icmp .gt 101, 3) := by decide +kernel
theorem dX3_lay_84 : decode cX3_lay 84 = .ok (.aload_n 0, 1) := by decide +kernel
theorem dX3_lay_85 : decode cX3_lay 85 = .ok (.getfield 64, 3) := by decide +kernel
theorem dX3_lay_88 : decode cX3_lay 88 = .ok (.aload_n 0, 1) := by decide +kernel
theorem dX3_lay_89 : decode cX3_lay 89 = .ok (.getfield 67, 3) := by decide +kernel
theorem dX3_lay_92 : decode cX3_lay 92 = .ok (.if_icmp .ge 90, 3) := by decide +kernel
theorem dX3_lay_95 : decode cX3_lay 95 = .ok (.aload_n 0, 1) := by decide +kernel
theorem dX3_lay_96 : decode cX3_lay 96 = .ok (.getfield 9, 3) := by decide +kernel
theorem dX3_lay_99 : decode cX3_lay 99 = .ok (.iload_n 1, 1) := by decide +kernel
theorem dX3_lay_100 : decode cX3_lay 100 = .ok (.iaload, 1) := by decide +kernel
theorem dX3_lay_101 : decode cX3_lay 101 = .ok (.iload 8, 2) := by decide +kernel
theorem dX3_lay_103 : decode cX3_lay 103 = .ok (.ishr, 1) := by decide +kernel
theorem dX3_lay_104 : decode cX3_lay 104 = .ok (.iconst 1, 1) := by decide +kernel
theorem dX3_lay_105 : decode cX3_lay 105 = .ok (.iand, 1) := by decide +kernel
theorem dX3_lay_106 : decode cX3_lay 106 = .ok (.ifCond .ne 6, 3) := by decide +kernel
theorem dX3_lay_109 : decode cX3_lay 109 = .ok (.goto 67, 3) := by decide +kernel
theorem dX3_lay_112 : decode cX3_lay 112 = .ok (.iload 8, 2) := by decide +kernel
theorem dX3_lay_114 : decode cX3_lay 114 = .ok (.iload 6, 2) := by decide +kernel
theorem dX3_lay_116 : decode cX3_lay 116 = .ok (.iand, 1) := by decide +kernel
theorem dX3_lay_117 : decode cX3_lay 117 = .ok (.iload 6, 2) := by decide +kernel
theorem dX3_lay_119 : decode cX3_lay 119 = .ok (.if_icmp .ne 57, 3) := by decide +kernel
theorem dX3_lay_122 : decode cX3_lay 122 = .ok (.iload 8, 2) := by decide +kernel
theorem dX3_lay_124 : decode cX3_lay 124 = .ok (.iload 7, 2) := by decide +kernel
theorem dX3_lay_126 : decode cX3_lay 126 = .ok (.iand, 1) := by decide +kernel
theorem dX3_lay_127 : decode cX3_lay 127 = .ok (.ifCond .eq 6, 3) := by decide +kernel
theorem dX3_lay_130 : decode cX3_lay 130 = .ok (.goto 46, 3) := by decide +kernel
theorem dX3_lay_133 : decode cX3_lay 133 = .ok (.iload_n 3, 1) := by decide +kernel
theorem dX3_lay_134 : decode cX3_lay 134 = .ok (.iload 8, 2) := by decide +kernel
theorem dX3_lay_136 : decode cX3_lay 136 = .ok (.invokestatic 84, 3) := by decide +kernel
theorem dX3_lay_139 : decode cX3_lay 139 = .ok (.iload_n 1, 1) := by decide +kernel
theorem dX3_lay_140 : decode cX3_lay 140 = .ok (.ishl, 1) := by decide +kernel
theorem dX3_lay_141 : decode cX3_lay 141 = .ok (.ior, 1) := by decide +kernel
theorem dX3_lay_142 : decode cX3_lay 142 = .ok (.istore 9, 2) := by decide +kernel
theorem dX3_lay_144 : decode cX3_lay 144 = .ok (.aload_n 0, 1) := by decide +kernel
theorem dX3_lay_145 : decode cX3_lay 145 = .ok (.iload_n 1, 1) := by decide +kernel
theorem dX3_lay_146 : decode cX3_lay 146 = .ok (.iload 9, 2) := by decide +kernel
theorem dX3_lay_148 : decode cX3_lay 148 = .ok (.invokevirtual 87, 3) := by decide +kernel
theorem dX3_lay_151 : decode cX3_lay 151 = .ok (.ifCond .eq 25, 3) := by decide +kernel
theorem dX3_lay_154 : decode cX3_lay 154 = .ok (.aload_n 0, 1) := by decide +kernel
theorem dX3_lay_155 : decode cX3_lay 155 = .ok (.iload_n 1, 1) := by decide +kernel
theorem dX3_lay_156 : decode cX3_lay 156 = .ok (.iconst 1, 1) := by decide +kernel
theorem dX3_lay_157 : decode cX3_lay 157 = .ok (.isub, 1) := by decide +kernel
theorem dX3_lay_158 : decode cX3_lay 158 = .ok (.iload_n 2, 1) := by decide +kernel
theorem dX3_lay_159 : decode cX3_lay 159 = .ok (.iload 8, 2) := by decide +kernel
theorem dX3_lay_161 : decode cX3_lay 161 = .ok (.iload_n 1, 1) := by decide +kernel
theorem dX3_lay_162 : decode cX3_lay 162 = .ok (.aload_n 0, 1) := by decide +kernel
theorem dX3_lay_163 : decode cX3_lay 163 = .ok (.getfield 28, 3) := by decide +kernel
theorem dX3_lay_166 : decode cX3_lay 166 = .ok (.imul, 1) := by decide +kernel
theorem dX3_lay_167 : decode cX3_lay 167 = .ok (.ishl, 1) := by decide +kernel
theorem dX3_lay_168 : decode cX3_lay 168 = .ok (.ior, 1) := by decide +kernel
theorem dX3_lay_169 : decode cX3_lay 169 = .ok (.iload 9, 2) := by decide +kernel
theorem dX3_lay_171 : decode cX3_lay 171 = .ok (.aload 4, 2) := by decide +kernel
theorem dX3_lay_173 : decode cX3_lay 173 = .ok (.invokevirtual 74, 3) := by decide +kernel
theorem dX3_lay_176 : decode cX3_lay 176 = .ok (.iinc 8 1, 3) := by decide +kernel
theorem dX3_lay_179 : decode cX3_lay 179 = .ok (.goto (-102), 3) := by decide +kernel
theorem dX3_lay_182 : decode cX3_lay 182 = .ok (.return_, 1) := by decide +kernel
theorem dX3_spread_0 : decode cX3_spread 0 = .ok (.iload_n 0, 1) := by decide +kernel
theorem dX3_spread_1 : decode cX3_spread 1 = .ok (.iconst 1, 1) := by decide +kernel
theorem dX3_spread_2 : decode cX3_spread 2 = .ok (.iand, 1) := by decide +kernel
theorem dX3_spread_3 : decode cX3_spread 3 = .ok (.iload_n 0, 1) := by decide +kernel
theorem dX3_spread_4 : decode cX3_spread 4 = .ok (.iconst 2, 1) := by decide +kernel
theorem dX3_spread_5 : decode cX3_spread 5 = .ok (.iand, 1) := by decide +kernel
theorem dX3_spread_6 : decode cX3_spread 6 = .ok (.iconst 3, 1) := by decide +kernel
theorem dX3_spread_7 : decode cX3_spread 7 = .ok (.ishl, 1) := by decide +kernel
theorem dX3_spread_8 : decode cX3_spread 8 = .ok (.ior, 1) := by decide +kernel
theorem dX3_spread_9 : decode cX3_spread 9 = .ok (.iload_n 0, 1) := by decide +kernel
theorem dX3_spread_10 : decode cX3_spread 10 = .ok (.iconst 4, 1) := by decide +kernel
theorem dX3_spread_11 : decode cX3_spread 11 = .ok (.iand, 1) := by decide +kernel
theorem dX3_spread_12 : decode cX3_spread 12 = .ok (.bipush 6, 2) := by decide +kernel
theorem dX3_spread_14 : decode cX3_spread 14 = .ok (.ishl, 1) := by decide +kernel
theorem dX3_spread_15 : decode cX3_spread 15 = .ok (.ior, 1) := by decide +kernel
theorem dX3_spread_16 : decode cX3_spread 16 = .ok (.iload_n 0, 1) := by decide +kernel
theorem dX3_spread_17 : decode cX3_spread 17 = .ok (.bipush 8, 2) := by decide +kernel
theorem dX3_spread_19 : decode cX3_spread 19 = .ok (.iand, 1) := by decide +kernel
theorem dX3_spread_20 : decode cX3_spread 20 = .ok (.bipush 9, 2) := by decide +kernel
theorem dX3_spread_22 : decode cX3_spread 22 = .ok (.ishl, 1) := by decide +kernel
theorem dX3_spread_23 : decode cX3_spread 23 = .ok (.ior, 1) := by decide +kernel
theorem dX3_spread_24 : decode cX3_spread 24 = .ok (.ireturn, 1) := by decide +kernel
theorem dX3_canGoOn_0 : decode cX3_canGoOn 0 = .ok (.iconst 0, 1) := by decide +kernel
theorem dX3_canGoOn_1 : decode cX3_canGoOn 1 = .ok (.istore_n 3, 1) := by decide +kernel
theorem dX3_canGoOn_2 : decode cX3_canGoOn 2 = .ok (.iload_n 3, 1) := by decide +kernel
theorem dX3_canGoOn_3 : decode cX3_canGoOn 3 = .ok (.aload_n 0, 1) := by decide +kernel
theorem dX3_canGoOn_4 : decode cX3_canGoOn 4 = .ok (.getfield 28, 3) := by decide +kernel
theorem dX3_canGoOn_7 : decode cX3_canGoOn 7 = .ok (.if_icmp .ge 55, 3) := by decide +kernel
theorem dX3_canGoOn_10 : decode cX3_canGoOn 10 = .ok (.iload_n 3, 1) := by decide +kernel
theorem dX3_canGoOn_11 : decode cX3_canGoOn 11 = .ok (.iconst 4, 1) := by decide +kernel
theorem dX3_canGoOn_12 : decode cX3_canGoOn 12 = .ok (.if_icmp .ge 50, 3) := by decide +kernel
theorem dX3_canGoOn_15 : decode cX3_canGoOn 15 = .ok (.iload_n 2, 1) := by decide +kernel
theorem dX3_canGoOn_16 : decode cX3_canGoOn 16 = .ok (.iload_n 3, 1) := by decide +kernel
theorem dX3_canGoOn_17 : decode cX3_canGoOn 17 = .ok (.iconst 4, 1) := by decide +kernel
theorem dX3_canGoOn_18 : decode cX3_canGoOn 18 = .ok (.imul, 1) := by decide +kernel
theorem dX3_canGoOn_19 : decode cX3_canGoOn 19 = .ok (.ishr, 1) := by decide +kernel
theorem dX3_canGoOn_20 : decode cX3_canGoOn 20 = .ok (.bipush 15, 2) := by decide +kernel
theorem dX3_canGoOn_22 : decode cX3_canGoOn 22 = .ok (.iand, 1) := by decide +kernel
theorem dX3_canGoOn_23 : decode cX3_canGoOn 23 = .ok (.istore 4, 2) := by decide +kernel
theorem dX3_canGoOn_25 : decode cX3_canGoOn 25 = .ok (.iload_n 1, 1) := by decide +kernel
theorem dX3_canGoOn_26 : decode cX3_canGoOn 26 = .ok (.iconst 4, 1) := by decide +kernel
theorem dX3_canGoOn_27 : decode cX3_canGoOn 27 = .ok (.imul, 1) := by decide +kernel
theorem dX3_canGoOn_28 : decode cX3_canGoOn 28 = .ok (.iload_n 3, 1) := by decide +kernel
theorem dX3_canGoOn_29 : decode cX3_canGoOn 29 = .ok (.iadd, 1) := by decide +kernel
theorem dX3_canGoOn_30 : decode cX3_canGoOn 30 = .ok (.istore 5, 2) := by decide +kernel
theorem dX3_canGoOn_32 : decode cX3_canGoOn 32 = .ok (.iload 5, 2) := by decide +kernel
theorem dX3_canGoOn_34 : decode cX3_canGoOn 34 = .ok (.bipush 16, 2) := by decide +kernel
theorem dX3_canGoOn_36 : decode cX3_canGoOn 36 = .ok (.if_icmp .ge 18, 3) := by decide +kernel
theorem dX3_canGoOn_39 : decode cX3_canGoOn 39 = .ok (.aload_n 0, 1) := by decide +kernel
theorem dX3_canGoOn_40 : decode cX3_canGoOn 40 = .ok (.getfield 15, 3) := by decide +kernel
theorem dX3_canGoOn_43 : decode cX3_canGoOn 43 = .ok (.iload 5, 2) := by decide +kernel
theorem dX3_canGoOn_45 : decode cX3_canGoOn 45 = .ok (.iaload, 1) := by decide +kernel
theorem dX3_canGoOn_46 : decode cX3_canGoOn 46 = .ok (.iload 4, 2) := by decide +kernel
theorem dX3_canGoOn_48 : decode cX3_canGoOn 48 = .ok (.ishr, 1) := by decide +kernel
theorem dX3_canGoOn_49 : decode cX3_canGoOn 49 = .ok (.iconst 1, 1) := by decide +kernel
theorem dX3_canGoOn_50 : decode cX3_canGoOn 50 = .ok (.iand, 1) := by decide +kernel
theorem dX3_canGoOn_51 : decode cX3_canGoOn 51 = .ok (.ifCond .ne 5, 3) := by decide +kernel
theorem dX3_canGoOn_54 : decode cX3_canGoOn 54 = .ok (.iconst 0, 1) := by decide +kernel
theorem dX3_canGoOn_55 : decode cX3_canGoOn 55 = .ok (.ireturn, 1) := by decide +kernel
theorem dX3_canGoOn_56 : decode cX3_canGoOn 56 = .ok (.iinc 3 1, 3) := by decide +kernel
theorem dX3_canGoOn_59 : decode cX3_canGoOn 59 = .ok (.goto (-57), 3) := by decide +kernel
theorem dX3_canGoOn_62 : decode cX3_canGoOn 62 = .ok (.iconst 1, 1) := by decide +kernel
theorem dX3_canGoOn_63 : decode cX3_canGoOn 63 = .ok (.ireturn, 1) := by decide +kernel
theorem dX4_init_0 : decode cX4_init 0 = .ok (.aload_n 0, 1) := by decide +kernel
theorem dX4_init_1 : decode cX4_init 1 = .ok (.invokespecial 3, 3) := by decide +kernel
theorem dX4_init_4 : decode cX4_init 4 = .ok (.aload_n 0, 1) := by decide +kernel
theorem dX4_init_5 : decode cX4_init 5 = .ok (.bipush 8, 2) := by decide +kernel
theorem dX4_init_7 : decode cX4_init 7 = .ok (.newarray .int, 2) := by decide +kernel
theorem dX4_init_9 : decode cX4_init 9 = .ok (.putfield 9, 3) := by decide +kernel
theorem dX4_init_12 : decode cX4_init 12 = .ok (.aload_n 0, 1) := by decide +kernel
theorem dX4_init_13 : decode cX4_init 13 = .ok (.bipush 8, 2) := by decide +kernel
theorem dX4_init_15 : decode cX4_init 15 = .ok (.newarray .int, 2) := by decide +kernel
theorem dX4_init_17 : decode cX4_init 17 = .ok (.putfield 15, 3) := by decide +kernel
theorem dX4_init_20 : decode cX4_init 20 = .ok (.aload_n 0, 1) := by decide +kernel
theorem dX4_init_21 : decode cX4_init 21 = .ok (.bipush 8, 2) := by decide +kernel
theorem dX4_init_23 : decode cX4_init 23 = .ok (.newarray .int, 2) := by decide +kernel
theorem dX4_init_25 : decode cX4_init 25 = .ok (.putfield 18, 3) := by decide +kernel
theorem dX4_init_28 : decode cX4_init 28 = .ok (.aload_n 0, 1) := by decide +kernel
theorem dX4_init_29 : decode cX4_init 29 = .ok (.bipush 6, 2) := by decide +kernel
theorem dX4_init_31 : decode cX4_init 31 = .ok (.newarray .int, 2) := by decide +kernel
theorem dX4_init_33 : decode cX4_init 33 = .ok (.putfield 21, 3) := by decide +kernel
theorem dX4_init_36 : decode cX4_init 36 = .ok (.aload_n 0, 1) := by decide +kernel
theorem dX4_init_37 : decode cX4_init 37 = .ok (.bipush 6, 2) := by decide +kernel
theorem dX4_init_39 : decode cX4_init 39 = .ok (.newarray .int, 2) := by decide +kernel
theorem dX4_init_41 : decode cX4_init 41 = .ok (.putfield 24, 3) := by decide +kernel
theorem dX4_init_44 : decode cX4_init 44 = .ok (.aload_n 0, 1) := by decide +kernel
theorem dX4_init_45 : decode cX4_init 45 = .ok (.bipush 6, 2) := by decide +kernel
theorem dX4_init_47 : decode cX4_init 47 = .ok (.newarray .boolean, 2) := by decide +kernel
theorem dX4_init_49 : decode cX4_init 49 = .ok (.putfield 27, 3) := by decide +kernel
theorem dX4_init_52 : decode cX4_init 52 = .ok (.return_, 1) := by decide +kernel
theorem dX4_forgetAll_0 : decode cX4_forgetAll 0 = .ok (.aload_n 0, 1) := by decide +kernel
theorem dX4_forgetAll_1 : decode cX4_forgetAll 1 = .ok (.iconst 0, 1) := by decide +kernel
theorem dX4_forgetAll_2 : decode cX4_forgetAll 2 = .ok (.putfield 31, 3) := by decide +kernel
theorem dX4_forgetAll_5 : decode cX4_forgetAll 5 = .ok (.aload_n 0, 1) := by decide +kernel
theorem dX4_forgetAll_6 : decode cX4_forgetAll 6 = .ok (.iconst 0, 1) := by decide +kernel
theorem dX4_forgetAll_7 : decode cX4_forgetAll 7 = .ok (.putfield 35, 3) := by decide +kernel
theorem dX4_forgetAll_10 : decode cX4_forgetAll 10 = .ok (.aload_n 0, 1) := by decide +kernel
theorem dX4_forgetAll_11 : decode cX4_forgetAll 11 = .ok (.iconst 0, 1) := by decide +kernel
theorem dX4_forgetAll_12 : decode cX4_forgetAll 12 = .ok (.putfield 38, 3) := by decide +kernel
theorem dX4_forgetAll_15 : decode cX4_forgetAll 15 = .ok (.aload_n 0, 1) := by decide +kernel
theorem dX4_forgetAll_16 : decode cX4_forgetAll 16 = .ok (.invokevirtual 41, 3) := by decide +kernel
theorem dX4_forgetAll_19 : decode cX4_forgetAll 19 = .ok (.return_, 1) := by decide +kernel
theorem dX4_copyFrom_0 : decode cX4_copyFrom 0 = .ok (.aload_n 0, 1) := by decide +kernel
theorem dX4_copyFrom_1 : decode cX4_copyFrom 1 = .ok (.aload_n 1, 1) := by decide +kernel
theorem dX4_copyFrom_2 : decode cX4_copyFrom 2 = .ok (.getfield 31, 3) := by decide +kernel
theorem dX4_copyFrom_5 : decode cX4_copyFrom 5 = .ok (.putfield 31, 3) := by decide +kernel
theorem dX4_copyFrom_8 : decode cX4_copyFrom 8 = .ok (.aload_n 0, 1) := by decide +kernel
theorem dX4_copyFrom_9 : decode cX4_copyFrom 9 = .ok (.aload_n 1, 1) := by decide +kernel
theorem dX4_copyFrom_10 : decode cX4_copyFrom 10 = .ok (.getfield 35, 3) := by decide +kernel
theorem dX4_copyFrom_13 : decode cX4_copyFrom 13 = .ok (.putfield 35, 3) := by decide +kernel
theorem dX4_copyFrom_16 : decode cX4_copyFrom 16 = .ok (.aload_n 0, 1) := by decide +kernel
theorem dX4_copyFrom_17 : decode cX4_copyFrom 17 = .ok (.aload_n 1, 1) := by decide +kernel
theorem dX4_copyFrom_18 : decode cX4_copyFrom 18 = .ok (.getfield 44, 3) := by decide +kernel
theorem dX4_copyFrom_21 : decode cX4_copyFrom 21 = .ok (.putfield 44, 3) := by decide +kernel
theorem dX4_copyFrom_24 : decode cX4_copyFrom 24 = .ok (.aload_n 0, 1) := by decide +kernel
theorem dX4_copyFrom_25 : decode cX4_copyFrom 25 = .ok (.aload_n 1, 1) := by decide +kernel
theorem dX4_copyFrom_26 : decode cX4_copyFrom 26 = .ok (.getfield 47, 3) := by decide +kernel
theorem dX4_copyFrom_29 : decode cX4_copyFrom 29 = .ok (.putfield 47, 3) := by decide +kernel
theorem dX4_copyFrom_32 : decode cX4_copyFrom 32 = .ok (.aload_n 0, 1) := by decide +kernel
theorem dX4_copyFrom_33 : decode cX4_copyFrom 33 = .ok (.aload_n 1, 1) := by decide +kernel
theorem dX4_copyFrom_34 : decode cX4_copyFrom 34 = .ok (.getfield 38, 3) := by decide +kernel
theorem dX4_copyFrom_37 : decode cX4_copyFrom 37 = .ok (.putfield 38, 3) := by decide +kernel
theorem dX4_copyFrom_40 : decode cX4_copyFrom 40 = .ok (.iconst 0, 1) := by decide +kernel
theorem dX4_copyFrom_41 : decode cX4_copyFrom 41 = .ok (.istore_n 2, 1) := by decide +kernel
theorem dX4_copyFrom_42 : decode cX4_copyFrom 42 = .ok (.iload_n 2, 1) := by decide +kernel
theorem dX4_copyFrom_43 : decode cX4_copyFrom 43 = .ok (.bipush 8, 2) := by decide +kernel
theorem dX4_copyFrom_45 : decode cX4_copyFrom 45 = .ok (.if_icmp .ge 45, 3) := by decide +kernel
theorem dX4_copyFrom_48 : decode cX4_copyFrom 48 = .ok (.aload_n 0, 1) := by decide +kernel
theorem dX4_copyFrom_49 : decode cX4_copyFrom 49 = .ok (.getfield 9, 3) := by decide +kernel
theorem dX4_copyFrom_52 : decode cX4_copyFrom 52 = .ok (.iload_n 2, 1) := by decide +kernel
theorem dX4_copyFrom_53 : decode cX4_copyFrom 53 = .ok (.aload_n 1, 1) := by decide +kernel
theorem dX4_copyFrom_54 : decode cX4_copyFrom 54 = .ok (.getfield 9, 3) := by decide +kernel
theorem dX4_copyFrom_57 : decode cX4_copyFrom 57 = .ok (.iload_n 2, 1) := by decide +kernel
theorem dX4_copyFrom_58 : decode cX4_copyFrom 58 = .ok (.iaload, 1) := by decide +kernel
theorem dX4_copyFrom_59 : decode cX4_copyFrom 59 = .ok (.iastore, 1) := by decide +kernel
theorem dX4_copyFrom_60 : decode cX4_copyFrom 60 = .ok (.aload_n 0, 1) := by decide +kernel
theorem dX4_copyFrom_61 : decode cX4_copyFrom 61 = .ok (.getfield 15, 3) := by decide +kernel
theorem dX4_copyFrom_64 : decode cX4_copyFrom 64 = .ok (.iload_n 2, 1) := by decide +kernel
theorem dX4_copyFrom_65 : decode cX4_copyFrom 65 = .ok (.aload_n 1, 1) := by decide +kernel
theorem dX4_copyFrom_66 : decode cX4_copyFrom 66 = .ok (.getfield 15, 3) := by decide +kernel
theorem dX4_copyFrom_69 : decode cX4_copyFrom 69 = .ok (.iload_n 2, 1) := by decide +kernel
theorem dX4_copyFrom_70 : decode cX4_copyFrom 70 = .ok (.iaload, 1) := by decide +kernel
theorem dX4_copyFrom_71 : decode cX4_copyFrom 71 = .ok (.iastore, 1) := by decide +kernel
theorem dX4_copyFrom_72 : decode cX4_copyFrom 72 = .ok (.aload_n 0, 1) := by decide +kernel
theorem dX4_copyFrom_73 : decode cX4_copyFrom 73 = .ok (.getfield 18, 3) := by decide +kernel
theorem dX4_copyFrom_76 : decode cX4_copyFrom 76 = .ok (.iload_n 2, 1) := by decide +kernel
theorem dX4_copyFrom_77 : decode cX4_copyFrom 77 = .ok (.aload_n 1, 1) := by decide +kernel
theorem dX4_copyFrom_78 : decode cX4_copyFrom 78 = .ok (.getfield 18, 3) := by decide +kernel
theorem dX4_copyFrom_81 : decode cX4_copyFrom 81 = .ok (.iload_n 2, 1) := by decide +kernel
theorem dX4_copyFrom_82 : decode cX4_copyFrom 82 = .ok (.iaload, 1) := by decide +kernel
theorem dX4_copyFrom_83 : decode cX4_copyFrom 83 = .ok (.iastore, 1) := by decide +kernel
theorem dX4_copyFrom_84 : decode cX4_copyFrom 84 = .ok (.iinc 2 1, 3) := by decide +kernel
theorem dX4_copyFrom_87 : decode cX4_copyFrom 87 = .ok (.goto (-45), 3) := by decide +kernel
theorem dX4_copyFrom_90 : decode cX4_copyFrom 90 = .ok (.iconst 0, 1) := by decide +kernel
theorem dX4_copyFrom_91 : decode cX4_copyFrom 91 = .ok (.istore_n 2, 1) := by decide +kernel
theorem dX4_copyFrom_92 : decode cX4_copyFrom 92 = .ok (.iload_n 2, 1) := by decide +kernel
theorem dX4_copyFrom_93 : decode cX4_copyFrom 93 = .ok (.bipush 6, 2) := by decide +kernel
theorem dX4_copyFrom_95 : decode cX4_copyFrom 95 = .ok (.if_icmp .ge 45, 3) := by decide +kernel
theorem dX4_copyFrom_98 : decode cX4_copyFrom 98 = .ok (.aload_n 0, 1) := by decide +kernel
theorem dX4_copyFrom_99 : decode cX4_copyFrom 99 = .ok (.getfield 21, 3) := by decide +kernel
theorem dX4_copyFrom_102 : decode cX4_copyFrom 102 = .ok (.iload_n 2, 1) := by decide +kernel
theorem dX4_copyFrom_103 : decode cX4_copyFrom 103 = .ok (.aload_n 1, 1) := by decide +kernel
theorem dX4_copyFrom_104 : decode cX4_copyFrom 104 = .ok (.getfield 21, 3) := by decide +kernel
theorem dX4_copyFrom_107 : decode cX4_copyFrom 107 = .ok (.iload_n 2, 1) := by decide +kernel
theorem dX4_copyFrom_108 : decode cX4_copyFrom 108 = .ok (.iaload, 1) := by decide +kernel
theorem dX4_copyFrom_109 : decode cX4_copyFrom 109 = .ok (.iastore, 1) := by decide +kernel
theorem dX4_copyFrom_110 : decode cX4_copyFrom 110 = .ok (.aload_n 0, 1) := by decide +kernel
theorem dX4_copyFrom_111 : decode cX4_copyFrom 111 = .ok (.getfield 24, 3) := by decide +kernel
theorem dX4_copyFrom_114 : decode cX4_copyFrom 114 = .ok (.iload_n 2, 1) := by decide +kernel
theorem dX4_copyFrom_115 : decode cX4_copyFrom 115 = .ok (.aload_n 1, 1) := by decide +kernel
theorem dX4_copyFrom_116 : decode cX4_copyFrom 116 = .ok (.getfield 24, 3) := by decide +kernel
theorem dX4_copyFrom_119 : decode cX4_copyFrom 119 = .ok (.iload_n 2, 1) := by decide +kernel
theorem dX4_copyFrom_120 : decode cX4_copyFrom 120 = .ok (.iaload, 1) := by decide +kernel
theorem dX4_copyFrom_121 : decode cX4_copyFrom 121 = .ok (.iastore, 1) := by decide +kernel
theorem dX4_copyFrom_122 : decode cX4_copyFrom 122 = .ok (.aload_n 0, 1) := by decide +kernel
theorem dX4_copyFrom_123 : decode cX4_copyFrom 123 = .ok (.getfield 27, 3) := by decide +kernel
theorem dX4_copyFrom_126 : decode cX4_copyFrom 126 = .ok (.iload_n 2, 1) := by decide +kernel
theorem dX4_copyFrom_127 : decode cX4_copyFrom 127 = .ok (.aload_n 1, 1) := by decide +kernel
theorem dX4_copyFrom_128 : decode cX4_copyFrom 128 = .ok (.getfield 27, 3) := by decide +kernel
theorem dX4_copyFrom_131 : decode cX4_copyFrom 131 = .ok (.iload_n 2, 1) := by decide +kernel
theorem dX4_copyFrom_132 : decode cX4_copyFrom 132 = .ok (.baload, 1) := by decide +kernel
theorem dX4_copyFrom_133 : decode cX4_copyFrom 133 = .ok (.bastore, 1) := by decide +kernel
theorem dX4_copyFrom_134 : decode cX4_copyFrom 134 = .ok (.iinc 2 1, 3) := by decide +kernel
theorem dX4_copyFrom_137 : decode cX4_copyFrom 137 = .ok (.goto (-45), 3) := by decide +kernel
theorem dX4_copyFrom_140 : decode cX4_copyFrom 140 = .ok (.return_, 1) := by decide +kernel
theorem dX4_isBoard_0 : decode cX4_isBoard 0 = .ok (.aload_n 0, 1) := by decide +kernel
theorem dX4_isBoard_1 : decode cX4_isBoard 1 = .ok (.getfield 31, 3) := by decide +kernel
theorem dX4_isBoard_4 : decode cX4_isBoard 4 = .ok (.ifCond .le 7, 3) := by decide +kernel
theorem dX4_isBoard_7 : decode cX4_isBoard 7 = .ok (.iconst 1, 1) := by decide +kernel
theorem dX4_isBoard_8 : decode cX4_isBoard 8 = .ok (.goto 4, 3) := by decide +kernel
theorem dX4_isBoard_11 : decode cX4_isBoard 11 = .ok (.iconst 0, 1) := by decide +kernel
theorem dX4_isBoard_12 : decode cX4_isBoard 12 = .ok (.ireturn, 1) := by decide +kernel
theorem dX4_lines_0 : decode cX4_lines 0 = .ok (.aload_n 0, 1) := by decide +kernel
theorem dX4_lines_1 : decode cX4_lines 1 = .ok (.getfield 31, 3) := by decide +kernel
theorem dX4_lines_4 : decode cX4_lines 4 = .ok (.aload_n 0, 1) := by decide +kernel
theorem dX4_lines_5 : decode cX4_lines 5 = .ok (.getfield 35, 3) := by decide +kernel
theorem dX4_lines_8 : decode cX4_lines 8 = .ok (.iadd, 1) := by decide +kernel
theorem dX4_lines_9 : decode cX4_lines 9 = .ok (.ireturn, 1) := by decide +kernel
theorem dX4_cells_0 : decode cX4_cells 0 = .ok (.aload_n 0, 1) := by decide +kernel
theorem dX4_cells_1 : decode cX4_cells 1 = .ok (.getfield 31, 3) := by decide +kernel
theorem dX4_cells_4 : decode cX4_cells 4 = .ok (.aload_n 0, 1) := by decide +kernel
theorem dX4_cells_5 : decode cX4_cells 5 = .ok (.getfield 35, 3) := by decide +kernel
theorem dX4_cells_8 : decode cX4_cells 8 = .ok (.imul, 1) := by decide +kernel
theorem dX4_cells_9 : decode cX4_cells 9 = .ok (.ireturn, 1) := by decide +kernel
theorem dX4_hasLine_0 : decode cX4_hasLine 0 = .ok (.iload_n 1, 1) := by decide +kernel
theorem dX4_hasLine_1 : decode cX4_hasLine 1 = .ok (.ifCond .lt 21, 3) := by decide +kernel
theorem dX4_hasLine_4 : decode cX4_hasLine 4 = .ok (.iload_n 1, 1) := by decide +kernel
theorem dX4_hasLine_5 : decode cX4_hasLine 5 = .ok (.aload_n 0, 1) := by decide +kernel
theorem dX4_hasLine_6 : decode cX4_hasLine 6 = .ok (.invokevirtual 50, 3) := by decide +kernel
theorem dX4_hasLine_9 : decode cX4_hasLine 9 = .ok (.if_icmp .ge 13, 3) := by decide +kernel
theorem dX4_hasLine_12 : decode cX4_hasLine 12 = .ok (.iload_n 1, 1) := by decide +kernel
theorem dX4_hasLine_13 : decode cX4_hasLine 13 = .ok (.bipush 8, 2) := by decide +kernel
theorem dX4_hasLine_15 : decode cX4_hasLine 15 = .ok (.if_icmp .ge 7, 3) := by decide +kernel
theorem dX4_hasLine_18 : decode cX4_hasLine 18 = .ok (.iconst 1, 1) := by decide +kernel
theorem dX4_hasLine_19 : decode cX4_hasLine 19 = .ok (.goto 4, 3) := by decide +kernel
theorem dX4_hasLine_22 : decode cX4_hasLine 22 = .ok (.iconst 0, 1) := by decide +kernel
theorem dX4_hasLine_23 : decode cX4_hasLine 23 = .ok (.ireturn, 1) := by decide +kernel
theorem dX4_hasCell_0 : decode cX4_hasCell 0 = .ok (.iload_n 1, 1) := by decide +kernel
theorem dX4_hasCell_1 : decode cX4_hasCell 1 = .ok (.ifCond .lt 15, 3) := by decide +kernel
theorem dX4_hasCell_4 : decode cX4_hasCell 4 = .ok (.iload_n 1, 1) := by decide +kernel
theorem dX4_hasCell_5 : decode cX4_hasCell 5 = .ok (.aload_n 0, 1) := by decide +kernel
theorem dX4_hasCell_6 : decode cX4_hasCell 6 = .ok (.invokevirtual 54, 3) := by decide +kernel
theorem dX4_hasCell_9 : decode cX4_hasCell 9 = .ok (.if_icmp .ge 7, 3) := by decide +kernel
theorem dX4_hasCell_12 : decode cX4_hasCell 12 = .ok (.iconst 1, 1) := by decide +kernel
theorem dX4_hasCell_13 : decode cX4_hasCell 13 = .ok (.goto 4, 3) := by decide +kernel
theorem dX4_hasCell_16 : decode cX4_hasCell 16 = .ok (.iconst 0, 1) := by decide +kernel
theorem dX4_hasCell_17 : decode cX4_hasCell 17 = .ok (.ireturn, 1) := by decide +kernel
theorem dX4_length_0 : decode cX4_length 0 = .ok (.iload_n 1, 1) := by decide +kernel
theorem dX4_length_1 : decode cX4_length 1 = .ok (.aload_n 0, 1) := by decide +kernel
theorem dX4_length_2 : decode cX4_length 2 = .ok (.getfield 31, 3) := by decide +kernel
theorem dX4_length_5 : decode cX4_length 5 = .ok (.if_icmp .ge 10, 3) := by decide +kernel
theorem dX4_length_8 : decode cX4_length 8 = .ok (.aload_n 0, 1) := by decide +kernel
theorem dX4_length_9 : decode cX4_length 9 = .ok (.getfield 35, 3) := by decide +kernel
theorem dX4_length_12 : decode cX4_length 12 = .ok (.goto 7, 3) := by decide +kernel
theorem dX4_length_15 : decode cX4_length 15 = .ok (.aload_n 0, 1) := by decide +kernel
theorem dX4_length_16 : decode cX4_length 16 = .ok (.getfield 31, 3) := by decide +kernel
theorem dX4_length_19 : decode cX4_length 19 = .ok (.ireturn, 1) := by decide +kernel
theorem dX4_hasCellsOf_0 : decode cX4_hasCellsOf 0 = .ok (.iload_n 2, 1) := by decide +kernel
theorem dX4_hasCellsOf_1 : decode cX4_hasCellsOf 1 = .ok (.ifCond .lt 18, 3) := by decide +kernel
theorem dX4_hasCellsOf_4 : decode cX4_hasCellsOf 4 = .ok (.iload_n 2, 1) := by decide +kernel
theorem dX4_hasCellsOf_5 : decode cX4_hasCellsOf 5 = .ok (.iconst 1, 1) := by decide +kernel
theorem dX4_hasCellsOf_6 : decode cX4_hasCellsOf 6 = .ok (.aload_n 0, 1) := by decide +kernel
theorem dX4_hasCellsOf_7 : decode cX4_hasCellsOf 7 = .ok (.iload_n 1, 1) := by decide +kernel
theorem dX4_hasCellsOf_8 : decode cX4_hasCellsOf 8 = .ok (.invokevirtual 57, 3) := by decide +kernel
theorem dX4_hasCellsOf_11 : decode cX4_hasCellsOf 11 = .ok (.ishl, 1) := by decide +kernel
theorem dX4_hasCellsOf_12 : decode cX4_hasCellsOf 12 = .ok (.if_icmp .ge 7, 3) := by decide +kernel
theorem dX4_hasCellsOf_15 : decode cX4_hasCellsOf 15 = .ok (.iconst 1, 1) := by decide +kernel
theorem dX4_hasCellsOf_16 : decode cX4_hasCellsOf 16 = .ok (.goto 4, 3) := by decide +kernel
theorem dX4_hasCellsOf_19 : decode cX4_hasCellsOf 19 = .ok (.iconst 0, 1) := by decide +kernel
theorem dX4_hasCellsOf_20 : decode cX4_hasCellsOf 20 = .ok (.ireturn, 1) := by decide +kernel
theorem dX4_setClue_0 : decode cX4_setClue 0 = .ok (.aload_n 0, 1) := by decide +kernel
theorem dX4_setClue_1 : decode cX4_setClue 1 = .ok (.iload_n 1, 1) := by decide +kernel
theorem dX4_setClue_2 : decode cX4_setClue 2 = .ok (.invokevirtual 61, 3) := by decide +kernel
theorem dX4_setClue_5 : decode cX4_setClue 5 = .ok (.ifCond .ne 4, 3) := by decide +kernel
theorem dX4_setClue_8 : decode cX4_setClue 8 = .ok (.return_, 1) := by decide +kernel
theorem dX4_setClue_9 : decode cX4_setClue 9 = .ok (.aload_n 0, 1) := by decide +kernel
theorem dX4_setClue_10 : decode cX4_setClue 10 = .ok (.getfield 9, 3) := by decide +kernel
theorem dX4_setClue_13 : decode cX4_setClue 13 = .ok (.iload_n 1, 1) := by decide +kernel
theorem dX4_setClue_14 : decode cX4_setClue 14 = .ok (.iload_n 2, 1) := by decide +kernel
theorem dX4_setClue_15 : decode cX4_setClue 15 = .ok (.iastore, 1) := by decide +kernel
theorem dX4_setClue_16 : decode cX4_setClue 16 = .ok (.aload_n 0, 1) := by decide +kernel
theorem dX4_setClue_17 : decode cX4_setClue 17 = .ok (.getfield 15, 3) := by decide +kernel
theorem dX4_setClue_20 : decode cX4_setClue 20 = .ok (.iload_n 1, 1) := by decide +kernel
theorem dX4_setClue_21 : decode cX4_setClue 21 = .ok (.iload_n 3, 1) := by decide +kernel
theorem dX4_setClue_22 : decode cX4_setClue 22 = .ok (.iastore, 1) := by decide +kernel
theorem dX4_setClue_23 : decode cX4_setClue 23 = .ok (.aload_n 0, 1) := by decide +kernel
theorem dX4_setClue_24 : decode cX4_setClue 24 = .ok (.getfield 18, 3) := by decide +kernel
theorem dX4_setClue_27 : decode cX4_setClue 27 = .ok (.iload_n 1, 1) := by decide +kernel
theorem dX4_setClue_28 : decode cX4_setClue 28 = .ok (.iload 4, 2) := by decide +kernel
theorem dX4_setClue_30 : decode cX4_setClue 30 = .ok (.iastore, 1) := by decide +kernel
theorem dX4_setClue_31 : decode cX4_setClue 31 = .ok (.return_, 1) := by decide +kernel
theorem dX4_marked_0 : decode cX4_marked 0 = .ok (.aload_n 0, 1) := by decide +kernel
theorem dX4_marked_1 : decode cX4_marked 1 = .ok (.getfield 44, 3) := by decide +kernel
theorem dX4_marked_4 : decode cX4_marked 4 = .ok (.aload_n 0, 1) := by decide +kernel
theorem dX4_marked_5 : decode cX4_marked 5 = .ok (.getfield 47, 3) := by decide +kernel
theorem dX4_marked_8 : decode cX4_marked 8 = .ok (.ior, 1) := by decide +kernel
theorem dX4_marked_9 : decode cX4_marked 9 = .ok (.ireturn, 1) := by decide +kernel
theorem dX4_markedCells_0 : decode cX4_markedCells 0 = .ok (.aload_n 0, 1) := by decide +kernel
theorem dX4_markedCells_1 : decode cX4_markedCells 1 = .ok (.invokevirtual 65, 3) := by decide +kernel
theorem dX4_markedCells_4 : decode cX4_markedCells 4 = .ok (.invokestatic 68, 3) := by decide +kernel
theorem dX4_markedCells_7 : decode cX4_markedCells 7 = .ok (.ireturn, 1) := by decide +kernel
theorem dX4_howMarked_0 : decode cX4_howMarked 0 = .ok (.aload_n 0, 1) := by decide +kernel
theorem dX4_howMarked_1 : decode cX4_howMarked 1 = .ok (.getfield 44, 3) := by decide +kernel
theorem dX4_howMarked_4 : decode cX4_howMarked 4 = .ok (.iload_n 1, 1) := by decide +kernel
theorem dX4_howMarked_5 : decode cX4_howMarked 5 = .ok (.ishr, 1) := by decide +kernel
theorem dX4_howMarked_6 : decode cX4_howMarked 6 = .ok (.iconst 1, 1) := by decide +kernel
theorem dX4_howMarked_7 : decode cX4_howMarked 7 = .ok (.iand, 1) := by decide +kernel
theorem dX4_howMarked_8 : decode cX4_howMarked 8 = .ok (.ifCond .eq 5, 3) := by decide +kernel
theorem dX4_howMarked_11 : decode cX4_howMarked 11 = .ok (.iconst 1, 1) := by decide +kernel
theorem dX4_howMarked_12 : decode cX4_howMarked 12 = .ok (.ireturn, 1) := by decide +kernel
theorem dX4_howMarked_13 : decode cX4_howMarked 13 = .ok (.aload_n 0, 1) := by decide +kernel
theorem dX4_howMarked_14 : decode cX4_howMarked 14 = .ok (.getfield 47, 3) := by decide +kernel
theorem dX4_howMarked_17 : decode cX4_howMarked 17 = .ok (.iload_n 1, 1) := by decide +kernel
theorem dX4_howMarked_18 : decode cX4_howMarked 18 = .ok (.ishr, 1) := by decide +kernel
theorem dX4_howMarked_19 : decode cX4_howMarked 19 = .ok (.iconst 1, 1) := by decide +kernel
theorem dX4_howMarked_20 : decode cX4_howMarked 20 = .ok (.iand, 1) := by decide +kernel
theorem dX4_howMarked_21 : decode cX4_howMarked 21 = .ok (.ifCond .eq 7, 3) := by decide +kernel
theorem dX4_howMarked_24 : decode cX4_howMarked 24 = .ok (.iconst 2, 1) := by decide +kernel
theorem dX4_howMarked_25 : decode cX4_howMarked 25 = .ok (.goto 4, 3) := by decide +kernel
theorem dX4_howMarked_28 : decode cX4_howMarked 28 = .ok (.iconst 0, 1) := by decide +kernel
theorem dX4_howMarked_29 : decode cX4_howMarked 29 = .ok (.ireturn, 1) := by decide +kernel
theorem dX4_setMark_0 : decode cX4_setMark 0 = .ok (.iconst 1, 1) := by decide +kernel
theorem dX4_setMark_1 : decode cX4_setMark 1 = .ok (.iload_n 1, 1) := by decide +kernel
theorem dX4_setMark_2 : decode cX4_setMark 2 = .ok (.ishl, 1) := by decide +kernel
theorem dX4_setMark_3 : decode cX4_setMark 3 = .ok (.istore_n 3, 1) := by decide +kernel
theorem dX4_setMark_4 : decode cX4_setMark 4 = .ok (.aload_n 0, 1) := by decide +kernel
theorem dX4_setMark_5 : decode cX4_setMark 5 = .ok (.dup, 1) := by decide +kernel
theorem dX4_setMark_6 : decode cX4_setMark 6 = .ok (.getfield 44, 3) := by decide +kernel
theorem dX4_setMark_9 : decode cX4_setMark 9 = .ok (.iload_n 3, 1) := by decide +kernel
theorem dX4_setMark_10 : decode cX4_setMark 10 = .ok (.iconst (-1), 1) := by decide +kernel
theorem dX4_setMark_11 : decode cX4_setMark 11 = .ok (.ixor, 1) := by decide +kernel
theorem dX4_setMark_12 : decode cX4_setMark 12 = .ok (.iand, 1) := by decide +kernel
theorem dX4_setMark_13 : decode cX4_setMark 13 = .ok (.putfield 44, 3) := by decide +kernel
theorem dX4_setMark_16 : decode cX4_setMark 16 = .ok (.aload_n 0, 1) := by decide +kernel
theorem dX4_setMark_17 : decode cX4_setMark 17 = .ok (.dup, 1) := by decide +kernel
theorem dX4_setMark_18 : decode cX4_setMark 18 = .ok (.getfield 47, 3) := by decide +kernel
theorem dX4_setMark_21 : decode cX4_setMark 21 = .ok (.iload_n 3, 1) := by decide +kernel
theorem dX4_setMark_22 : decode cX4_setMark 22 = .ok (.iconst (-1), 1) := by decide +kernel
theorem dX4_setMark_23 : decode cX4_setMark 23 = .ok (.ixor, 1) := by decide +kernel
theorem dX4_setMark_24 : decode cX4_setMark 24 = .ok (.iand, 1) := by decide +kernel
theorem dX4_setMark_25 : decode cX4_setMark 25 = .ok (.putfield 47, 3) := by decide +kernel
theorem dX4_setMark_28 : decode cX4_setMark 28 = .ok (.iload_n 2, 1) := by decide +kernel
theorem dX4_setMark_29 : decode cX4_setMark 29 = .ok (.iconst 1, 1) := by decide +kernel
theorem dX4_setMark_30 : decode cX4_setMark 30 = .ok (.if_icmp .ne 13, 3) := by decide +kernel
theorem dX4_setMark_33 : decode cX4_setMark 33 = .ok (.aload_n 0, 1) := by decide +kernel
theorem dX4_setMark_34 : decode cX4_setMark 34 = .ok (.dup, 1) := by decide +kernel
theorem dX4_setMark_35 : decode cX4_setMark 35 = .ok (.getfield 44, 3) := by decide +kernel
theorem dX4_setMark_38 : decode cX4_setMark 38 = .ok (.iload_n 3, 1) := by decide +kernel
theorem dX4_setMark_39 : decode cX4_setMark 39 = .ok (.ior, 1) := by decide +kernel
theorem dX4_setMark_40 : decode cX4_setMark 40 = .ok (.putfield 44, 3) := by decide +kernel
theorem dX4_setMark_43 : decode cX4_setMark 43 = .ok (.iload_n 2, 1) := by decide +kernel
theorem dX4_setMark_44 : decode cX4_setMark 44 = .ok (.iconst 2, 1) := by decide +kernel
theorem dX4_setMark_45 : decode cX4_setMark 45 = .ok (.if_icmp .ne 13, 3) := by decide +kernel
theorem dX4_setMark_48 : decode cX4_setMark 48 = .ok (.aload_n 0, 1) := by decide +kernel
theorem dX4_setMark_49 : decode cX4_setMark 49 = .ok (.dup, 1) := by decide +kernel
theorem dX4_setMark_50 : decode cX4_setMark 50 = .ok (.getfield 47, 3) := by decide +kernel
theorem dX4_setMark_53 : decode cX4_setMark 53 = .ok (.iload_n 3, 1) := by decide +kernel
theorem dX4_setMark_54 : decode cX4_setMark 54 = .ok (.ior, 1) := by decide +kernel
theorem dX4_setMark_55 : decode cX4_setMark 55 = .ok (.putfield 47, 3) := by decide +kernel
theorem dX4_setMark_58 : decode cX4_setMark 58 = .ok (.return_, 1) := by decide +kernel
theorem dX4_unmarkAll_0 : decode cX4_unmarkAll 0 = .ok (.aload_n 0, 1) := by decide +kernel
theorem dX4_unmarkAll_1 : decode cX4_unmarkAll 1 = .ok (.iconst 0, 1) := by decide +kernel
theorem dX4_unmarkAll_2 : decode cX4_unmarkAll 2 = .ok (.putfield 44, 3) := by decide +kernel
theorem dX4_unmarkAll_5 : decode cX4_unmarkAll 5 = .ok (.aload_n 0, 1) := by decide +kernel
theorem dX4_unmarkAll_6 : decode cX4_unmarkAll 6 = .ok (.iconst 0, 1) := by decide +kernel
theorem dX4_unmarkAll_7 : decode cX4_unmarkAll 7 = .ok (.putfield 47, 3) := by decide +kernel
theorem dX4_unmarkAll_10 : decode cX4_unmarkAll 10 = .ok (.return_, 1) := by decide +kernel
theorem dX4_addSeen_0 : decode cX4_addSeen 0 = .ok (.aload_n 0, 1) := by decide +kernel
theorem dX4_addSeen_1 : decode cX4_addSeen 1 = .ok (.getfield 38, 3) := by decide +kernel
theorem dX4_addSeen_4 : decode cX4_addSeen 4 = .ok (.bipush 6, 2) := by decide +kernel
theorem dX4_addSeen_6 : decode cX4_addSeen 6 = .ok (.if_icmp .lt 4, 3) := by decide +kernel
theorem dX4_addSeen_9 : decode cX4_addSeen 9 = .ok (.return_, 1) := by decide +kernel
theorem dX4_addSeen_10 : decode cX4_addSeen 10 = .ok (.aload_n 0, 1) := by decide +kernel
theorem dX4_addSeen_11 : decode cX4_addSeen 11 = .ok (.getfield 21, 3) := by decide +kernel
theorem dX4_addSeen_14 : decode cX4_addSeen 14 = .ok (.aload_n 0, 1) := by decide +kernel
theorem dX4_addSeen_15 : decode cX4_addSeen 15 = .ok (.getfield 38, 3) := by decide +kernel
theorem dX4_addSeen_18 : decode cX4_addSeen 18 = .ok (.iload_n 1, 1) := by decide +kernel
theorem dX4_addSeen_19 : decode cX4_addSeen 19 = .ok (.iastore, 1) := by decide +kernel
theorem dX4_addSeen_20 : decode cX4_addSeen 20 = .ok (.aload_n 0, 1) := by decide +kernel
theorem dX4_addSeen_21 : decode cX4_addSeen 21 = .ok (.getfield 24, 3) := by decide +kernel
theorem dX4_addSeen_24 : decode cX4_addSeen 24 = .ok (.aload_n 0, 1) := by decide +kernel
theorem dX4_addSeen_25 : decode cX4_addSeen 25 = .ok (.getfield 38, 3) := by decide +kernel
theorem dX4_addSeen_28 : decode cX4_addSeen 28 = .ok (.iload_n 2, 1) := by decide +kernel
theorem dX4_addSeen_29 : decode cX4_addSeen 29 = .ok (.iastore, 1) := by decide +kernel
theorem dX4_addSeen_30 : decode cX4_addSeen 30 = .ok (.aload_n 0, 1) := by decide +kernel
theorem dX4_addSeen_31 : decode cX4_addSeen 31 = .ok (.getfield 27, 3) := by decide +kernel
theorem dX4_addSeen_34 : decode cX4_addSeen 34 = .ok (.aload_n 0, 1) := by decide +kernel
theorem dX4_addSeen_35 : decode cX4_addSeen 35 = .ok (.getfield 38, 3) := by decide +kernel
theorem dX4_addSeen_38 : decode cX4_addSeen 38 = .ok (.iload_n 3, 1) := by decide +kernel
theorem dX4_addSeen_39 : decode cX4_addSeen 39 = .ok (.bastore, 1) := by decide +kernel
theorem dX4_addSeen_40 : decode cX4_addSeen 40 = .ok (.aload_n 0, 1) := by decide +kernel
theorem dX4_addSeen_41 : decode cX4_addSeen 41 = .ok (.dup, 1) := by decide +kernel
theorem dX4_addSeen_42 : decode cX4_addSeen 42 = .ok (.getfield 38, 3) := by decide +kernel
theorem dX4_addSeen_45 : decode cX4_addSeen 45 = .ok (.iconst 1, 1) := by decide +kernel
theorem dX4_addSeen_46 : decode cX4_addSeen 46 = .ok (.iadd, 1) := by decide +kernel
theorem dX4_addSeen_47 : decode cX4_addSeen 47 = .ok (.putfield 38, 3) := by decide +kernel
theorem dX4_addSeen_50 : decode cX4_addSeen 50 = .ok (.return_, 1) := by decide +kernel
theorem dX4_sorts_0 : decode cX4_sorts 0 = .ok (.iconst 0, 1) := by decide +kernel
theorem dX4_sorts_1 : decode cX4_sorts 1 = .ok (.istore_n 2, 1) := by decide +kernel
theorem dX4_sorts_2 : decode cX4_sorts 2 = .ok (.iconst 0, 1) := by decide +kernel
theorem dX4_sorts_3 : decode cX4_sorts 3 = .ok (.istore_n 3, 1) := by decide +kernel
theorem dX4_sorts_4 : decode cX4_sorts 4 = .ok (.iload_n 3, 1) := by decide +kernel
theorem dX4_sorts_5 : decode cX4_sorts 5 = .ok (.iconst 5, 1) := by decide +kernel
theorem dX4_sorts_6 : decode cX4_sorts 6 = .ok (.if_icmp .ge 24, 3) := by decide +kernel
theorem dX4_sorts_9 : decode cX4_sorts 9 = .ok (.aload_n 0, 1) := by decide +kernel
theorem dX4_sorts_10 : decode cX4_sorts 10 = .ok (.iload_n 1, 1) := by decide +kernel
theorem dX4_sorts_11 : decode cX4_sorts 11 = .ok (.iload_n 3, 1) := by decide +kernel
theorem dX4_sorts_12 : decode cX4_sorts 12 = .ok (.invokevirtual 73, 3) := by decide +kernel
theorem dX4_sorts_15 : decode cX4_sorts 15 = .ok (.ifCond .eq 9, 3) := by decide +kernel
theorem dX4_sorts_18 : decode cX4_sorts 18 = .ok (.iload_n 2, 1) := by decide +kernel
theorem dX4_sorts_19 : decode cX4_sorts 19 = .ok (.iconst 1, 1) := by decide +kernel
theorem dX4_sorts_20 : decode cX4_sorts 20 = .ok (.iload_n 3, 1) := by decide +kernel
theorem dX4_sorts_21 : decode cX4_sorts 21 = .ok (.ishl, 1) := by decide +kernel
theorem dX4_sorts_22 : decode cX4_sorts 22 = .ok (.ior, 1) := by decide +kernel
theorem dX4_sorts_23 : decode cX4_sorts 23 = .ok (.istore_n 2, 1) := by decide +kernel
theorem dX4_sorts_24 : decode cX4_sorts 24 = .ok (.iinc 3 1, 3) := by decide +kernel
theorem dX4_sorts_27 : decode cX4_sorts 27 = .ok (.goto (-23), 3) := by decide +kernel
theorem dX4_sorts_30 : decode cX4_sorts 30 = .ok (.iload_n 2, 1) := by decide +kernel
theorem dX4_sorts_31 : decode cX4_sorts 31 = .ok (.ireturn, 1) := by decide +kernel
theorem dX4_canBeOf_0 : decode cX4_canBeOf 0 = .ok (.iconst 0, 1) := by decide +kernel
theorem dX4_canBeOf_1 : decode cX4_canBeOf 1 = .ok (.istore_n 3, 1) := by decide +kernel
theorem dX4_canBeOf_2 : decode cX4_canBeOf 2 = .ok (.iload_n 3, 1) := by decide +kernel
theorem dX4_canBeOf_3 : decode cX4_canBeOf 3 = .ok (.aload_n 0, 1) := by decide +kernel
theorem dX4_canBeOf_4 : decode cX4_canBeOf 4 = .ok (.getfield 38, 3) := by decide +kernel
theorem dX4_canBeOf_7 : decode cX4_canBeOf 7 = .ok (.if_icmp .ge 51, 3) := by decide +kernel
theorem dX4_canBeOf_10 : decode cX4_canBeOf 10 = .ok (.iload_n 3, 1) := by decide +kernel
theorem dX4_canBeOf_11 : decode cX4_canBeOf 11 = .ok (.bipush 6, 2) := by decide +kernel
theorem dX4_canBeOf_13 : decode cX4_canBeOf 13 = .ok (.if_icmp .ge 45, 3) := by decide +kernel
theorem dX4_canBeOf_16 : decode cX4_canBeOf 16 = .ok (.aload_n 0, 1) := by decide +kernel
theorem dX4_canBeOf_17 : decode cX4_canBeOf 17 = .ok (.getfield 21, 3) := by decide +kernel
theorem dX4_canBeOf_20 : decode cX4_canBeOf 20 = .ok (.iload_n 3, 1) := by decide +kernel
theorem dX4_canBeOf_21 : decode cX4_canBeOf 21 = .ok (.iaload, 1) := by decide +kernel
theorem dX4_canBeOf_22 : decode cX4_canBeOf 22 = .ok (.iload_n 1, 1) := by decide +kernel
theorem dX4_canBeOf_23 : decode cX4_canBeOf 23 = .ok (.if_icmp .eq 6, 3) := by decide +kernel
theorem dX4_canBeOf_26 : decode cX4_canBeOf 26 = .ok (.goto 26, 3) := by decide +kernel
theorem dX4_canBeOf_29 : decode cX4_canBeOf 29 = .ok (.aload_n 0, 1) := by decide +kernel
theorem dX4_canBeOf_30 : decode cX4_canBeOf 30 = .ok (.iload_n 1, 1) := by decide +kernel
theorem dX4_canBeOf_31 : decode cX4_canBeOf 31 = .ok (.iload_n 2, 1) := by decide +kernel
theorem dX4_canBeOf_32 : decode cX4_canBeOf 32 = .ok (.aload_n 0, 1) := by decide +kernel
theorem dX4_canBeOf_33 : decode cX4_canBeOf 33 = .ok (.getfield 24, 3) := by decide +kernel
theorem dX4_canBeOf_36 : decode cX4_canBeOf 36 = .ok (.iload_n 3, 1) := by decide +kernel
theorem dX4_canBeOf_37 : decode cX4_canBeOf 37 = .ok (.iaload, 1) := by decide +kernel
theorem dX4_canBeOf_38 : decode cX4_canBeOf 38 = .ok (.invokevirtual 77, 3) := by decide +kernel
theorem dX4_canBeOf_41 : decode cX4_canBeOf 41 = .ok (.aload_n 0, 1) := by decide +kernel
theorem dX4_canBeOf_42 : decode cX4_canBeOf 42 = .ok (.getfield 27, 3) := by decide +kernel
theorem dX4_canBeOf_45 : decode cX4_canBeOf 45 = .ok (.iload_n 3, 1) := by decide +kernel
theorem dX4_canBeOf_46 : decode cX4_canBeOf 46 = .ok (.baload, 1) := by decide +kernel
theorem dX4_canBeOf_47 : decode cX4_canBeOf 47 = .ok (.if_icmp .eq 5, 3) := by decide +kernel
theorem dX4_canBeOf_50 : decode cX4_canBeOf 50 = .ok (.iconst 0, 1) := by decide +kernel
theorem dX4_canBeOf_51 : decode cX4_canBeOf 51 = .ok (.ireturn, 1) := by decide +kernel
theorem dX4_canBeOf_52 : decode cX4_canBeOf 52 = .ok (.iinc 3 1, 3) := by decide +kernel
theorem dX4_canBeOf_55 : decode cX4_canBeOf 55 = .ok (.goto (-53), 3) := by decide +kernel
theorem dX4_canBeOf_58 : decode cX4_canBeOf 58 = .ok (.iconst 1, 1) := by decide +kernel
theorem dX4_canBeOf_59 : decode cX4_canBeOf 59 = .ok (.ireturn, 1) := by decide +kernel
theorem dX4_wouldKeep_0 : decode cX4_wouldKeep 0 = .ok (.aload_n 0, 1) := by decide +kernel
theorem dX4_wouldKeep_1 : decode cX4_wouldKeep 1 = .ok (.iload_n 1, 1) := by decide +kernel
theorem dX4_wouldKeep_2 : decode cX4_wouldKeep 2 = .ok (.invokevirtual 61, 3) := by decide +kernel
theorem dX4_wouldKeep_5 : decode cX4_wouldKeep 5 = .ok (.ifCond .eq 27, 3) := by decide +kernel
theorem dX4_wouldKeep_8 : decode cX4_wouldKeep 8 = .ok (.iload_n 2, 1) := by decide +kernel
theorem dX4_wouldKeep_9 : decode cX4_wouldKeep 9 = .ok (.aload_n 0, 1) := by decide +kernel
theorem dX4_wouldKeep_10 : decode cX4_wouldKeep 10 = .ok (.getfield 15, 3) := by decide +kernel
theorem dX4_wouldKeep_13 : decode cX4_wouldKeep 13 = .ok (.iload_n 1, 1) := by decide +kernel
theorem dX4_wouldKeep_14 : decode cX4_wouldKeep 14 = .ok (.iaload, 1) := by decide +kernel
theorem dX4_wouldKeep_15 : decode cX4_wouldKeep 15 = .ok (.aload_n 0, 1) := by decide +kernel
theorem dX4_wouldKeep_16 : decode cX4_wouldKeep 16 = .ok (.getfield 18, 3) := by decide +kernel
theorem dX4_wouldKeep_19 : decode cX4_wouldKeep 19 = .ok (.iload_n 1, 1) := by decide +kernel
theorem dX4_wouldKeep_20 : decode cX4_wouldKeep 20 = .ok (.iaload, 1) := by decide +kernel
theorem dX4_wouldKeep_21 : decode cX4_wouldKeep 21 = .ok (.iload_n 3, 1) := by decide +kernel
theorem dX4_wouldKeep_22 : decode cX4_wouldKeep 22 = .ok (.invokestatic 81, 3) := by decide +kernel
theorem dX4_wouldKeep_25 : decode cX4_wouldKeep 25 = .ok (.ifCond .eq 7, 3) := by decide +kernel
theorem dX4_wouldKeep_28 : decode cX4_wouldKeep 28 = .ok (.iconst 1, 1) := by decide +kernel
theorem dX4_wouldKeep_29 : decode cX4_wouldKeep 29 = .ok (.goto 4, 3) := by decide +kernel
theorem dX4_wouldKeep_32 : decode cX4_wouldKeep 32 = .ok (.iconst 0, 1) := by decide +kernel
theorem dX4_wouldKeep_33 : decode cX4_wouldKeep 33 = .ok (.ireturn, 1) := by decide +kernel
theorem dX4_nextTry_0 : decode cX4_nextTry 0 = .ok (.aload_n 0, 1) := by decide +kernel
theorem dX4_nextTry_1 : decode cX4_nextTry 1 = .ok (.iload_n 1, 1) := by decide +kernel
theorem dX4_nextTry_2 : decode cX4_nextTry 2 = .ok (.invokevirtual 87, 3) := by decide +kernel
theorem dX4_nextTry_5 : decode cX4_nextTry 5 = .ok (.istore_n 2, 1) := by decide +kernel
theorem dX4_nextTry_6 : decode cX4_nextTry 6 = .ok (.iconst (-1), 1) := by decide +kernel
theorem dX4_nextTry_7 : decode cX4_nextTry 7 = .ok (.istore_n 3, 1) := by decide +kernel
theorem dX4_nextTry_8 : decode cX4_nextTry 8 = .ok (.iload_n 2, 1) := by decide +kernel
theorem dX4_nextTry_9 : decode cX4_nextTry 9 = .ok (.invokestatic 68, 3) := by decide +kernel
theorem dX4_nextTry_12 : decode cX4_nextTry 12 = .ok (.istore 4, 2) := by decide +kernel
theorem dX4_nextTry_14 : decode cX4_nextTry 14 = .ok (.iload 4, 2) := by decide +kernel
theorem dX4_nextTry_16 : decode cX4_nextTry 16 = .ok (.ifCond .ne 5, 3) := by decide +kernel
theorem dX4_nextTry_19 : decode cX4_nextTry 19 = .ok (.iconst (-1), 1) := by decide +kernel
theorem dX4_nextTry_20 : decode cX4_nextTry 20 = .ok (.ireturn, 1) := by decide +kernel
theorem dX4_nextTry_21 : decode cX4_nextTry 21 = .ok (.iconst 0, 1) := by decide +kernel
theorem dX4_nextTry_22 : decode cX4_nextTry 22 = .ok (.istore 5, 2) := by decide +kernel
theorem dX4_nextTry_24 : decode cX4_nextTry 24 = .ok (.iload 5, 2) := by decide +kernel
theorem dX4_nextTry_26 : decode cX4_nextTry 26 = .ok (.iconst 1, 1) := by decide +kernel
theorem dX4_nextTry_27 : decode cX4_nextTry 27 = .ok (.aload_n 0, 1) := by decide +kernel
theorem dX4_nextTry_28 : decode cX4_nextTry 28 = .ok (.iload_n 1, 1) := by decide +kernel
theorem dX4_nextTry_29 : decode cX4_nextTry 29 = .ok (.invokevirtual 57, 3) := by decide +kernel
theorem dX4_nextTry_32 : decode cX4_nextTry 32 = .ok (.ishl, 1) := by decide +kernel
theorem dX4_nextTry_33 : decode cX4_nextTry 33 = .ok (.if_icmp .ge 38, 3) := by decide +kernel
theorem dX4_nextTry_36 : decode cX4_nextTry 36 = .ok (.aload_n 0, 1) := by decide +kernel
theorem dX4_nextTry_37 : decode cX4_nextTry 37 = .ok (.iload_n 1, 1) := by decide +kernel
theorem dX4_nextTry_38 : decode cX4_nextTry 38 = .ok (.iload_n 2, 1) := by decide +kernel
theorem dX4_nextTry_39 : decode cX4_nextTry 39 = .ok (.iload 5, 2) := by decide +kernel
theorem dX4_nextTry_41 : decode cX4_nextTry 41 = .ok (.invokevirtual 90, 3) := by decide +kernel
theorem dX4_nextTry_44 : decode cX4_nextTry 44 = .ok (.istore 6, 2) := by decide +kernel
theorem dX4_nextTry_46 : decode cX4_nextTry 46 = .ok (.iload_n 3, 1) := by decide +kernel
theorem dX4_nextTry_47 : decode cX4_nextTry 47 = .ok (.iconst (-1), 1) := by decide +kernel
theorem dX4_nextTry_48 : decode cX4_nextTry 48 = .ok (.if_icmp .eq 10, 3) := by decide +kernel
theorem dX4_nextTry_51 : decode cX4_nextTry 51 = .ok (.iload 6, 2) := by decide +kernel
theorem dX4_nextTry_53 : decode cX4_nextTry 53 = .ok (.iload 4, 2) := by decide +kernel
theorem dX4_nextTry_55 : decode cX4_nextTry 55 = .ok (.if_icmp .ge 10, 3) := by decide +kernel
theorem dX4_nextTry_58 : decode cX4_nextTry 58 = .ok (.iload 5, 2) := by decide +kernel
theorem dX4_nextTry_60 : decode cX4_nextTry 60 = .ok (.istore_n 3, 1) := by decide +kernel
theorem dX4_nextTry_61 : decode cX4_nextTry 61 = .ok (.iload 6, 2) := by decide +kernel
theorem dX4_nextTry_63 : decode cX4_nextTry 63 = .ok (.istore 4, 2) := by decide +kernel
theorem dX4_nextTry_65 : decode cX4_nextTry 65 = .ok (.iinc 5 1, 3) := by decide +kernel
theorem dX4_nextTry_68 : decode cX4_nextTry 68 = .ok (.goto (-44), 3) := by decide +kernel
theorem dX4_nextTry_71 : decode cX4_nextTry 71 = .ok (.iload_n 3, 1) := by decide +kernel
theorem dX4_nextTry_72 : decode cX4_nextTry 72 = .ok (.ireturn, 1) := by decide +kernel
theorem dX4_worstOfTry_0 : decode cX4_worstOfTry 0 = .ok (.iconst 0, 1) := by decide +kernel
theorem dX4_worstOfTry_1 : decode cX4_worstOfTry 1 = .ok (.istore 4, 2) := by decide +kernel
theorem dX4_worstOfTry_3 : decode cX4_worstOfTry 3 = .ok (.iconst 0, 1) := by decide +kernel
theorem dX4_worstOfTry_4 : decode cX4_worstOfTry 4 = .ok (.istore 5, 2) := by decide +kernel
theorem dX4_worstOfTry_6 : decode cX4_worstOfTry 6 = .ok (.iload 5, 2) := by decide +kernel
theorem dX4_worstOfTry_8 : decode cX4_worstOfTry 8 = .ok (.iconst 5, 1) := by decide +kernel
theorem dX4_worstOfTry_9 : decode cX4_worstOfTry 9 = .ok (.if_icmp .ge 32, 3) := by decide +kernel
theorem dX4_worstOfTry_12 : decode cX4_worstOfTry 12 = .ok (.iload_n 2, 1) := by decide +kernel
theorem dX4_worstOfTry_13 : decode cX4_worstOfTry 13 = .ok (.iload 5, 2) := by decide +kernel
theorem dX4_worstOfTry_15 : decode cX4_worstOfTry 15 = .ok (.ishr, 1) := by decide +kernel
theorem dX4_worstOfTry_16 : decode cX4_worstOfTry 16 = .ok (.iconst 1, 1) := by decide +kernel
theorem dX4_worstOfTry_17 : decode cX4_worstOfTry 17 = .ok (.iand, 1) := by decide +kernel
theorem dX4_worstOfTry_18 : decode cX4_worstOfTry 18 = .ok (.ifCond .eq 17, 3) := by decide +kernel
theorem dX4_worstOfTry_21 : decode cX4_worstOfTry 21 = .ok (.aload_n 0, 1) := by decide +kernel
theorem dX4_worstOfTry_22 : decode cX4_worstOfTry 22 = .ok (.iload_n 1, 1) := by decide +kernel
theorem dX4_worstOfTry_23 : decode cX4_worstOfTry 23 = .ok (.iload 5, 2) := by decide +kernel
theorem dX4_worstOfTry_25 : decode cX4_worstOfTry 25 = .ok (.iload_n 3, 1) := by decide +kernel
theorem dX4_worstOfTry_26 : decode cX4_worstOfTry 26 = .ok (.invokevirtual 77, 3) := by decide +kernel
theorem dX4_worstOfTry_29 : decode cX4_worstOfTry 29 = .ok (.ifCond .eq 6, 3) := by decide +kernel
theorem dX4_worstOfTry_32 : decode cX4_worstOfTry 32 = .ok (.iinc 4 1, 3) := by decide +kernel
theorem dX4_worstOfTry_35 : decode cX4_worstOfTry 35 = .ok (.iinc 5 1, 3) := by decide +kernel
theorem dX4_worstOfTry_38 : decode cX4_worstOfTry 38 = .ok (.goto (-32), 3) := by decide +kernel
theorem dX4_worstOfTry_41 : decode cX4_worstOfTry 41 = .ok (.iload 4, 2) := by decide +kernel
theorem dX4_worstOfTry_43 : decode cX4_worstOfTry 43 = .ok (.iload_n 2, 1) := by decide +kernel
theorem dX4_worstOfTry_44 : decode cX4_worstOfTry 44 = .ok (.invokestatic 68, 3) := by decide +kernel
theorem dX4_worstOfTry_47 : decode cX4_worstOfTry 47 = .ok (.iload 4, 2) := by decide +kernel
theorem dX4_worstOfTry_49 : decode cX4_worstOfTry 49 = .ok (.isub, 1) := by decide +kernel
theorem dX4_worstOfTry_50 : decode cX4_worstOfTry 50 = .ok (.invokestatic 94, 3) := by decide +kernel
theorem dX4_worstOfTry_53 : decode cX4_worstOfTry 53 = .ok (.ireturn, 1) := by decide +kernel
theorem dX5_init_0 : decode cX5_init 0 = .ok (.aload_n 0, 1) := by decide +kernel
theorem dX5_init_1 : decode cX5_init 1 = .ok (.invokespecial 3, 3) := by decide +kernel
theorem dX5_init_4 : decode cX5_init 4 = .ok (.aload_n 0, 1) := by decide +kernel
theorem dX5_init_5 : decode cX5_init 5 = .ok (.new 9, 3) := by decide +kernel
theorem dX5_init_8 : decode cX5_init 8 = .ok (.dup, 1) := by decide +kernel
theorem dX5_init_9 : decode cX5_init 9 = .ok (.invokespecial 11, 3) := by decide +kernel
theorem dX5_init_12 : decode cX5_init 12 = .ok (.putfield 12, 3) := by decide +kernel
theorem dX5_init_15 : decode cX5_init 15 = .ok (.aload_n 0, 1) := by decide +kernel
theorem dX5_init_16 : decode cX5_init 16 = .ok (.new 16, 3) := by decide +kernel
theorem dX5_init_19 : decode cX5_init 19 = .ok (.dup, 1) := by decide +kernel
theorem dX5_init_20 : decode cX5_init 20 = .ok (.invokespecial 18, 3) := by decide +kernel
theorem dX5_init_23 : decode cX5_init 23 = .ok (.putfield 19, 3) := by decide +kernel
theorem dX5_init_26 : decode cX5_init 26 = .ok (.aload_n 0, 1) := by decide +kernel
theorem dX5_init_27 : decode cX5_init 27 = .ok (.new 16, 3) := by decide +kernel
theorem dX5_init_30 : decode cX5_init 30 = .ok (.dup, 1) := by decide +kernel
theorem dX5_init_31 : decode cX5_init 31 = .ok (.invokespecial 18, 3) := by decide +kernel
theorem dX5_init_34 : decode cX5_init 34 = .ok (.putfield 23, 3) := by decide +kernel
theorem dX5_init_37 : decode cX5_init 37 = .ok (.aload_n 0, 1) := by decide +kernel
theorem dX5_init_38 : decode cX5_init 38 = .ok (.new 16, 3) := by decide +kernel
theorem dX5_init_41 : decode cX5_init 41 = .ok (.dup, 1) := by decide +kernel
theorem dX5_init_42 : decode cX5_init 42 = .ok (.invokespecial 18, 3) := by decide +kernel
theorem dX5_init_45 : decode cX5_init 45 = .ok (.putfield 26, 3) := by decide +kernel
theorem dX5_init_48 : decode cX5_init 48 = .ok (.aload_n 0, 1) := by decide +kernel
theorem dX5_init_49 : decode cX5_init 49 = .ok (.new 29, 3) := by decide +kernel
theorem dX5_init_52 : decode cX5_init 52 = .ok (.dup, 1) := by decide +kernel
theorem dX5_init_53 : decode cX5_init 53 = .ok (.invokespecial 31, 3) := by decide +kernel
theorem dX5_init_56 : decode cX5_init 56 = .ok (.putfield 32, 3) := by decide +kernel
theorem dX5_init_59 : decode cX5_init 59 = .ok (.aload_n 0, 1) := by decide +kernel
theorem dX5_init_60 : decode cX5_init 60 = .ok (.new 36, 3) := by decide +kernel
theorem dX5_init_63 : decode cX5_init 63 = .ok (.dup, 1) := by decide +kernel
theorem dX5_init_64 : decode cX5_init 64 = .ok (.sipush 1690, 3) := by decide +kernel
theorem dX5_init_67 : decode cX5_init 67 = .ok (.invokespecial 38, 3) := by decide +kernel
theorem dX5_init_70 : decode cX5_init 70 = .ok (.putfield 41, 3) := by decide +kernel
theorem dX5_init_73 : decode cX5_init 73 = .ok (.aload_n 0, 1) := by decide +kernel
theorem dX5_init_74 : decode cX5_init 74 = .ok (.new 36, 3) := by decide +kernel
theorem dX5_init_77 : decode cX5_init 77 = .ok (.dup, 1) := by decide +kernel
theorem dX5_init_78 : decode cX5_init 78 = .ok (.sipush 200, 3) := by decide +kernel
theorem dX5_init_81 : decode cX5_init 81 = .ok (.invokespecial 38, 3) := by decide +kernel
theorem dX5_init_84 : decode cX5_init 84 = .ok (.putfield 45, 3) := by decide +kernel
theorem dX5_init_87 : decode cX5_init 87 = .ok (.return_, 1) := by decide +kernel
theorem dX5_letter_0 : decode cX5_letter 0 = .ok (.iload_n 1, 1) := by decide +kernel
theorem dX5_letter_1 : decode cX5_letter 1 = .ok (.iconst 1, 1) := by decide +kernel
theorem dX5_letter_2 : decode cX5_letter 2 = .ok (.if_icmp .lt 9, 3) := by decide +kernel
theorem dX5_letter_5 : decode cX5_letter 5 = .ok (.iload_n 1, 1) := by decide +kernel
theorem dX5_letter_6 : decode cX5_letter 6 = .ok (.bipush 126, 2) := by decide +kernel
theorem dX5_letter_8 : decode cX5_letter 8 = .ok (.if_icmp .le 6, 3) := by decide +kernel
theorem dX5_letter_11 : decode cX5_letter 11 = .ok (.bipush (-102), 2) := by decide +kernel
theorem dX5_letter_13 : decode cX5_letter 13 = .ok (.ireturn, 1) := by decide +kernel
theorem dX5_letter_14 : decode cX5_letter 14 = .ok (.aload_n 0, 1) := by decide +kernel
theorem dX5_letter_15 : decode cX5_letter 15 = .ok (.getfield 12, 3) := by decide +kernel
theorem dX5_letter_18 : decode cX5_letter 18 = .ok (.getfield 48, 3) := by decide +kernel
theorem dX5_letter_21 : decode cX5_letter 21 = .ok (.bipush 36, 2) := by decide +kernel
theorem dX5_letter_23 : decode cX5_letter 23 = .ok (.if_icmp .lt 6, 3) := by decide +kernel
theorem dX5_letter_26 : decode cX5_letter 26 = .ok (.bipush (-104), 2) := by decide +kernel
theorem dX5_letter_28 : decode cX5_letter 28 = .ok (.ireturn, 1) := by decide +kernel
theorem dX5_letter_29 : decode cX5_letter 29 = .ok (.aload_n 0, 1) := by decide +kernel
theorem dX5_letter_30 : decode cX5_letter 30 = .ok (.getfield 12, 3) := by decide +kernel
theorem dX5_letter_33 : decode cX5_letter 33 = .ok (.iload_n 1, 1) := by decide +kernel
theorem dX5_letter_34 : decode cX5_letter 34 = .ok (.invokevirtual 52, 3) := by decide +kernel
theorem dX5_letter_37 : decode cX5_letter 37 = .ok (.aload_n 0, 1) := by decide +kernel
theorem dX5_letter_38 : decode cX5_letter 38 = .ok (.getfield 12, 3) := by decide +kernel
theorem dX5_letter_41 : decode cX5_letter 41 = .ok (.getfield 48, 3) := by decide +kernel
theorem dX5_letter_44 : decode cX5_letter 44 = .ok (.ireturn, 1) := by decide +kernel
theorem dX5_blank_0 : decode cX5_blank 0 = .ok (.aload_n 0, 1) := by decide +kernel
theorem dX5_blank_1 : decode cX5_blank 1 = .ok (.getfield 12, 3) := by decide +kernel
theorem dX5_blank_4 : decode cX5_blank 4 = .ok (.getfield 48, 3) := by decide +kernel
theorem dX5_blank_7 : decode cX5_blank 7 = .ok (.istore_n 1, 1) := by decide +kernel
theorem dX5_blank_8 : decode cX5_blank 8 = .ok (.aload_n 0, 1) := by decide +kernel
theorem dX5_blank_9 : decode cX5_blank 9 = .ok (.getfield 12, 3) := by decide +kernel
theorem dX5_blank_12 : decode cX5_blank 12 = .ok (.iconst 0, 1) := by decide +kernel
theorem dX5_blank_13 : decode cX5_blank 13 = .ok (.putfield 48, 3) := by decide +kernel
theorem dX5_blank_16 : decode cX5_blank 16 = .ok (.iload_n 1, 1) := by decide +kernel
theorem dX5_blank_17 : decode cX5_blank 17 = .ok (.ireturn, 1) := by decide +kernel
theorem dX5_fault_0 : decode cX5_fault 0 = .ok (.aload_n 0, 1) := by decide +kernel
theorem dX5_fault_1 : decode cX5_fault 1 = .ok (.getfield 12, 3) := by decide +kernel
theorem dX5_fault_4 : decode cX5_fault 4 = .ok (.aload_n 0, 1) := by decide +kernel
theorem dX5_fault_5 : decode cX5_fault 5 = .ok (.getfield 26, 3) := by decide +kernel
theorem dX5_fault_8 : decode cX5_fault 8 = .ok (.invokevirtual 55, 3) := by decide +kernel
theorem dX5_fault_11 : decode cX5_fault 11 = .ok (.pop, 1) := by decide +kernel
theorem dX5_fault_12 : decode cX5_fault 12 = .ok (.aload_n 0, 1) := by decide +kernel
theorem dX5_fault_13 : decode cX5_fault 13 = .ok (.getfield 12, 3) := by decide +kernel
theorem dX5_fault_16 : decode cX5_fault 16 = .ok (.getfield 59, 3) := by decide +kernel
theorem dX5_fault_19 : decode cX5_fault 19 = .ok (.ireturn, 1) := by decide +kernel
theorem dX5_board_0 : decode cX5_board 0 = .ok (.aload_n 0, 1) := by decide +kernel
theorem dX5_board_1 : decode cX5_board 1 = .ok (.getfield 12, 3) := by decide +kernel
theorem dX5_board_4 : decode cX5_board 4 = .ok (.aload_n 0, 1) := by decide +kernel
theorem dX5_board_5 : decode cX5_board 5 = .ok (.getfield 26, 3) := by decide +kernel
theorem dX5_board_8 : decode cX5_board 8 = .ok (.invokevirtual 55, 3) := by decide +kernel
theorem dX5_board_11 : decode cX5_board 11 = .ok (.ifCond .ne 6, 3) := by decide +kernel
theorem dX5_board_14 : decode cX5_board 14 = .ok (.bipush (-103), 2) := by decide +kernel
theorem dX5_board_16 : decode cX5_board 16 = .ok (.ireturn, 1) := by decide +kernel
theorem dX5_board_17 : decode cX5_board 17 = .ok (.aload_n 0, 1) := by decide +kernel
theorem dX5_board_18 : decode cX5_board 18 = .ok (.getfield 19, 3) := by decide +kernel
theorem dX5_board_21 : decode cX5_board 21 = .ok (.aload_n 0, 1) := by decide +kernel
theorem dX5_board_22 : decode cX5_board 22 = .ok (.getfield 26, 3) := by decide +kernel
theorem dX5_board_25 : decode cX5_board 25 = .ok (.invokevirtual 62, 3) := by decide +kernel
theorem dX5_board_28 : decode cX5_board 28 = .ok (.aload_n 0, 1) := by decide +kernel
theorem dX5_board_29 : decode cX5_board 29 = .ok (.getfield 12, 3) := by decide +kernel
theorem dX5_board_32 : decode cX5_board 32 = .ok (.iconst 0, 1) := by decide +kernel
theorem dX5_board_33 : decode cX5_board 33 = .ok (.putfield 48, 3) := by decide +kernel
theorem dX5_board_36 : decode cX5_board 36 = .ok (.aload_n 0, 1) := by decide +kernel
theorem dX5_board_37 : decode cX5_board 37 = .ok (.dup, 1) := by decide +kernel
theorem dX5_board_38 : decode cX5_board 38 = .ok (.getfield 66, 3) := by decide +kernel
theorem dX5_board_41 : decode cX5_board 41 = .ok (.iconst 1, 1) := by decide +kernel
theorem dX5_board_42 : decode cX5_board 42 = .ok (.iadd, 1) := by decide +kernel
theorem dX5_board_43 : decode cX5_board 43 = .ok (.putfield 66, 3) := by decide +kernel
theorem dX5_board_46 : decode cX5_board 46 = .ok (.aload_n 0, 1) := by decide +kernel
theorem dX5_board_47 : decode cX5_board 47 = .ok (.iconst 0, 1) := by decide +kernel
theorem dX5_board_48 : decode cX5_board 48 = .ok (.putfield 69, 3) := by decide +kernel
theorem dX5_board_51 : decode cX5_board 51 = .ok (.aload_n 0, 1) := by decide +kernel
theorem dX5_board_52 : decode cX5_board 52 = .ok (.iconst 1, 1) := by decide +kernel
theorem dX5_board_53 : decode cX5_board 53 = .ok (.putfield 73, 3) := by decide +kernel
theorem dX5_board_56 : decode cX5_board 56 = .ok (.aload_n 0, 1) := by decide +kernel
theorem dX5_board_57 : decode cX5_board 57 = .ok (.getfield 19, 3) := by decide +kernel
theorem dX5_board_60 : decode cX5_board 60 = .ok (.invokevirtual 76, 3) := by decide +kernel
theorem dX5_board_63 : decode cX5_board 63 = .ok (.ireturn, 1) := by decide +kernel
theorem dX5_line_0 : decode cX5_line 0 = .ok (.aload_n 0, 1) := by decide +kernel
theorem dX5_line_1 : decode cX5_line 1 = .ok (.getfield 19, 3) := by decide +kernel
theorem dX5_line_4 : decode cX5_line 4 = .ok (.iload_n 1, 1) := by decide +kernel
theorem dX5_line_5 : decode cX5_line 5 = .ok (.invokevirtual 80, 3) := by decide +kernel
theorem dX5_line_8 : decode cX5_line 8 = .ok (.ifCond .ne 6, 3) := by decide +kernel
theorem dX5_line_11 : decode cX5_line 11 = .ok (.bipush (-101), 2) := by decide +kernel
theorem dX5_line_13 : decode cX5_line 13 = .ok (.ireturn, 1) := by decide +kernel
theorem dX5_line_14 : decode cX5_line 14 = .ok (.iload_n 2, 1) := by decide +kernel
theorem dX5_line_15 : decode cX5_line 15 = .ok (.tableswitch 112 0 6 #[41, 51, 61, 71, 80, 94, 103], 41) := by decide +kernel
theorem dX5_line_56 : decode cX5_line 56 = .ok (.aload_n 0, 1) := by decide +kernel
theorem dX5_line_57 : decode cX5_line 57 = .ok (.getfield 19, 3) := by decide +kernel
theorem dX5_line_60 : decode cX5_line 60 = .ok (.getfield 84, 3) := by decide +kernel
theorem dX5_line_63 : decode cX5_line 63 = .ok (.iload_n 1, 1) := by decide +kernel
theorem dX5_line_64 : decode cX5_line 64 = .ok (.iaload, 1) := by decide +kernel
theorem dX5_line_65 : decode cX5_line 65 = .ok (.ireturn, 1) := by decide +kernel
theorem dX5_line_66 : decode cX5_line 66 = .ok (.aload_n 0, 1) := by decide +kernel
theorem dX5_line_67 : decode cX5_line 67 = .ok (.getfield 19, 3) := by decide +kernel
theorem dX5_line_70 : decode cX5_line 70 = .ok (.getfield 88, 3) := by decide +kernel
theorem dX5_line_73 : decode cX5_line 73 = .ok (.iload_n 1, 1) := by decide +kernel
theorem dX5_line_74 : decode cX5_line 74 = .ok (.iaload, 1) := by decide +kernel
theorem dX5_line_75 : decode cX5_line 75 = .ok (.ireturn, 1) := by decide +kernel
theorem dX5_line_76 : decode cX5_line 76 = .ok (.aload_n 0, 1) := by decide +kernel
theorem dX5_line_77 : decode cX5_line 77 = .ok (.getfield 19, 3) := by decide +kernel
theorem dX5_line_80 : decode cX5_line 80 = .ok (.getfield 91, 3) := by decide +kernel
theorem dX5_line_83 : decode cX5_line 83 = .ok (.iload_n 1, 1) := by decide +kernel
theorem dX5_line_84 : decode cX5_line 84 = .ok (.iaload, 1) := by decide +kernel
theorem dX5_line_85 : decode cX5_line 85 = .ok (.ireturn, 1) := by decide +kernel
theorem dX5_line_86 : decode cX5_line 86 = .ok (.aload_n 0, 1) := by decide +kernel
theorem dX5_line_87 : decode cX5_line 87 = .ok (.getfield 19, 3) := by decide +kernel
theorem dX5_line_90 : decode cX5_line 90 = .ok (.iload_n 1, 1) := by decide +kernel
theorem dX5_line_91 : decode cX5_line 91 = .ok (.invokevirtual 94, 3) := by decide +kernel
theorem dX5_line_94 : decode cX5_line 94 = .ok (.ireturn, 1) := by decide +kernel
theorem dX5_line_95 : decode cX5_line 95 = .ok (.aload_n 0, 1) := by decide +kernel
theorem dX5_line_96 : decode cX5_line 96 = .ok (.iload_n 1, 1) := by decide +kernel
theorem dX5_line_97 : decode cX5_line 97 = .ok (.invokevirtual 98, 3) := by decide +kernel
theorem dX5_line_100 : decode cX5_line 100 = .ok (.ifCond .eq 7, 3) := by decide +kernel
theorem dX5_line_103 : decode cX5_line 103 = .ok (.iconst 1, 1) := by decide +kernel
theorem dX5_line_104 : decode cX5_line 104 = .ok (.goto 4, 3) := by decide +kernel
theorem dX5_line_107 : decode cX5_line 107 = .ok (.iconst 0, 1) := by decide +kernel
theorem dX5_line_108 : decode cX5_line 108 = .ok (.ireturn, 1) := by decide +kernel
theorem dX5_line_109 : decode cX5_line 109 = .ok (.aload_n 0, 1) := by decide +kernel
theorem dX5_line_110 : decode cX5_line 110 = .ok (.getfield 19, 3) := by decide +kernel
theorem dX5_line_113 : decode cX5_line 113 = .ok (.iload_n 1, 1) := by decide +kernel
theorem dX5_line_114 : decode cX5_line 114 = .ok (.invokevirtual 101, 3) := by decide +kernel
theorem dX5_line_117 : decode cX5_line 117 = .ok (.ireturn, 1) := by decide +kernel
theorem dX5_line_118 : decode cX5_line 118 = .ok (.aload_n 0, 1) := by decide +kernel
theorem dX5_line_119 : decode cX5_line 119 = .ok (.getfield 19, 3) := by decide +kernel
theorem dX5_line_122 : decode cX5_line 122 = .ok (.iload_n 1, 1) := by decide +kernel
theorem dX5_line_123 : decode cX5_line 123 = .ok (.invokevirtual 104, 3) := by decide +kernel
theorem dX5_line_126 : decode cX5_line 126 = .ok (.ireturn, 1) := by decide +kernel
theorem dX5_line_127 : decode cX5_line 127 = .ok (.bipush (-102), 2) := by decide +kernel
theorem dX5_line_129 : decode cX5_line 129 = .ok (.ireturn, 1) := by decide +kernel
theorem dX5_as_0 : decode cX5_as 0 = .ok (.aload_n 0, 1) := by decide +kernel
theorem dX5_as_1 : decode cX5_as 1 = .ok (.getfield 19, 3) := by decide +kernel
theorem dX5_as_4 : decode cX5_as 4 = .ok (.iload_n 1, 1) := by decide +kernel
theorem dX5_as_5 : decode cX5_as 5 = .ok (.invokevirtual 80, 3) := by decide +kernel
theorem dX5_as_8 : decode cX5_as 8 = .ok (.ifCond .ne 6, 3) := by decide +kernel
theorem dX5_as_11 : decode cX5_as 11 = .ok (.bipush (-101), 2) := by decide +kernel
theorem dX5_as_13 : decode cX5_as 13 = .ok (.ireturn, 1) := by decide +kernel
theorem dX5_as_14 : decode cX5_as 14 = .ok (.iload_n 2, 1) := by decide +kernel
theorem dX5_as_15 : decode cX5_as 15 = .ok (.invokestatic 107, 3) := by decide +kernel
theorem dX5_as_18 : decode cX5_as 18 = .ok (.ifCond .ne 6, 3) := by decide +kernel
theorem dX5_as_21 : decode cX5_as 21 = .ok (.bipush (-102), 2) := by decide +kernel
theorem dX5_as_23 : decode cX5_as 23 = .ok (.ireturn, 1) := by decide +kernel
theorem dX5_as_24 : decode cX5_as 24 = .ok (.aload_n 0, 1) := by decide +kernel
theorem dX5_as_25 : decode cX5_as 25 = .ok (.getfield 19, 3) := by decide +kernel
theorem dX5_as_28 : decode cX5_as 28 = .ok (.getfield 84, 3) := by decide +kernel
theorem dX5_as_31 : decode cX5_as 31 = .ok (.iload_n 1, 1) := by decide +kernel
theorem dX5_as_32 : decode cX5_as 32 = .ok (.iaload, 1) := by decide +kernel
theorem dX5_as_33 : decode cX5_as 33 = .ok (.iload_n 2, 1) := by decide +kernel
theorem dX5_as_34 : decode cX5_as 34 = .ok (.invokestatic 112, 3) := by decide +kernel
theorem dX5_as_37 : decode cX5_as 37 = .ok (.ifCond .eq 7, 3) := by decide +kernel
theorem dX5_as_40 : decode cX5_as 40 = .ok (.iload_n 1, 1) := by decide +kernel
theorem dX5_as_41 : decode cX5_as 41 = .ok (.goto 4, 3) := by decide +kernel
theorem dX5_as_44 : decode cX5_as 44 = .ok (.iconst (-1), 1) := by decide +kernel
theorem dX5_as_45 : decode cX5_as 45 = .ok (.ireturn, 1) := by decide +kernel
theorem dX5_cell_0 : decode cX5_cell 0 = .ok (.aload_n 0, 1) := by decide +kernel
theorem dX5_cell_1 : decode cX5_cell 1 = .ok (.getfield 19, 3) := by decide +kernel
theorem dX5_cell_4 : decode cX5_cell 4 = .ok (.iload_n 1, 1) := by decide +kernel
theorem dX5_cell_5 : decode cX5_cell 5 = .ok (.invokevirtual 116, 3) := by decide +kernel
theorem dX5_cell_8 : decode cX5_cell 8 = .ok (.ifCond .ne 6, 3) := by decide +kernel
theorem dX5_cell_11 : decode cX5_cell 11 = .ok (.bipush (-101), 2) := by decide +kernel
theorem dX5_cell_13 : decode cX5_cell 13 = .ok (.ireturn, 1) := by decide +kernel
theorem dX5_cell_14 : decode cX5_cell 14 = .ok (.iload_n 2, 1) := by decide +kernel
theorem dX5_cell_15 : decode cX5_cell 15 = .ok (.tableswitch 52 0 2 #[25, 34, 43], 25) := by decide +kernel
theorem dX5_cell_40 : decode cX5_cell 40 = .ok (.aload_n 0, 1) := by decide +kernel
theorem dX5_cell_41 : decode cX5_cell 41 = .ok (.getfield 19, 3) := by decide +kernel
theorem dX5_cell_44 : decode cX5_cell 44 = .ok (.iload_n 1, 1) := by decide +kernel
theorem dX5_cell_45 : decode cX5_cell 45 = .ok (.invokevirtual 119, 3) := by decide +kernel
theorem dX5_cell_48 : decode cX5_cell 48 = .ok (.ireturn, 1) := by decide +kernel
theorem dX5_cell_49 : decode cX5_cell 49 = .ok (.aload_n 0, 1) := by decide +kernel
theorem dX5_cell_50 : decode cX5_cell 50 = .ok (.invokevirtual 122, 3) := by decide +kernel
theorem dX5_cell_53 : decode cX5_cell 53 = .ok (.iload_n 1, 1) := by decide +kernel
theorem dX5_cell_54 : decode cX5_cell 54 = .ok (.invokevirtual 126, 3) := by decide +kernel
theorem dX5_cell_57 : decode cX5_cell 57 = .ok (.ireturn, 1) := by decide +kernel
theorem dX5_cell_58 : decode cX5_cell 58 = .ok (.aload_n 0, 1) := by decide +kernel
theorem dX5_cell_59 : decode cX5_cell 59 = .ok (.invokevirtual 122, 3) := by decide +kernel
theorem dX5_cell_62 : decode cX5_cell 62 = .ok (.iload_n 1, 1) := by decide +kernel
theorem dX5_cell_63 : decode cX5_cell 63 = .ok (.invokevirtual 129, 3) := by decide +kernel
theorem dX5_cell_66 : decode cX5_cell 66 = .ok (.ireturn, 1) := by decide +kernel
theorem dX5_cell_67 : decode cX5_cell 67 = .ok (.bipush (-102), 2) := by decide +kernel
theorem dX5_cell_69 : decode cX5_cell 69 = .ok (.ireturn, 1) := by decide +kernel
theorem dX5_keeps_0 : decode cX5_keeps 0 = .ok (.aload_n 0, 1) := by decide +kernel
theorem dX5_keeps_1 : decode cX5_keeps 1 = .ok (.getfield 19, 3) := by decide +kernel
theorem dX5_keeps_4 : decode cX5_keeps 4 = .ok (.iload_n 1, 1) := by decide +kernel
theorem dX5_keeps_5 : decode cX5_keeps 5 = .ok (.invokevirtual 80, 3) := by decide +kernel
theorem dX5_keeps_8 : decode cX5_keeps 8 = .ok (.ifCond .ne 6, 3) := by decide +kernel
theorem dX5_keeps_11 : decode cX5_keeps 11 = .ok (.bipush (-101), 2) := by decide +kernel
theorem dX5_keeps_13 : decode cX5_keeps 13 = .ok (.ireturn, 1) := by decide +kernel
theorem dX5_keeps_14 : decode cX5_keeps 14 = .ok (.aload_n 0, 1) := by decide +kernel
theorem dX5_keeps_15 : decode cX5_keeps 15 = .ok (.getfield 19, 3) := by decide +kernel
theorem dX5_keeps_18 : decode cX5_keeps 18 = .ok (.iload_n 1, 1) := by decide +kernel
theorem dX5_keeps_19 : decode cX5_keeps 19 = .ok (.iload_n 2, 1) := by decide +kernel
theorem dX5_keeps_20 : decode cX5_keeps 20 = .ok (.invokevirtual 132, 3) := by decide +kernel
theorem dX5_keeps_23 : decode cX5_keeps 23 = .ok (.ifCond .ne 6, 3) := by decide +kernel
theorem dX5_keeps_26 : decode cX5_keeps 26 = .ok (.bipush (-102), 2) := by decide +kernel
theorem dX5_keeps_28 : decode cX5_keeps 28 = .ok (.ireturn, 1) := by decide +kernel
theorem dX5_keeps_29 : decode cX5_keeps 29 = .ok (.aload_n 0, 1) := by decide +kernel
theorem dX5_keeps_30 : decode cX5_keeps 30 = .ok (.getfield 19, 3) := by decide +kernel
theorem dX5_keeps_33 : decode cX5_keeps 33 = .ok (.getfield 84, 3) := by decide +kernel
theorem dX5_keeps_36 : decode cX5_keeps 36 = .ok (.iload_n 1, 1) := by decide +kernel
theorem dX5_keeps_37 : decode cX5_keeps 37 = .ok (.iaload, 1) := by decide +kernel
theorem dX5_keeps_38 : decode cX5_keeps 38 = .ok (.aload_n 0, 1) := by decide +kernel
theorem dX5_keeps_39 : decode cX5_keeps 39 = .ok (.getfield 19, 3) := by decide +kernel
theorem dX5_keeps_42 : decode cX5_keeps 42 = .ok (.getfield 88, 3) := by decide +kernel
theorem dX5_keeps_45 : decode cX5_keeps 45 = .ok (.iload_n 1, 1) := by decide +kernel
theorem dX5_keeps_46 : decode cX5_keeps 46 = .ok (.iaload, 1) := by decide +kernel
theorem dX5_keeps_47 : decode cX5_keeps 47 = .ok (.aload_n 0, 1) := by decide +kernel
theorem dX5_keeps_48 : decode cX5_keeps 48 = .ok (.getfield 19, 3) := by decide +kernel
theorem dX5_keeps_51 : decode cX5_keeps 51 = .ok (.getfield 91, 3) := by decide +kernel
theorem dX5_keeps_54 : decode cX5_keeps 54 = .ok (.iload_n 1, 1) := by decide +kernel
theorem dX5_keeps_55 : decode cX5_keeps 55 = .ok (.iaload, 1) := by decide +kernel
theorem dX5_keeps_56 : decode cX5_keeps 56 = .ok (.iload_n 2, 1) := by decide +kernel
theorem dX5_keeps_57 : decode cX5_keeps 57 = .ok (.invokestatic 135, 3) := by decide +kernel
theorem dX5_keeps_60 : decode cX5_keeps 60 = .ok (.ifCond .eq 7, 3) := by decide +kernel
theorem dX5_keeps_63 : decode cX5_keeps 63 = .ok (.iconst 1, 1) := by decide +kernel
theorem dX5_keeps_64 : decode cX5_keeps 64 = .ok (.goto 4, 3) := by decide +kernel
theorem dX5_keeps_67 : decode cX5_keeps 67 = .ok (.iconst 0, 1) := by decide +kernel
theorem dX5_keeps_68 : decode cX5_keeps 68 = .ok (.ireturn, 1) := by decide +kernel
theorem dX5_mark_0 : decode cX5_mark 0 = .ok (.aload_n 0, 1) := by decide +kernel
theorem dX5_mark_1 : decode cX5_mark 1 = .ok (.getfield 19, 3) := by decide +kernel
theorem dX5_mark_4 : decode cX5_mark 4 = .ok (.iload_n 1, 1) := by decide +kernel
theorem dX5_mark_5 : decode cX5_mark 5 = .ok (.invokevirtual 116, 3) := by decide +kernel
theorem dX5_mark_8 : decode cX5_mark 8 = .ok (.ifCond .ne 6, 3) := by decide +kernel
theorem dX5_mark_11 : decode cX5_mark 11 = .ok (.bipush (-101), 2) := by decide +kernel
theorem dX5_mark_13 : decode cX5_mark 13 = .ok (.ireturn, 1) := by decide +kernel
theorem dX5_mark_14 : decode cX5_mark 14 = .ok (.iload_n 2, 1) := by decide +kernel
theorem dX5_mark_15 : decode cX5_mark 15 = .ok (.ifCond .lt 8, 3) := by decide +kernel
theorem dX5_mark_18 : decode cX5_mark 18 = .ok (.iload_n 2, 1) := by decide +kernel
theorem dX5_mark_19 : decode cX5_mark 19 = .ok (.iconst 2, 1) := by decide +kernel
theorem dX5_mark_20 : decode cX5_mark 20 = .ok (.if_icmp .le 6, 3) := by decide +kernel
theorem dX5_mark_23 : decode cX5_mark 23 = .ok (.bipush (-102), 2) := by decide +kernel
theorem dX5_mark_25 : decode cX5_mark 25 = .ok (.ireturn, 1) := by decide +kernel
theorem dX5_mark_26 : decode cX5_mark 26 = .ok (.aload_n 0, 1) := by decide +kernel
theorem dX5_mark_27 : decode cX5_mark 27 = .ok (.getfield 19, 3) := by decide +kernel
theorem dX5_mark_30 : decode cX5_mark 30 = .ok (.iload_n 1, 1) := by decide +kernel
theorem dX5_mark_31 : decode cX5_mark 31 = .ok (.invokevirtual 119, 3) := by decide +kernel
theorem dX5_mark_34 : decode cX5_mark 34 = .ok (.istore_n 3, 1) := by decide +kernel
theorem dX5_mark_35 : decode cX5_mark 35 = .ok (.aload_n 0, 1) := by decide +kernel
theorem dX5_mark_36 : decode cX5_mark 36 = .ok (.getfield 19, 3) := by decide +kernel
theorem dX5_mark_39 : decode cX5_mark 39 = .ok (.iload_n 1, 1) := by decide +kernel
theorem dX5_mark_40 : decode cX5_mark 40 = .ok (.iload_n 2, 1) := by decide +kernel
theorem dX5_mark_41 : decode cX5_mark 41 = .ok (.invokevirtual 139, 3) := by decide +kernel
theorem dX5_mark_44 : decode cX5_mark 44 = .ok (.aload_n 0, 1) := by decide +kernel
theorem dX5_mark_45 : decode cX5_mark 45 = .ok (.iconst 1, 1) := by decide +kernel
theorem dX5_mark_46 : decode cX5_mark 46 = .ok (.putfield 73, 3) := by decide +kernel
theorem dX5_mark_49 : decode cX5_mark 49 = .ok (.iload_n 3, 1) := by decide +kernel
theorem dX5_mark_50 : decode cX5_mark 50 = .ok (.ireturn, 1) := by decide +kernel
theorem dX5_clear_0 : decode cX5_clear 0 = .ok (.aload_n 0, 1) := by decide +kernel
theorem dX5_clear_1 : decode cX5_clear 1 = .ok (.getfield 19, 3) := by decide +kernel
theorem dX5_clear_4 : decode cX5_clear 4 = .ok (.invokevirtual 143, 3) := by decide +kernel
theorem dX5_clear_7 : decode cX5_clear 7 = .ok (.istore_n 1, 1) := by decide +kernel
theorem dX5_clear_8 : decode cX5_clear 8 = .ok (.aload_n 0, 1) := by decide +kernel
theorem dX5_clear_9 : decode cX5_clear 9 = .ok (.getfield 19, 3) := by decide +kernel
theorem dX5_clear_12 : decode cX5_clear 12 = .ok (.invokevirtual 146, 3) := by decide +kernel
theorem dX5_clear_15 : decode cX5_clear 15 = .ok (.aload_n 0, 1) := by decide +kernel
theorem dX5_clear_16 : decode cX5_clear 16 = .ok (.iconst 1, 1) := by decide +kernel
theorem dX5_clear_17 : decode cX5_clear 17 = .ok (.putfield 73, 3) := by decide +kernel
theorem dX5_clear_20 : decode cX5_clear 20 = .ok (.iload_n 1, 1) := by decide +kernel
theorem dX5_clear_21 : decode cX5_clear 21 = .ok (.ireturn, 1) := by decide +kernel
theorem dX5_clue_0 : decode cX5_clue 0 = .ok (.aload_n 0, 1) := by decide +kernel
theorem dX5_clue_1 : decode cX5_clue 1 = .ok (.getfield 19, 3) := by decide +kernel
theorem dX5_clue_4 : decode cX5_clue 4 = .ok (.iload_n 1, 1) := by decide +kernel
theorem dX5_clue_5 : decode cX5_clue 5 = .ok (.invokevirtual 80, 3) := by decide +kernel
theorem dX5_clue_8 : decode cX5_clue 8 = .ok (.ifCond .ne 6, 3) := by decide +kernel
theorem dX5_clue_11 : decode cX5_clue 11 = .ok (.bipush (-101), 2) := by decide +kernel
theorem dX5_clue_13 : decode cX5_clue 13 = .ok (.ireturn, 1) := by decide +kernel
theorem dX5_clue_14 : decode cX5_clue 14 = .ok (.aload_n 0, 1) := by decide +kernel
theorem dX5_clue_15 : decode cX5_clue 15 = .ok (.getfield 19, 3) := by decide +kernel
theorem dX5_clue_18 : decode cX5_clue 18 = .ok (.iload_n 1, 1) := by decide +kernel
theorem dX5_clue_19 : decode cX5_clue 19 = .ok (.invokevirtual 94, 3) := by decide +kernel
theorem dX5_clue_22 : decode cX5_clue 22 = .ok (.iload_n 2, 1) := by decide +kernel
theorem dX5_clue_23 : decode cX5_clue 23 = .ok (.iload_n 3, 1) := by decide +kernel
theorem dX5_clue_24 : decode cX5_clue 24 = .ok (.iload 4, 2) := by decide +kernel
theorem dX5_clue_26 : decode cX5_clue 26 = .ok (.invokestatic 149, 3) := by decide +kernel
theorem dX5_clue_29 : decode cX5_clue 29 = .ok (.ifCond .ne 6, 3) := by decide +kernel
theorem dX5_clue_32 : decode cX5_clue 32 = .ok (.bipush (-102), 2) := by decide +kernel
theorem dX5_clue_34 : decode cX5_clue 34 = .ok (.ireturn, 1) := by decide +kernel
theorem dX5_clue_35 : decode cX5_clue 35 = .ok (.aload_n 0, 1) := by decide +kernel
theorem dX5_clue_36 : decode cX5_clue 36 = .ok (.getfield 19, 3) := by decide +kernel
theorem dX5_clue_39 : decode cX5_clue 39 = .ok (.getfield 84, 3) := by decide +kernel
theorem dX5_clue_42 : decode cX5_clue 42 = .ok (.iload_n 1, 1) := by decide +kernel
theorem dX5_clue_43 : decode cX5_clue 43 = .ok (.iaload, 1) := by decide +kernel
theorem dX5_clue_44 : decode cX5_clue 44 = .ok (.istore 5, 2) := by decide +kernel
theorem dX5_clue_46 : decode cX5_clue 46 = .ok (.aload_n 0, 1) := by decide +kernel
theorem dX5_clue_47 : decode cX5_clue 47 = .ok (.getfield 19, 3) := by decide +kernel
theorem dX5_clue_50 : decode cX5_clue 50 = .ok (.iload_n 1, 1) := by decide +kernel
theorem dX5_clue_51 : decode cX5_clue 51 = .ok (.iload_n 2, 1) := by decide +kernel
theorem dX5_clue_52 : decode cX5_clue 52 = .ok (.iload_n 3, 1) := by decide +kernel
theorem dX5_clue_53 : decode cX5_clue 53 = .ok (.iload 4, 2) := by decide +kernel
theorem dX5_clue_55 : decode cX5_clue 55 = .ok (.invokevirtual 152, 3) := by decide +kernel
theorem dX5_clue_58 : decode cX5_clue 58 = .ok (.aload_n 0, 1) := by decide +kernel
theorem dX5_clue_59 : decode cX5_clue 59 = .ok (.iconst 1, 1) := by decide +kernel
theorem dX5_clue_60 : decode cX5_clue 60 = .ok (.putfield 73, 3) := by decide +kernel
theorem dX5_clue_63 : decode cX5_clue 63 = .ok (.iload 5, 2) := by decide +kernel
theorem dX5_clue_65 : decode cX5_clue 65 = .ok (.ireturn, 1) := by decide +kernel
theorem dX5_left_0 : decode cX5_left 0 = .ok (.aload_n 0, 1) := by decide +kernel
theorem dX5_left_1 : decode cX5_left 1 = .ok (.getfield 19, 3) := by decide +kernel
theorem dX5_left_4 : decode cX5_left 4 = .ok (.invokevirtual 156, 3) := by decide +kernel
theorem dX5_left_7 : decode cX5_left 7 = .ok (.ifCond .ne 6, 3) := by decide +kernel
theorem dX5_left_10 : decode cX5_left 10 = .ok (.bipush (-103), 2) := by decide +kernel
theorem dX5_left_12 : decode cX5_left 12 = .ok (.ireturn, 1) := by decide +kernel
theorem dX5_left_13 : decode cX5_left 13 = .ok (.aload_n 0, 1) := by decide +kernel
theorem dX5_left_14 : decode cX5_left 14 = .ok (.invokevirtual 122, 3) := by decide +kernel
theorem dX5_left_17 : decode cX5_left 17 = .ok (.getfield 160, 3) := by decide +kernel
theorem dX5_left_20 : decode cX5_left 20 = .ok (.ireturn, 1) := by decide +kernel
theorem dX5_picture_0 : decode cX5_picture 0 = .ok (.iload_n 1, 1) := by decide +kernel
theorem dX5_picture_1 : decode cX5_picture 1 = .ok (.ifCond .ge 6, 3) := by decide +kernel
theorem dX5_picture_4 : decode cX5_picture 4 = .ok (.bipush (-102), 2) := by decide +kernel
theorem dX5_picture_6 : decode cX5_picture 6 = .ok (.ireturn, 1) := by decide +kernel
theorem dX5_picture_7 : decode cX5_picture 7 = .ok (.aload_n 0, 1) := by decide +kernel
theorem dX5_picture_8 : decode cX5_picture 8 = .ok (.getfield 19, 3) := by decide +kernel
theorem dX5_picture_11 : decode cX5_picture 11 = .ok (.invokevirtual 156, 3) := by decide +kernel
theorem dX5_picture_14 : decode cX5_picture 14 = .ok (.ifCond .ne 6, 3) := by decide +kernel
theorem dX5_picture_17 : decode cX5_picture 17 = .ok (.bipush (-103), 2) := by decide +kernel
theorem dX5_picture_19 : decode cX5_picture 19 = .ok (.ireturn, 1) := by decide +kernel
theorem dX5_picture_20 : decode cX5_picture 20 = .ok (.aload_n 0, 1) := by decide +kernel
theorem dX5_picture_21 : decode cX5_picture 21 = .ok (.invokevirtual 122, 3) := by decide +kernel
theorem dX5_picture_24 : decode cX5_picture 24 = .ok (.iload_n 1, 1) := by decide +kernel
theorem dX5_picture_25 : decode cX5_picture 25 = .ok (.invokevirtual 161, 3) := by decide +kernel
theorem dX5_picture_28 : decode cX5_picture 28 = .ok (.ireturn, 1) := by decide +kernel
theorem dX5_look_0 : decode cX5_look 0 = .ok (.aload_n 0, 1) := by decide +kernel
theorem dX5_look_1 : decode cX5_look 1 = .ok (.getfield 19, 3) := by decide +kernel
theorem dX5_look_4 : decode cX5_look 4 = .ok (.invokevirtual 156, 3) := by decide +kernel
theorem dX5_look_7 : decode cX5_look 7 = .ok (.ifCond .ne 6, 3) := by decide +kernel
theorem dX5_look_10 : decode cX5_look 10 = .ok (.bipush (-103), 2) := by decide +kernel
theorem dX5_look_12 : decode cX5_look 12 = .ok (.ireturn, 1) := by decide +kernel
theorem dX5_look_13 : decode cX5_look 13 = .ok (.aload_n 0, 1) := by decide +kernel
theorem dX5_look_14 : decode cX5_look 14 = .ok (.invokevirtual 122, 3) := by decide +kernel
theorem dX5_look_17 : decode cX5_look 17 = .ok (.aload_n 0, 1) := by decide +kernel
theorem dX5_look_18 : decode cX5_look 18 = .ok (.getfield 19, 3) := by decide +kernel
theorem dX5_look_21 : decode cX5_look 21 = .ok (.invokevirtual 76, 3) := by decide +kernel
theorem dX5_look_24 : decode cX5_look 24 = .ok (.aload_n 0, 1) := by decide +kernel
theorem dX5_look_25 : decode cX5_look 25 = .ok (.getfield 19, 3) := by decide +kernel
theorem dX5_look_28 : decode cX5_look 28 = .ok (.invokevirtual 164, 3) := by decide +kernel
theorem dX5_look_31 : decode cX5_look 31 = .ok (.invokevirtual 167, 3) := by decide +kernel
theorem dX5_look_34 : decode cX5_look 34 = .ok (.ireturn, 1) := by decide +kernel
theorem dX5_odds_0 : decode cX5_odds 0 = .ok (.aload_n 0, 1) := by decide +kernel
theorem dX5_odds_1 : decode cX5_odds 1 = .ok (.getfield 19, 3) := by decide +kernel
theorem dX5_odds_4 : decode cX5_odds 4 = .ok (.iload_n 1, 1) := by decide +kernel
theorem dX5_odds_5 : decode cX5_odds 5 = .ok (.invokevirtual 116, 3) := by decide +kernel
theorem dX5_odds_8 : decode cX5_odds 8 = .ok (.ifCond .ne 6, 3) := by decide +kernel
theorem dX5_odds_11 : decode cX5_odds 11 = .ok (.bipush (-101), 2) := by decide +kernel
theorem dX5_odds_13 : decode cX5_odds 13 = .ok (.ireturn, 1) := by decide +kernel
theorem dX5_odds_14 : decode cX5_odds 14 = .ok (.iload_n 2, 1) := by decide +kernel
theorem dX5_odds_15 : decode cX5_odds 15 = .ok (.ifCond .lt 8, 3) := by decide +kernel
theorem dX5_odds_18 : decode cX5_odds 18 = .ok (.iload_n 2, 1) := by decide +kernel
theorem dX5_odds_19 : decode cX5_odds 19 = .ok (.iconst 1, 1) := by decide +kernel
theorem dX5_odds_20 : decode cX5_odds 20 = .ok (.if_icmp .le 6, 3) := by decide +kernel
theorem dX5_odds_23 : decode cX5_odds 23 = .ok (.bipush (-102), 2) := by decide +kernel
theorem dX5_odds_25 : decode cX5_odds 25 = .ok (.ireturn, 1) := by decide +kernel
theorem dX5_odds_26 : decode cX5_odds 26 = .ok (.aload_n 0, 1) := by decide +kernel
theorem dX5_odds_27 : decode cX5_odds 27 = .ok (.invokevirtual 122, 3) := by decide +kernel
theorem dX5_odds_30 : decode cX5_odds 30 = .ok (.iload_n 1, 1) := by decide +kernel
theorem dX5_odds_31 : decode cX5_odds 31 = .ok (.invokevirtual 126, 3) := by decide +kernel
theorem dX5_odds_34 : decode cX5_odds 34 = .ok (.istore_n 3, 1) := by decide +kernel
theorem dX5_odds_35 : decode cX5_odds 35 = .ok (.aload_n 0, 1) := by decide +kernel
theorem dX5_odds_36 : decode cX5_odds 36 = .ok (.getfield 41, 3) := by decide +kernel
theorem dX5_odds_39 : decode cX5_odds 39 = .ok (.getfield 160, 3) := by decide +kernel
theorem dX5_odds_42 : decode cX5_odds 42 = .ok (.istore 4, 2) := by decide +kernel
theorem dX5_odds_44 : decode cX5_odds 44 = .ok (.iload_n 3, 1) := by decide +kernel
theorem dX5_odds_45 : decode cX5_odds 45 = .ok (.iload 4, 2) := by decide +kernel
theorem dX5_odds_47 : decode cX5_odds 47 = .ok (.invokestatic 171, 3) := by decide +kernel
theorem dX5_odds_50 : decode cX5_odds 50 = .ok (.istore 5, 2) := by decide +kernel
theorem dX5_odds_52 : decode cX5_odds 52 = .ok (.iload 5, 2) := by decide +kernel
theorem dX5_odds_54 : decode cX5_odds 54 = .ok (.iconst 1, 1) := by decide +kernel
theorem dX5_odds_55 : decode cX5_odds 55 = .ok (.if_icmp .ge 13, 3) := by decide +kernel
theorem dX5_odds_58 : decode cX5_odds 58 = .ok (.iload_n 2, 1) := by decide +kernel
theorem dX5_odds_59 : decode cX5_odds 59 = .ok (.ifCond .ne 7, 3) := by decide +kernel
theorem dX5_odds_62 : decode cX5_odds 62 = .ok (.iconst 0, 1) := by decide +kernel
theorem dX5_odds_63 : decode cX5_odds 63 = .ok (.goto 4, 3) := by decide +kernel
theorem dX5_odds_66 : decode cX5_odds 66 = .ok (.iconst 1, 1) := by decide +kernel
theorem dX5_odds_67 : decode cX5_odds 67 = .ok (.ireturn, 1) := by decide +kernel
theorem dX5_odds_68 : decode cX5_odds 68 = .ok (.iload_n 2, 1) := by decide +kernel
theorem dX5_odds_69 : decode cX5_odds 69 = .ok (.ifCond .ne 7, 3) := by decide +kernel
theorem dX5_odds_72 : decode cX5_odds 72 = .ok (.iload_n 3, 1) := by decide +kernel
theorem dX5_odds_73 : decode cX5_odds 73 = .ok (.goto 5, 3) := by decide +kernel
theorem dX5_odds_76 : decode cX5_odds 76 = .ok (.iload 4, 2) := by decide +kernel
theorem dX5_odds_78 : decode cX5_odds 78 = .ok (.iload 5, 2) := by decide +kernel
theorem dX5_odds_80 : decode cX5_odds 80 = .ok (.idiv, 1) := by decide +kernel
theorem dX5_odds_81 : decode cX5_odds 81 = .ok (.ireturn, 1) := by decide +kernel
theorem dX5_hints_0 : decode cX5_hints 0 = .ok (.aload_n 0, 1) := by decide +kernel
theorem dX5_hints_1 : decode cX5_hints 1 = .ok (.getfield 19, 3) := by decide +kernel
theorem dX5_hints_4 : decode cX5_hints 4 = .ok (.invokevirtual 156, 3) := by decide +kernel
theorem dX5_hints_7 : decode cX5_hints 7 = .ok (.ifCond .eq 14, 3) := by decide +kernel
theorem dX5_hints_10 : decode cX5_hints 10 = .ok (.aload_n 0, 1) := by decide +kernel
theorem dX5_hints_11 : decode cX5_hints 11 = .ok (.invokevirtual 122, 3) := by decide +kernel
theorem dX5_hints_14 : decode cX5_hints 14 = .ok (.iload_n 1, 1) := by decide +kernel
theorem dX5_hints_15 : decode cX5_hints 15 = .ok (.invokevirtual 174, 3) := by decide +kernel
theorem dX5_hints_18 : decode cX5_hints 18 = .ok (.ifCond .ne 6, 3) := by decide +kernel
theorem dX5_hints_21 : decode cX5_hints 21 = .ok (.bipush (-101), 2) := by decide +kernel
theorem dX5_hints_23 : decode cX5_hints 23 = .ok (.ireturn, 1) := by decide +kernel
theorem dX5_hints_24 : decode cX5_hints 24 = .ok (.iload_n 2, 1) := by decide +kernel
theorem dX5_hints_25 : decode cX5_hints 25 = .ok (.ifCond .lt 8, 3) := by decide +kernel
theorem dX5_hints_28 : decode cX5_hints 28 = .ok (.iload_n 2, 1) := by decide +kernel
theorem dX5_hints_29 : decode cX5_hints 29 = .ok (.iconst 3, 1) := by decide +kernel
theorem dX5_hints_30 : decode cX5_hints 30 = .ok (.if_icmp .le 6, 3) := by decide +kernel
theorem dX5_hints_33 : decode cX5_hints 33 = .ok (.bipush (-102), 2) := by decide +kernel
theorem dX5_hints_35 : decode cX5_hints 35 = .ok (.ireturn, 1) := by decide +kernel
theorem dX5_hints_36 : decode cX5_hints 36 = .ok (.aload_n 0, 1) := by decide +kernel
theorem dX5_hints_37 : decode cX5_hints 37 = .ok (.getfield 177, 3) := by decide +kernel
theorem dX5_hints_40 : decode cX5_hints 40 = .ok (.bipush 12, 2) := by decide +kernel
theorem dX5_hints_42 : decode cX5_hints 42 = .ok (.if_icmp .lt 6, 3) := by decide +kernel
theorem dX5_hints_45 : decode cX5_hints 45 = .ok (.bipush (-103), 2) := by decide +kernel
theorem dX5_hints_47 : decode cX5_hints 47 = .ok (.ireturn, 1) := by decide +kernel
theorem dX5_hints_48 : decode cX5_hints 48 = .ok (.aload_n 0, 1) := by decide +kernel
theorem dX5_hints_49 : decode cX5_hints 49 = .ok (.dup, 1) := by decide +kernel
theorem dX5_hints_50 : decode cX5_hints 50 = .ok (.getfield 177, 3) := by decide +kernel
theorem dX5_hints_53 : decode cX5_hints 53 = .ok (.iconst 1, 1) := by decide +kernel
theorem dX5_hints_54 : decode cX5_hints 54 = .ok (.iadd, 1) := by decide +kernel
theorem dX5_hints_55 : decode cX5_hints 55 = .ok (.putfield 177, 3) := by decide +kernel
theorem dX5_hints_58 : decode cX5_hints 58 = .ok (.aload_n 0, 1) := by decide +kernel
theorem dX5_hints_59 : decode cX5_hints 59 = .ok (.iload_n 1, 1) := by decide +kernel
theorem dX5_hints_60 : decode cX5_hints 60 = .ok (.invokevirtual 180, 3) := by decide +kernel
theorem dX5_hints_63 : decode cX5_hints 63 = .ok (.istore_n 3, 1) := by decide +kernel
theorem dX5_hints_64 : decode cX5_hints 64 = .ok (.iload_n 3, 1) := by decide +kernel
theorem dX5_hints_65 : decode cX5_hints 65 = .ok (.iconst (-1), 1) := by decide +kernel
theorem dX5_hints_66 : decode cX5_hints 66 = .ok (.if_icmp .ne 5, 3) := by decide +kernel
theorem dX5_hints_69 : decode cX5_hints 69 = .ok (.iconst (-1), 1) := by decide +kernel
theorem dX5_hints_70 : decode cX5_hints 70 = .ok (.ireturn, 1) := by decide +kernel
theorem dX5_hints_71 : decode cX5_hints 71 = .ok (.iload_n 2, 1) := by decide +kernel
theorem dX5_hints_72 : decode cX5_hints 72 = .ok (.ifCond .ne 10, 3) := by decide +kernel
theorem dX5_hints_75 : decode cX5_hints 75 = .ok (.iload_n 3, 1) := by decide +kernel
theorem dX5_hints_76 : decode cX5_hints 76 = .ok (.invokestatic 183, 3) := by decide +kernel
theorem dX5_hints_79 : decode cX5_hints 79 = .ok (.goto 8, 3) := by decide +kernel
theorem dX5_hints_82 : decode cX5_hints 82 = .ok (.iload_n 3, 1) := by decide +kernel
theorem dX5_hints_83 : decode cX5_hints 83 = .ok (.iload_n 2, 1) := by decide +kernel
theorem dX5_hints_84 : decode cX5_hints 84 = .ok (.invokestatic 188, 3) := by decide +kernel
theorem dX5_hints_87 : decode cX5_hints 87 = .ok (.ireturn, 1) := by decide +kernel
theorem dX5_one_0 : decode cX5_one 0 = .ok (.aload_n 0, 1) := by decide +kernel
theorem dX5_one_1 : decode cX5_one 1 = .ok (.getfield 19, 3) := by decide +kernel
theorem dX5_one_4 : decode cX5_one 4 = .ok (.invokevirtual 156, 3) := by decide +kernel
theorem dX5_one_7 : decode cX5_one 7 = .ok (.ifCond .eq 12, 3) := by decide +kernel
theorem dX5_one_10 : decode cX5_one 10 = .ok (.aload_n 0, 1) := by decide +kernel
theorem dX5_one_11 : decode cX5_one 11 = .ok (.getfield 191, 3) := by decide +kernel
theorem dX5_one_14 : decode cX5_one 14 = .ok (.bipush 6, 2) := by decide +kernel
theorem dX5_one_16 : decode cX5_one 16 = .ok (.if_icmp .lt 6, 3) := by decide +kernel
theorem dX5_one_19 : decode cX5_one 19 = .ok (.bipush (-103), 2) := by decide +kernel
theorem dX5_one_21 : decode cX5_one 21 = .ok (.ireturn, 1) := by decide +kernel
theorem dX5_one_22 : decode cX5_one 22 = .ok (.aload_n 0, 1) := by decide +kernel
theorem dX5_one_23 : decode cX5_one 23 = .ok (.dup, 1) := by decide +kernel
theorem dX5_one_24 : decode cX5_one 24 = .ok (.getfield 191, 3) := by decide +kernel
theorem dX5_one_27 : decode cX5_one 27 = .ok (.iconst 1, 1) := by decide +kernel
theorem dX5_one_28 : decode cX5_one 28 = .ok (.iadd, 1) := by decide +kernel
theorem dX5_one_29 : decode cX5_one 29 = .ok (.putfield 191, 3) := by decide +kernel
theorem dX5_one_32 : decode cX5_one 32 = .ok (.aload_n 0, 1) := by decide +kernel
theorem dX5_one_33 : decode cX5_one 33 = .ok (.invokevirtual 122, 3) := by decide +kernel
theorem dX5_one_36 : decode cX5_one 36 = .ok (.getfield 160, 3) := by decide +kernel
theorem dX5_one_39 : decode cX5_one 39 = .ok (.iconst 1, 1) := by decide +kernel
theorem dX5_one_40 : decode cX5_one 40 = .ok (.if_icmp .ne 6, 3) := by decide +kernel
theorem dX5_one_43 : decode cX5_one 43 = .ok (.bipush (-2), 2) := by decide +kernel
theorem dX5_one_45 : decode cX5_one 45 = .ok (.ireturn, 1) := by decide +kernel
theorem dX5_one_46 : decode cX5_one 46 = .ok (.iconst 0, 1) := by decide +kernel
theorem dX5_one_47 : decode cX5_one 47 = .ok (.istore_n 1, 1) := by decide +kernel
theorem dX5_one_48 : decode cX5_one 48 = .ok (.iload_n 1, 1) := by decide +kernel
theorem dX5_one_49 : decode cX5_one 49 = .ok (.aload_n 0, 1) := by decide +kernel
theorem dX5_one_50 : decode cX5_one 50 = .ok (.getfield 19, 3) := by decide +kernel
theorem dX5_one_53 : decode cX5_one 53 = .ok (.invokevirtual 194, 3) := by decide +kernel
theorem dX5_one_56 : decode cX5_one 56 = .ok (.if_icmp .ge 27, 3) := by decide +kernel
theorem dX5_one_59 : decode cX5_one 59 = .ok (.aload_n 0, 1) := by decide +kernel
theorem dX5_one_60 : decode cX5_one 60 = .ok (.iload_n 1, 1) := by decide +kernel
theorem dX5_one_61 : decode cX5_one 61 = .ok (.invokevirtual 197, 3) := by decide +kernel
theorem dX5_one_64 : decode cX5_one 64 = .ok (.istore_n 2, 1) := by decide +kernel
theorem dX5_one_65 : decode cX5_one 65 = .ok (.iload_n 2, 1) := by decide +kernel
theorem dX5_one_66 : decode cX5_one 66 = .ok (.iconst (-1), 1) := by decide +kernel
theorem dX5_one_67 : decode cX5_one 67 = .ok (.if_icmp .eq 10, 3) := by decide +kernel
theorem dX5_one_70 : decode cX5_one 70 = .ok (.bipush 100, 2) := by decide +kernel
theorem dX5_one_72 : decode cX5_one 72 = .ok (.iload_n 1, 1) := by decide +kernel
theorem dX5_one_73 : decode cX5_one 73 = .ok (.imul, 1) := by decide +kernel
theorem dX5_one_74 : decode cX5_one 74 = .ok (.iload_n 2, 1) := by decide +kernel
theorem dX5_one_75 : decode cX5_one 75 = .ok (.iadd, 1) := by decide +kernel
theorem dX5_one_76 : decode cX5_one 76 = .ok (.ireturn, 1) := by decide +kernel
theorem dX5_one_77 : decode cX5_one 77 = .ok (.iinc 1 1, 3) := by decide +kernel
theorem dX5_one_80 : decode cX5_one 80 = .ok (.goto (-32), 3) := by decide +kernel
theorem dX5_one_83 : decode cX5_one 83 = .ok (.iconst (-1), 1) := by decide +kernel
theorem dX5_one_84 : decode cX5_one 84 = .ok (.ireturn, 1) := by decide +kernel
theorem dX5_see_0 : decode cX5_see 0 = .ok (.aload_n 0, 1) := by decide +kernel
theorem dX5_see_1 : decode cX5_see 1 = .ok (.getfield 19, 3) := by decide +kernel
theorem dX5_see_4 : decode cX5_see 4 = .ok (.iload_n 1, 1) := by decide +kernel
theorem dX5_see_5 : decode cX5_see 5 = .ok (.invokevirtual 80, 3) := by decide +kernel
theorem dX5_see_8 : decode cX5_see 8 = .ok (.ifCond .ne 6, 3) := by decide +kernel
theorem dX5_see_11 : decode cX5_see 11 = .ok (.bipush (-101), 2) := by decide +kernel
theorem dX5_see_13 : decode cX5_see 13 = .ok (.ireturn, 1) := by decide +kernel
theorem dX5_see_14 : decode cX5_see 14 = .ok (.aload_n 0, 1) := by decide +kernel
theorem dX5_see_15 : decode cX5_see 15 = .ok (.getfield 19, 3) := by decide +kernel
theorem dX5_see_18 : decode cX5_see 18 = .ok (.iload_n 1, 1) := by decide +kernel
theorem dX5_see_19 : decode cX5_see 19 = .ok (.iload_n 2, 1) := by decide +kernel
theorem dX5_see_20 : decode cX5_see 20 = .ok (.invokevirtual 132, 3) := by decide +kernel
theorem dX5_see_23 : decode cX5_see 23 = .ok (.ifCond .ne 6, 3) := by decide +kernel
theorem dX5_see_26 : decode cX5_see 26 = .ok (.bipush (-102), 2) := by decide +kernel
theorem dX5_see_28 : decode cX5_see 28 = .ok (.ireturn, 1) := by decide +kernel
theorem dX5_see_29 : decode cX5_see 29 = .ok (.aload_n 0, 1) := by decide +kernel
theorem dX5_see_30 : decode cX5_see 30 = .ok (.getfield 19, 3) := by decide +kernel
theorem dX5_see_33 : decode cX5_see 33 = .ok (.getfield 200, 3) := by decide +kernel
theorem dX5_see_36 : decode cX5_see 36 = .ok (.bipush 6, 2) := by decide +kernel
theorem dX5_see_38 : decode cX5_see 38 = .ok (.if_icmp .lt 6, 3) := by decide +kernel
theorem dX5_see_41 : decode cX5_see 41 = .ok (.bipush (-104), 2) := by decide +kernel
theorem dX5_see_43 : decode cX5_see 43 = .ok (.ireturn, 1) := by decide +kernel
theorem dX5_see_44 : decode cX5_see 44 = .ok (.aload_n 0, 1) := by decide +kernel
theorem dX5_see_45 : decode cX5_see 45 = .ok (.getfield 19, 3) := by decide +kernel
theorem dX5_see_48 : decode cX5_see 48 = .ok (.iload_n 1, 1) := by decide +kernel
theorem dX5_see_49 : decode cX5_see 49 = .ok (.iload_n 2, 1) := by decide +kernel
theorem dX5_see_50 : decode cX5_see 50 = .ok (.iload_n 3, 1) := by decide +kernel
theorem dX5_see_51 : decode cX5_see 51 = .ok (.invokevirtual 203, 3) := by decide +kernel
theorem dX5_see_54 : decode cX5_see 54 = .ok (.aload_n 0, 1) := by decide +kernel
theorem dX5_see_55 : decode cX5_see 55 = .ok (.getfield 19, 3) := by decide +kernel
theorem dX5_see_58 : decode cX5_see 58 = .ok (.getfield 200, 3) := by decide +kernel
theorem dX5_see_61 : decode cX5_see 61 = .ok (.ireturn, 1) := by decide +kernel
theorem dX5_forget_0 : decode cX5_forget 0 = .ok (.aload_n 0, 1) := by decide +kernel
theorem dX5_forget_1 : decode cX5_forget 1 = .ok (.getfield 19, 3) := by decide +kernel
theorem dX5_forget_4 : decode cX5_forget 4 = .ok (.getfield 200, 3) := by decide +kernel
theorem dX5_forget_7 : decode cX5_forget 7 = .ok (.istore_n 1, 1) := by decide +kernel
theorem dX5_forget_8 : decode cX5_forget 8 = .ok (.aload_n 0, 1) := by decide +kernel
theorem dX5_forget_9 : decode cX5_forget 9 = .ok (.getfield 19, 3) := by decide +kernel
theorem dX5_forget_12 : decode cX5_forget 12 = .ok (.iconst 0, 1) := by decide +kernel
theorem dX5_forget_13 : decode cX5_forget 13 = .ok (.putfield 200, 3) := by decide +kernel
theorem dX5_forget_16 : decode cX5_forget 16 = .ok (.iload_n 1, 1) := by decide +kernel
theorem dX5_forget_17 : decode cX5_forget 17 = .ok (.ireturn, 1) := by decide +kernel
theorem dX5_games_0 : decode cX5_games 0 = .ok (.iload_n 1, 1) := by decide +kernel
theorem dX5_games_1 : decode cX5_games 1 = .ok (.iconst 1, 1) := by decide +kernel
theorem dX5_games_2 : decode cX5_games 2 = .ok (.if_icmp .lt 22, 3) := by decide +kernel
theorem dX5_games_5 : decode cX5_games 5 = .ok (.iload_n 1, 1) := by decide +kernel
theorem dX5_games_6 : decode cX5_games 6 = .ok (.bipush 10, 2) := by decide +kernel
theorem dX5_games_8 : decode cX5_games 8 = .ok (.if_icmp .gt 16, 3) := by decide +kernel
theorem dX5_games_11 : decode cX5_games 11 = .ok (.iload_n 2, 1) := by decide +kernel
theorem dX5_games_12 : decode cX5_games 12 = .ok (.ifCond .lt 12, 3) := by decide +kernel
theorem dX5_games_15 : decode cX5_games 15 = .ok (.iload_n 3, 1) := by decide +kernel
theorem dX5_games_16 : decode cX5_games 16 = .ok (.ifCond .lt 8, 3) := by decide +kernel
theorem dX5_games_19 : decode cX5_games 19 = .ok (.iload_n 3, 1) := by decide +kernel
theorem dX5_games_20 : decode cX5_games 20 = .ok (.iconst 2, 1) := by decide +kernel
theorem dX5_games_21 : decode cX5_games 21 = .ok (.if_icmp .le 6, 3) := by decide +kernel
theorem dX5_games_24 : decode cX5_games 24 = .ok (.bipush (-102), 2) := by decide +kernel
theorem dX5_games_26 : decode cX5_games 26 = .ok (.ireturn, 1) := by decide +kernel
theorem dX5_games_27 : decode cX5_games 27 = .ok (.aload_n 0, 1) := by decide +kernel
theorem dX5_games_28 : decode cX5_games 28 = .ok (.getfield 19, 3) := by decide +kernel
theorem dX5_games_31 : decode cX5_games 31 = .ok (.invokevirtual 156, 3) := by decide +kernel
theorem dX5_games_34 : decode cX5_games 34 = .ok (.ifCond .ne 6, 3) := by decide +kernel
theorem dX5_games_37 : decode cX5_games 37 = .ok (.bipush (-103), 2) := by decide +kernel
theorem dX5_games_39 : decode cX5_games 39 = .ok (.ireturn, 1) := by decide +kernel
theorem dX5_games_40 : decode cX5_games 40 = .ok (.aload_n 0, 1) := by decide +kernel
theorem dX5_games_41 : decode cX5_games 41 = .ok (.invokevirtual 122, 3) := by decide +kernel
theorem dX5_games_44 : decode cX5_games 44 = .ok (.getfield 160, 3) := by decide +kernel
theorem dX5_games_47 : decode cX5_games 47 = .ok (.istore 4, 2) := by decide +kernel
theorem dX5_games_49 : decode cX5_games 49 = .ok (.iload 4, 2) := by decide +kernel
theorem dX5_games_51 : decode cX5_games 51 = .ok (.iconst 1, 1) := by decide +kernel
theorem dX5_games_52 : decode cX5_games 52 = .ok (.if_icmp .lt 11, 3) := by decide +kernel
theorem dX5_games_55 : decode cX5_games 55 = .ok (.iload 4, 2) := by decide +kernel
theorem dX5_games_57 : decode cX5_games 57 = .ok (.sipush 200, 3) := by decide +kernel
theorem dX5_games_60 : decode cX5_games 60 = .ok (.if_icmp .le 6, 3) := by decide +kernel
theorem dX5_games_63 : decode cX5_games 63 = .ok (.bipush (-103), 2) := by decide +kernel
theorem dX5_games_65 : decode cX5_games 65 = .ok (.ireturn, 1) := by decide +kernel
theorem dX5_games_66 : decode cX5_games 66 = .ok (.iload_n 2, 1) := by decide +kernel
theorem dX5_games_67 : decode cX5_games 67 = .ok (.i2l, 1) := by decide +kernel
theorem dX5_games_68 : decode cX5_games 68 = .ok (.lstore 5, 2) := by decide +kernel
theorem dX5_games_70 : decode cX5_games 70 = .ok (.iconst 0, 1) := by decide +kernel
theorem dX5_games_71 : decode cX5_games 71 = .ok (.istore 7, 2) := by decide +kernel
theorem dX5_games_73 : decode cX5_games 73 = .ok (.iconst 0, 1) := by decide +kernel
theorem dX5_games_74 : decode cX5_games 74 = .ok (.istore 8, 2) := by decide +kernel
theorem dX5_games_76 : decode cX5_games 76 = .ok (.iconst 0, 1) := by decide +kernel
theorem dX5_games_77 : decode cX5_games 77 = .ok (.istore 9, 2) := by decide +kernel
theorem dX5_games_79 : decode cX5_games 79 = .ok (.iload 9, 2) := by decide +kernel
theorem dX5_games_81 : decode cX5_games 81 = .ok (.iload_n 1, 1) := by decide +kernel
theorem dX5_games_82 : decode cX5_games 82 = .ok (.if_icmp .ge 56, 3) := by decide +kernel
theorem dX5_games_85 : decode cX5_games 85 = .ok (.lload 5, 2) := by decide +kernel
theorem dX5_games_87 : decode cX5_games 87 = .ok (.invokestatic 207, 3) := by decide +kernel
theorem dX5_games_90 : decode cX5_games 90 = .ok (.lstore 5, 2) := by decide +kernel
theorem dX5_games_92 : decode cX5_games 92 = .ok (.aload_n 0, 1) := by decide +kernel
theorem dX5_games_93 : decode cX5_games 93 = .ok (.aload_n 0, 1) := by decide +kernel
theorem dX5_games_94 : decode cX5_games 94 = .ok (.getfield 41, 3) := by decide +kernel
theorem dX5_games_97 : decode cX5_games 97 = .ok (.lload 5, 2) := by decide +kernel
theorem dX5_games_99 : decode cX5_games 99 = .ok (.ldc2_w 211, 3) := by decide +kernel
theorem dX5_games_102 : decode cX5_games 102 = .ok (.ldiv, 1) := by decide +kernel
theorem dX5_games_103 : decode cX5_games 103 = .ok (.iload 4, 2) := by decide +kernel
theorem dX5_games_105 : decode cX5_games 105 = .ok (.i2l, 1) := by decide +kernel
theorem dX5_games_106 : decode cX5_games 106 = .ok (.lrem, 1) := by decide +kernel
theorem dX5_games_107 : decode cX5_games 107 = .ok (.l2i, 1) := by decide +kernel
theorem dX5_games_108 : decode cX5_games 108 = .ok (.invokevirtual 161, 3) := by decide +kernel
theorem dX5_games_111 : decode cX5_games 111 = .ok (.invokevirtual 213, 3) := by decide +kernel
theorem dX5_games_114 : decode cX5_games 114 = .ok (.istore 10, 2) := by decide +kernel
theorem dX5_games_116 : decode cX5_games 116 = .ok (.iload 7, 2) := by decide +kernel
theorem dX5_games_118 : decode cX5_games 118 = .ok (.iload 10, 2) := by decide +kernel
theorem dX5_games_120 : decode cX5_games 120 = .ok (.iadd, 1) := by decide +kernel
theorem dX5_games_121 : decode cX5_games 121 = .ok (.istore 7, 2) := by decide +kernel
theorem dX5_games_123 : decode cX5_games 123 = .ok (.iload 10, 2) := by decide +kernel
theorem dX5_games_125 : decode cX5_games 125 = .ok (.iconst 2, 1) := by decide +kernel
theorem dX5_games_126 : decode cX5_games 126 = .ok (.if_icmp .gt 6, 3) := by decide +kernel
theorem dX5_games_129 : decode cX5_games 129 = .ok (.iinc 8 1, 3) := by decide +kernel
theorem dX5_games_132 : decode cX5_games 132 = .ok (.iinc 9 1, 3) := by decide +kernel
theorem dX5_games_135 : decode cX5_games 135 = .ok (.goto (-56), 3) := by decide +kernel
theorem dX5_games_138 : decode cX5_games 138 = .ok (.iload_n 3, 1) := by decide +kernel
theorem dX5_games_139 : decode cX5_games 139 = .ok (.ifCond .ne 6, 3) := by decide +kernel
theorem dX5_games_142 : decode cX5_games 142 = .ok (.iload 7, 2) := by decide +kernel
theorem dX5_games_144 : decode cX5_games 144 = .ok (.ireturn, 1) := by decide +kernel
theorem dX5_games_145 : decode cX5_games 145 = .ok (.iload_n 3, 1) := by decide +kernel
theorem dX5_games_146 : decode cX5_games 146 = .ok (.iconst 1, 1) := by decide +kernel
theorem dX5_games_147 : decode cX5_games 147 = .ok (.if_icmp .ne 8, 3) := by decide +kernel
theorem dX5_games_150 : decode cX5_games 150 = .ok (.iload 8, 2) := by decide +kernel
theorem dX5_games_152 : decode cX5_games 152 = .ok (.goto 6, 3) := by decide +kernel
theorem dX5_games_155 : decode cX5_games 155 = .ok (.lload 5, 2) := by decide +kernel
theorem dX5_games_157 : decode cX5_games 157 = .ok (.l2i, 1) := by decide +kernel
theorem dX5_games_158 : decode cX5_games 158 = .ok (.ireturn, 1) := by decide +kernel
theorem dX5_image_0 : decode cX5_image 0 = .ok (.aload_n 0, 1) := by decide +kernel
theorem dX5_image_1 : decode cX5_image 1 = .ok (.getfield 19, 3) := by decide +kernel
theorem dX5_image_4 : decode cX5_image 4 = .ok (.invokevirtual 156, 3) := by decide +kernel
theorem dX5_image_7 : decode cX5_image 7 = .ok (.ifCond .ne 6, 3) := by decide +kernel
theorem dX5_image_10 : decode cX5_image 10 = .ok (.bipush (-103), 2) := by decide +kernel
theorem dX5_image_12 : decode cX5_image 12 = .ok (.ireturn, 1) := by decide +kernel
theorem dX5_image_13 : decode cX5_image 13 = .ok (.aload_n 0, 1) := by decide +kernel
theorem dX5_image_14 : decode cX5_image 14 = .ok (.getfield 23, 3) := by decide +kernel
theorem dX5_image_17 : decode cX5_image 17 = .ok (.aload_n 0, 1) := by decide +kernel
theorem dX5_image_18 : decode cX5_image 18 = .ok (.getfield 19, 3) := by decide +kernel
theorem dX5_image_21 : decode cX5_image 21 = .ok (.invokevirtual 62, 3) := by decide +kernel
theorem dX5_image_24 : decode cX5_image 24 = .ok (.aload_n 0, 1) := by decide +kernel
theorem dX5_image_25 : decode cX5_image 25 = .ok (.iconst 1, 1) := by decide +kernel
theorem dX5_image_26 : decode cX5_image 26 = .ok (.putfield 69, 3) := by decide +kernel
theorem dX5_image_29 : decode cX5_image 29 = .ok (.aload_n 0, 1) := by decide +kernel
theorem dX5_image_30 : decode cX5_image 30 = .ok (.getfield 23, 3) := by decide +kernel
theorem dX5_image_33 : decode cX5_image 33 = .ok (.invokevirtual 143, 3) := by decide +kernel
theorem dX5_image_36 : decode cX5_image 36 = .ok (.ireturn, 1) := by decide +kernel
theorem dX5_restore_0 : decode cX5_restore 0 = .ok (.aload_n 0, 1) := by decide +kernel
theorem dX5_restore_1 : decode cX5_restore 1 = .ok (.getfield 69, 3) := by decide +kernel
theorem dX5_restore_4 : decode cX5_restore 4 = .ok (.ifCond .ne 6, 3) := by decide +kernel
theorem dX5_restore_7 : decode cX5_restore 7 = .ok (.bipush (-103), 2) := by decide +kernel
theorem dX5_restore_9 : decode cX5_restore 9 = .ok (.ireturn, 1) := by decide +kernel
theorem dX5_restore_10 : decode cX5_restore 10 = .ok (.aload_n 0, 1) := by decide +kernel
theorem dX5_restore_11 : decode cX5_restore 11 = .ok (.getfield 19, 3) := by decide +kernel
theorem dX5_restore_14 : decode cX5_restore 14 = .ok (.aload_n 0, 1) := by decide +kernel
theorem dX5_restore_15 : decode cX5_restore 15 = .ok (.getfield 23, 3) := by decide +kernel
theorem dX5_restore_18 : decode cX5_restore 18 = .ok (.invokevirtual 62, 3) := by decide +kernel
theorem dX5_restore_21 : decode cX5_restore 21 = .ok (.aload_n 0, 1) := by decide +kernel
theorem dX5_restore_22 : decode cX5_restore 22 = .ok (.iconst 1, 1) := by decide +kernel
theorem dX5_restore_23 : decode cX5_restore 23 = .ok (.putfield 73, 3) := by decide +kernel
theorem dX5_restore_26 : decode cX5_restore 26 = .ok (.aload_n 0, 1) := by decide +kernel
theorem dX5_restore_27 : decode cX5_restore 27 = .ok (.getfield 19, 3) := by decide +kernel
theorem dX5_restore_30 : decode cX5_restore 30 = .ok (.invokevirtual 143, 3) := by decide +kernel
theorem dX5_restore_33 : decode cX5_restore 33 = .ok (.ireturn, 1) := by decide +kernel
theorem dX5_count_0 : decode cX5_count 0 = .ok (.iload_n 1, 1) := by decide +kernel
theorem dX5_count_1 : decode cX5_count 1 = .ok (.tableswitch 141 0 10 #[59, 67, 75, 83, 94, 105, 110, 118, 126, 131, 136], 59) := by decide +kernel
theorem dX5_count_60 : decode cX5_count 60 = .ok (.aload_n 0, 1) := by decide +kernel
theorem dX5_count_61 : decode cX5_count 61 = .ok (.getfield 19, 3) := by decide +kernel
theorem dX5_count_64 : decode cX5_count 64 = .ok (.getfield 216, 3) := by decide +kernel
theorem dX5_count_67 : decode cX5_count 67 = .ok (.ireturn, 1) := by decide +kernel
theorem dX5_count_68 : decode cX5_count 68 = .ok (.aload_n 0, 1) := by decide +kernel
theorem dX5_count_69 : decode cX5_count 69 = .ok (.getfield 19, 3) := by decide +kernel
theorem dX5_count_72 : decode cX5_count 72 = .ok (.getfield 219, 3) := by decide +kernel
theorem dX5_count_75 : decode cX5_count 75 = .ok (.ireturn, 1) := by decide +kernel
theorem dX5_count_76 : decode cX5_count 76 = .ok (.aload_n 0, 1) := by decide +kernel
theorem dX5_count_77 : decode cX5_count 77 = .ok (.getfield 19, 3) := by decide +kernel
theorem dX5_count_80 : decode cX5_count 80 = .ok (.invokevirtual 194, 3) := by decide +kernel
theorem dX5_count_83 : decode cX5_count 83 = .ok (.ireturn, 1) := by decide +kernel
theorem dX5_count_84 : decode cX5_count 84 = .ok (.aload_n 0, 1) := by decide +kernel
theorem dX5_count_85 : decode cX5_count 85 = .ok (.getfield 19, 3) := by decide +kernel
theorem dX5_count_88 : decode cX5_count 88 = .ok (.getfield 222, 3) := by decide +kernel
theorem dX5_count_91 : decode cX5_count 91 = .ok (.invokestatic 183, 3) := by decide +kernel
theorem dX5_count_94 : decode cX5_count 94 = .ok (.ireturn, 1) := by decide +kernel
theorem dX5_count_95 : decode cX5_count 95 = .ok (.aload_n 0, 1) := by decide +kernel
theorem dX5_count_96 : decode cX5_count 96 = .ok (.getfield 19, 3) := by decide +kernel
theorem dX5_count_99 : decode cX5_count 99 = .ok (.getfield 225, 3) := by decide +kernel
theorem dX5_count_102 : decode cX5_count 102 = .ok (.invokestatic 183, 3) := by decide +kernel
theorem dX5_count_105 : decode cX5_count 105 = .ok (.ireturn, 1) := by decide +kernel
theorem dX5_count_106 : decode cX5_count 106 = .ok (.aload_n 0, 1) := by decide +kernel
theorem dX5_count_107 : decode cX5_count 107 = .ok (.invokevirtual 228, 3) := by decide +kernel
theorem dX5_count_110 : decode cX5_count 110 = .ok (.ireturn, 1) := by decide +kernel
theorem dX5_count_111 : decode cX5_count 111 = .ok (.aload_n 0, 1) := by decide +kernel
theorem dX5_count_112 : decode cX5_count 112 = .ok (.getfield 19, 3) := by decide +kernel
theorem dX5_count_115 : decode cX5_count 115 = .ok (.getfield 200, 3) := by decide +kernel
theorem dX5_count_118 : decode cX5_count 118 = .ok (.ireturn, 1) := by decide +kernel
theorem dX5_count_119 : decode cX5_count 119 = .ok (.aload_n 0, 1) := by decide +kernel
theorem dX5_count_120 : decode cX5_count 120 = .ok (.getfield 12, 3) := by decide +kernel
theorem dX5_count_123 : decode cX5_count 123 = .ok (.getfield 48, 3) := by decide +kernel
theorem dX5_count_126 : decode cX5_count 126 = .ok (.ireturn, 1) := by decide +kernel
theorem dX5_count_127 : decode cX5_count 127 = .ok (.aload_n 0, 1) := by decide +kernel
theorem dX5_count_128 : decode cX5_count 128 = .ok (.getfield 66, 3) := by decide +kernel
theorem dX5_count_131 : decode cX5_count 131 = .ok (.ireturn, 1) := by decide +kernel
theorem dX5_count_132 : decode cX5_count 132 = .ok (.aload_n 0, 1) := by decide +kernel
theorem dX5_count_133 : decode cX5_count 133 = .ok (.getfield 177, 3) := by decide +kernel
theorem dX5_count_136 : decode cX5_count 136 = .ok (.ireturn, 1) := by decide +kernel
theorem dX5_count_137 : decode cX5_count 137 = .ok (.aload_n 0, 1) := by decide +kernel
theorem dX5_count_138 : decode cX5_count 138 = .ok (.getfield 191, 3) := by decide +kernel
theorem dX5_count_141 : decode cX5_count 141 = .ok (.ireturn, 1) := by decide +kernel
theorem dX5_count_142 : decode cX5_count 142 = .ok (.bipush (-102), 2) := by decide +kernel
theorem dX5_count_144 : decode cX5_count 144 = .ok (.ireturn, 1) := by decide +kernel
theorem dX5_digest_0 : decode cX5_digest 0 = .ok (.ldc2_w 231, 3) := by decide +kernel
theorem dX5_digest_3 : decode cX5_digest 3 = .ok (.lstore_n 1, 1) := by decide +kernel
theorem dX5_digest_4 : decode cX5_digest 4 = .ok (.iconst 0, 1) := by decide +kernel
theorem dX5_digest_5 : decode cX5_digest 5 = .ok (.istore_n 3, 1) := by decide +kernel
theorem dX5_digest_6 : decode cX5_digest 6 = .ok (.iload_n 3, 1) := by decide +kernel
theorem dX5_digest_7 : decode cX5_digest 7 = .ok (.aload_n 0, 1) := by decide +kernel
theorem dX5_digest_8 : decode cX5_digest 8 = .ok (.getfield 19, 3) := by decide +kernel
theorem dX5_digest_11 : decode cX5_digest 11 = .ok (.invokevirtual 194, 3) := by decide +kernel
theorem dX5_digest_14 : decode cX5_digest 14 = .ok (.if_icmp .ge 46, 3) := by decide +kernel
theorem dX5_digest_17 : decode cX5_digest 17 = .ok (.iconst 0, 1) := by decide +kernel
theorem dX5_digest_18 : decode cX5_digest 18 = .ok (.istore 4, 2) := by decide +kernel
theorem dX5_digest_20 : decode cX5_digest 20 = .ok (.iload 4, 2) := by decide +kernel
theorem dX5_digest_22 : decode cX5_digest 22 = .ok (.bipush 6, 2) := by decide +kernel
theorem dX5_digest_24 : decode cX5_digest 24 = .ok (.if_icmp .gt 30, 3) := by decide +kernel
theorem dX5_digest_27 : decode cX5_digest 27 = .ok (.iload 4, 2) := by decide +kernel
theorem dX5_digest_29 : decode cX5_digest 29 = .ok (.iconst 4, 1) := by decide +kernel
theorem dX5_digest_30 : decode cX5_digest 30 = .ok (.if_icmp .eq 18, 3) := by decide +kernel
theorem dX5_digest_33 : decode cX5_digest 33 = .ok (.ldc2_w 233, 3) := by decide +kernel
theorem dX5_digest_36 : decode cX5_digest 36 = .ok (.lload_n 1, 1) := by decide +kernel
theorem dX5_digest_37 : decode cX5_digest 37 = .ok (.lmul, 1) := by decide +kernel
theorem dX5_digest_38 : decode cX5_digest 38 = .ok (.aload_n 0, 1) := by decide +kernel
theorem dX5_digest_39 : decode cX5_digest 39 = .ok (.iload_n 3, 1) := by decide +kernel
theorem dX5_digest_40 : decode cX5_digest 40 = .ok (.iload 4, 2) := by decide +kernel
theorem dX5_digest_42 : decode cX5_digest 42 = .ok (.invokevirtual 235, 3) := by decide +kernel
theorem dX5_digest_45 : decode cX5_digest 45 = .ok (.i2l, 1) := by decide +kernel
theorem dX5_digest_46 : decode cX5_digest 46 = .ok (.ladd, 1) := by decide +kernel
theorem dX5_digest_47 : decode cX5_digest 47 = .ok (.lstore_n 1, 1) := by decide +kernel
theorem dX5_digest_48 : decode cX5_digest 48 = .ok (.iinc 4 1, 3) := by decide +kernel
theorem dX5_digest_51 : decode cX5_digest 51 = .ok (.goto (-31), 3) := by decide +kernel
theorem dX5_digest_54 : decode cX5_digest 54 = .ok (.iinc 3 1, 3) := by decide +kernel
theorem dX5_digest_57 : decode cX5_digest 57 = .ok (.goto (-51), 3) := by decide +kernel
theorem dX5_digest_60 : decode cX5_digest 60 = .ok (.iconst 0, 1) := by decide +kernel
theorem dX5_digest_61 : decode cX5_digest 61 = .ok (.istore_n 3, 1) := by decide +kernel
theorem dX5_digest_62 : decode cX5_digest 62 = .ok (.iload_n 3, 1) := by decide +kernel
theorem dX5_digest_63 : decode cX5_digest 63 = .ok (.aload_n 0, 1) := by decide +kernel
theorem dX5_digest_64 : decode cX5_digest 64 = .ok (.getfield 19, 3) := by decide +kernel
theorem dX5_digest_67 : decode cX5_digest 67 = .ok (.invokevirtual 76, 3) := by decide +kernel
theorem dX5_digest_70 : decode cX5_digest 70 = .ok (.if_icmp .ge 39, 3) := by decide +kernel
theorem dX5_digest_73 : decode cX5_digest 73 = .ok (.iconst 0, 1) := by decide +kernel
theorem dX5_digest_74 : decode cX5_digest 74 = .ok (.istore 4, 2) := by decide +kernel
theorem dX5_digest_76 : decode cX5_digest 76 = .ok (.iload 4, 2) := by decide +kernel
theorem dX5_digest_78 : decode cX5_digest 78 = .ok (.iconst 2, 1) := by decide +kernel
theorem dX5_digest_79 : decode cX5_digest 79 = .ok (.if_icmp .gt 24, 3) := by decide +kernel
theorem dX5_digest_82 : decode cX5_digest 82 = .ok (.ldc2_w 233, 3) := by decide +kernel
theorem dX5_digest_85 : decode cX5_digest 85 = .ok (.lload_n 1, 1) := by decide +kernel
theorem dX5_digest_86 : decode cX5_digest 86 = .ok (.lmul, 1) := by decide +kernel
theorem dX5_digest_87 : decode cX5_digest 87 = .ok (.aload_n 0, 1) := by decide +kernel
theorem dX5_digest_88 : decode cX5_digest 88 = .ok (.iload_n 3, 1) := by decide +kernel
theorem dX5_digest_89 : decode cX5_digest 89 = .ok (.iload 4, 2) := by decide +kernel
theorem dX5_digest_91 : decode cX5_digest 91 = .ok (.invokevirtual 238, 3) := by decide +kernel
theorem dX5_digest_94 : decode cX5_digest 94 = .ok (.i2l, 1) := by decide +kernel
theorem dX5_digest_95 : decode cX5_digest 95 = .ok (.ladd, 1) := by decide +kernel
theorem dX5_digest_96 : decode cX5_digest 96 = .ok (.lstore_n 1, 1) := by decide +kernel
theorem dX5_digest_97 : decode cX5_digest 97 = .ok (.iinc 4 1, 3) := by decide +kernel
theorem dX5_digest_100 : decode cX5_digest 100 = .ok (.goto (-24), 3) := by decide +kernel
theorem dX5_digest_103 : decode cX5_digest 103 = .ok (.iinc 3 1, 3) := by decide +kernel
theorem dX5_digest_106 : decode cX5_digest 106 = .ok (.goto (-44), 3) := by decide +kernel
theorem dX5_digest_109 : decode cX5_digest 109 = .ok (.aload_n 0, 1) := by decide +kernel
theorem dX5_digest_110 : decode cX5_digest 110 = .ok (.getfield 19, 3) := by decide +kernel
theorem dX5_digest_113 : decode cX5_digest 113 = .ok (.invokevirtual 156, 3) := by decide +kernel
theorem dX5_digest_116 : decode cX5_digest 116 = .ok (.ifCond .eq 40, 3) := by decide +kernel
theorem dX5_digest_119 : decode cX5_digest 119 = .ok (.ldc2_w 233, 3) := by decide +kernel
theorem dX5_digest_122 : decode cX5_digest 122 = .ok (.lload_n 1, 1) := by decide +kernel
theorem dX5_digest_123 : decode cX5_digest 123 = .ok (.lmul, 1) := by decide +kernel
theorem dX5_digest_124 : decode cX5_digest 124 = .ok (.aload_n 0, 1) := by decide +kernel
theorem dX5_digest_125 : decode cX5_digest 125 = .ok (.invokevirtual 241, 3) := by decide +kernel
theorem dX5_digest_128 : decode cX5_digest 128 = .ok (.i2l, 1) := by decide +kernel
theorem dX5_digest_129 : decode cX5_digest 129 = .ok (.ladd, 1) := by decide +kernel
theorem dX5_digest_130 : decode cX5_digest 130 = .ok (.lstore_n 1, 1) := by decide +kernel
theorem dX5_digest_131 : decode cX5_digest 131 = .ok (.ldc2_w 233, 3) := by decide +kernel
theorem dX5_digest_134 : decode cX5_digest 134 = .ok (.lload_n 1, 1) := by decide +kernel
theorem dX5_digest_135 : decode cX5_digest 135 = .ok (.lmul, 1) := by decide +kernel
theorem dX5_digest_136 : decode cX5_digest 136 = .ok (.aload_n 0, 1) := by decide +kernel
theorem dX5_digest_137 : decode cX5_digest 137 = .ok (.iconst 0, 1) := by decide +kernel
theorem dX5_digest_138 : decode cX5_digest 138 = .ok (.invokevirtual 244, 3) := by decide +kernel
theorem dX5_digest_141 : decode cX5_digest 141 = .ok (.i2l, 1) := by decide +kernel
theorem dX5_digest_142 : decode cX5_digest 142 = .ok (.ladd, 1) := by decide +kernel
theorem dX5_digest_143 : decode cX5_digest 143 = .ok (.lstore_n 1, 1) := by decide +kernel
theorem dX5_digest_144 : decode cX5_digest 144 = .ok (.ldc2_w 233, 3) := by decide +kernel
theorem dX5_digest_147 : decode cX5_digest 147 = .ok (.lload_n 1, 1) := by decide +kernel
theorem dX5_digest_148 : decode cX5_digest 148 = .ok (.lmul, 1) := by decide +kernel
theorem dX5_digest_149 : decode cX5_digest 149 = .ok (.aload_n 0, 1) := by decide +kernel
theorem dX5_digest_150 : decode cX5_digest 150 = .ok (.invokevirtual 247, 3) := by decide +kernel
theorem dX5_digest_153 : decode cX5_digest 153 = .ok (.i2l, 1) := by decide +kernel
theorem dX5_digest_154 : decode cX5_digest 154 = .ok (.ladd, 1) := by decide +kernel
theorem dX5_digest_155 : decode cX5_digest 155 = .ok (.lstore_n 1, 1) := by decide +kernel
theorem dX5_digest_156 : decode cX5_digest 156 = .ok (.iconst 0, 1) := by decide +kernel
theorem dX5_digest_157 : decode cX5_digest 157 = .ok (.istore_n 3, 1) := by decide +kernel
theorem dX5_digest_158 : decode cX5_digest 158 = .ok (.iload_n 3, 1) := by decide +kernel
theorem dX5_digest_159 : decode cX5_digest 159 = .ok (.aload_n 0, 1) := by decide +kernel
theorem dX5_digest_160 : decode cX5_digest 160 = .ok (.getfield 12, 3) := by decide +kernel
theorem dX5_digest_163 : decode cX5_digest 163 = .ok (.getfield 48, 3) := by decide +kernel
theorem dX5_digest_166 : decode cX5_digest 166 = .ok (.if_icmp .ge 25, 3) := by decide +kernel
theorem dX5_digest_169 : decode cX5_digest 169 = .ok (.ldc2_w 233, 3) := by decide +kernel
theorem dX5_digest_172 : decode cX5_digest 172 = .ok (.lload_n 1, 1) := by decide +kernel
theorem dX5_digest_173 : decode cX5_digest 173 = .ok (.lmul, 1) := by decide +kernel
theorem dX5_digest_174 : decode cX5_digest 174 = .ok (.aload_n 0, 1) := by decide +kernel
theorem dX5_digest_175 : decode cX5_digest 175 = .ok (.getfield 12, 3) := by decide +kernel
theorem dX5_digest_178 : decode cX5_digest 178 = .ok (.iload_n 3, 1) := by decide +kernel
theorem dX5_digest_179 : decode cX5_digest 179 = .ok (.invokevirtual 250, 3) := by decide +kernel
theorem dX5_digest_182 : decode cX5_digest 182 = .ok (.i2l, 1) := by decide +kernel
theorem dX5_digest_183 : decode cX5_digest 183 = .ok (.ladd, 1) := by decide +kernel
theorem dX5_digest_184 : decode cX5_digest 184 = .ok (.lstore_n 1, 1) := by decide +kernel
theorem dX5_digest_185 : decode cX5_digest 185 = .ok (.iinc 3 1, 3) := by decide +kernel
theorem dX5_digest_188 : decode cX5_digest 188 = .ok (.goto (-30), 3) := by decide +kernel
theorem dX5_digest_191 : decode cX5_digest 191 = .ok (.iconst 0, 1) := by decide +kernel
theorem dX5_digest_192 : decode cX5_digest 192 = .ok (.istore_n 3, 1) := by decide +kernel
theorem dX5_digest_193 : decode cX5_digest 193 = .ok (.iload_n 3, 1) := by decide +kernel
theorem dX5_digest_194 : decode cX5_digest 194 = .ok (.bipush 11, 2) := by decide +kernel
theorem dX5_digest_196 : decode cX5_digest 196 = .ok (.if_icmp .ge 22, 3) := by decide +kernel
theorem dX5_digest_199 : decode cX5_digest 199 = .ok (.ldc2_w 233, 3) := by decide +kernel
theorem dX5_digest_202 : decode cX5_digest 202 = .ok (.lload_n 1, 1) := by decide +kernel
theorem dX5_digest_203 : decode cX5_digest 203 = .ok (.lmul, 1) := by decide +kernel
theorem dX5_digest_204 : decode cX5_digest 204 = .ok (.aload_n 0, 1) := by decide +kernel
theorem dX5_digest_205 : decode cX5_digest 205 = .ok (.iload_n 3, 1) := by decide +kernel
theorem dX5_digest_206 : decode cX5_digest 206 = .ok (.invokevirtual 253, 3) := by decide +kernel
theorem dX5_digest_209 : decode cX5_digest 209 = .ok (.i2l, 1) := by decide +kernel
theorem dX5_digest_210 : decode cX5_digest 210 = .ok (.ladd, 1) := by decide +kernel
theorem dX5_digest_211 : decode cX5_digest 211 = .ok (.lstore_n 1, 1) := by decide +kernel
theorem dX5_digest_212 : decode cX5_digest 212 = .ok (.iinc 3 1, 3) := by decide +kernel
theorem dX5_digest_215 : decode cX5_digest 215 = .ok (.goto (-22), 3) := by decide +kernel
theorem dX5_digest_218 : decode cX5_digest 218 = .ok (.lload_n 1, 1) := by decide +kernel
theorem dX5_digest_219 : decode cX5_digest 219 = .ok (.lreturn, 1) := by decide +kernel
theorem dX5_settled_0 : decode cX5_settled 0 = .ok (.aload_n 0, 1) := by decide +kernel
theorem dX5_settled_1 : decode cX5_settled 1 = .ok (.getfield 73, 3) := by decide +kernel
theorem dX5_settled_4 : decode cX5_settled 4 = .ok (.ifCond .eq 40, 3) := by decide +kernel
theorem dX5_settled_7 : decode cX5_settled 7 = .ok (.aload_n 0, 1) := by decide +kernel
theorem dX5_settled_8 : decode cX5_settled 8 = .ok (.getfield 32, 3) := by decide +kernel
theorem dX5_settled_11 : decode cX5_settled 11 = .ok (.aload_n 0, 1) := by decide +kernel
theorem dX5_settled_12 : decode cX5_settled 12 = .ok (.getfield 19, 3) := by decide +kernel
theorem dX5_settled_15 : decode cX5_settled 15 = .ok (.invokevirtual 256, 3) := by decide +kernel
theorem dX5_settled_18 : decode cX5_settled 18 = .ok (.aload_n 0, 1) := by decide +kernel
theorem dX5_settled_19 : decode cX5_settled 19 = .ok (.getfield 41, 3) := by decide +kernel
theorem dX5_settled_22 : decode cX5_settled 22 = .ok (.invokevirtual 259, 3) := by decide +kernel
theorem dX5_settled_25 : decode cX5_settled 25 = .ok (.aload_n 0, 1) := by decide +kernel
theorem dX5_settled_26 : decode cX5_settled 26 = .ok (.getfield 32, 3) := by decide +kernel
theorem dX5_settled_29 : decode cX5_settled 29 = .ok (.sipush 1690, 3) := by decide +kernel
theorem dX5_settled_32 : decode cX5_settled 32 = .ok (.aload_n 0, 1) := by decide +kernel
theorem dX5_settled_33 : decode cX5_settled 33 = .ok (.getfield 41, 3) := by decide +kernel
theorem dX5_settled_36 : decode cX5_settled 36 = .ok (.invokevirtual 262, 3) := by decide +kernel
theorem dX5_settled_39 : decode cX5_settled 39 = .ok (.aload_n 0, 1) := by decide +kernel
theorem dX5_settled_40 : decode cX5_settled 40 = .ok (.iconst 0, 1) := by decide +kernel
theorem dX5_settled_41 : decode cX5_settled 41 = .ok (.putfield 73, 3) := by decide +kernel
theorem dX5_settled_44 : decode cX5_settled 44 = .ok (.aload_n 0, 1) := by decide +kernel
theorem dX5_settled_45 : decode cX5_settled 45 = .ok (.getfield 41, 3) := by decide +kernel
theorem dX5_settled_48 : decode cX5_settled 48 = .ok (.areturn, 1) := by decide +kernel
theorem dX5_isSpare_0 : decode cX5_isSpare 0 = .ok (.aload_n 0, 1) := by decide +kernel
theorem dX5_isSpare_1 : decode cX5_isSpare 1 = .ok (.invokevirtual 122, 3) := by decide +kernel
theorem dX5_isSpare_4 : decode cX5_isSpare 4 = .ok (.getfield 160, 3) := by decide +kernel
theorem dX5_isSpare_7 : decode cX5_isSpare 7 = .ok (.istore_n 2, 1) := by decide +kernel
theorem dX5_isSpare_8 : decode cX5_isSpare 8 = .ok (.aload_n 0, 1) := by decide +kernel
theorem dX5_isSpare_9 : decode cX5_isSpare 9 = .ok (.getfield 19, 3) := by decide +kernel
theorem dX5_isSpare_12 : decode cX5_isSpare 12 = .ok (.iload_n 1, 1) := by decide +kernel
theorem dX5_isSpare_13 : decode cX5_isSpare 13 = .ok (.invokevirtual 94, 3) := by decide +kernel
theorem dX5_isSpare_16 : decode cX5_isSpare 16 = .ok (.invokestatic 266, 3) := by decide +kernel
theorem dX5_isSpare_19 : decode cX5_isSpare 19 = .ok (.istore_n 3, 1) := by decide +kernel
theorem dX5_isSpare_20 : decode cX5_isSpare 20 = .ok (.aload_n 0, 1) := by decide +kernel
theorem dX5_isSpare_21 : decode cX5_isSpare 21 = .ok (.getfield 32, 3) := by decide +kernel
theorem dX5_isSpare_24 : decode cX5_isSpare 24 = .ok (.iload_n 1, 1) := by decide +kernel
theorem dX5_isSpare_25 : decode cX5_isSpare 25 = .ok (.iload_n 3, 1) := by decide +kernel
theorem dX5_isSpare_26 : decode cX5_isSpare 26 = .ok (.iload_n 2, 1) := by decide +kernel
theorem dX5_isSpare_27 : decode cX5_isSpare 27 = .ok (.iconst 1, 1) := by decide +kernel
theorem dX5_isSpare_28 : decode cX5_isSpare 28 = .ok (.iadd, 1) := by decide +kernel
theorem dX5_isSpare_29 : decode cX5_isSpare 29 = .ok (.invokevirtual 269, 3) := by decide +kernel
theorem dX5_isSpare_32 : decode cX5_isSpare 32 = .ok (.iload_n 2, 1) := by decide +kernel
theorem dX5_isSpare_33 : decode cX5_isSpare 33 = .ok (.if_icmp .ne 7, 3) := by decide +kernel
theorem dX5_isSpare_36 : decode cX5_isSpare 36 = .ok (.iconst 1, 1) := by decide +kernel
theorem dX5_isSpare_37 : decode cX5_isSpare 37 = .ok (.goto 4, 3) := by decide +kernel
theorem dX5_isSpare_40 : decode cX5_isSpare 40 = .ok (.iconst 0, 1) := by decide +kernel
theorem dX5_isSpare_41 : decode cX5_isSpare 41 = .ok (.ireturn, 1) := by decide +kernel
theorem dX5_sureCells_0 : decode cX5_sureCells 0 = .ok (.iconst 0, 1) := by decide +kernel
theorem dX5_sureCells_1 : decode cX5_sureCells 1 = .ok (.istore_n 1, 1) := by decide +kernel
theorem dX5_sureCells_2 : decode cX5_sureCells 2 = .ok (.iconst 0, 1) := by decide +kernel
theorem dX5_sureCells_3 : decode cX5_sureCells 3 = .ok (.istore_n 2, 1) := by decide +kernel
theorem dX5_sureCells_4 : decode cX5_sureCells 4 = .ok (.iload_n 2, 1) := by decide +kernel
theorem dX5_sureCells_5 : decode cX5_sureCells 5 = .ok (.aload_n 0, 1) := by decide +kernel
theorem dX5_sureCells_6 : decode cX5_sureCells 6 = .ok (.getfield 19, 3) := by decide +kernel
theorem dX5_sureCells_9 : decode cX5_sureCells 9 = .ok (.invokevirtual 76, 3) := by decide +kernel
theorem dX5_sureCells_12 : decode cX5_sureCells 12 = .ok (.if_icmp .ge 24, 3) := by decide +kernel
theorem dX5_sureCells_15 : decode cX5_sureCells 15 = .ok (.aload_n 0, 1) := by decide +kernel
theorem dX5_sureCells_16 : decode cX5_sureCells 16 = .ok (.invokevirtual 122, 3) := by decide +kernel
theorem dX5_sureCells_19 : decode cX5_sureCells 19 = .ok (.iload_n 2, 1) := by decide +kernel
theorem dX5_sureCells_20 : decode cX5_sureCells 20 = .ok (.invokevirtual 129, 3) := by decide +kernel
theorem dX5_sureCells_23 : decode cX5_sureCells 23 = .ok (.iconst (-1), 1) := by decide +kernel
theorem dX5_sureCells_24 : decode cX5_sureCells 24 = .ok (.if_icmp .eq 6, 3) := by decide +kernel
theorem dX5_sureCells_27 : decode cX5_sureCells 27 = .ok (.iinc 1 1, 3) := by decide +kernel
theorem dX5_sureCells_30 : decode cX5_sureCells 30 = .ok (.iinc 2 1, 3) := by decide +kernel
theorem dX5_sureCells_33 : decode cX5_sureCells 33 = .ok (.goto (-29), 3) := by decide +kernel
theorem dX5_sureCells_36 : decode cX5_sureCells 36 = .ok (.iload_n 1, 1) := by decide +kernel
theorem dX5_sureCells_37 : decode cX5_sureCells 37 = .ok (.ireturn, 1) := by decide +kernel
theorem dX5_commonDivisor_0 : decode cX5_commonDivisor 0 = .ok (.iload_n 1, 1) := by decide +kernel
theorem dX5_commonDivisor_1 : decode cX5_commonDivisor 1 = .ok (.istore_n 2, 1) := by decide +kernel
theorem dX5_commonDivisor_2 : decode cX5_commonDivisor 2 = .ok (.iload_n 0, 1) := by decide +kernel
theorem dX5_commonDivisor_3 : decode cX5_commonDivisor 3 = .ok (.istore_n 3, 1) := by decide +kernel
theorem dX5_commonDivisor_4 : decode cX5_commonDivisor 4 = .ok (.iconst 0, 1) := by decide +kernel
theorem dX5_commonDivisor_5 : decode cX5_commonDivisor 5 = .ok (.istore 4, 2) := by decide +kernel
theorem dX5_commonDivisor_7 : decode cX5_commonDivisor 7 = .ok (.iload 4, 2) := by decide +kernel
theorem dX5_commonDivisor_9 : decode cX5_commonDivisor 9 = .ok (.bipush 64, 2) := by decide +kernel
theorem dX5_commonDivisor_11 : decode cX5_commonDivisor 11 = .ok (.if_icmp .ge 23, 3) := by decide +kernel
theorem dX5_commonDivisor_14 : decode cX5_commonDivisor 14 = .ok (.iload_n 3, 1) := by decide +kernel
theorem dX5_commonDivisor_15 : decode cX5_commonDivisor 15 = .ok (.ifCond .eq 19, 3) := by decide +kernel
theorem dX5_commonDivisor_18 : decode cX5_commonDivisor 18 = .ok (.iload_n 2, 1) := by decide +kernel
theorem dX5_commonDivisor_19 : decode cX5_commonDivisor 19 = .ok (.iload_n 3, 1) := by decide +kernel
theorem dX5_commonDivisor_20 : decode cX5_commonDivisor 20 = .ok (.irem, 1) := by decide +kernel
theorem dX5_commonDivisor_21 : decode cX5_commonDivisor 21 = .ok (.istore 5, 2) := by decide +kernel
theorem dX5_commonDivisor_23 : decode cX5_commonDivisor 23 = .ok (.iload_n 3, 1) := by decide +kernel
theorem dX5_commonDivisor_24 : decode cX5_commonDivisor 24 = .ok (.istore_n 2, 1) := by decide +kernel
theorem dX5_commonDivisor_25 : decode cX5_commonDivisor 25 = .ok (.iload 5, 2) := by decide +kernel
theorem dX5_commonDivisor_27 : decode cX5_commonDivisor 27 = .ok (.istore_n 3, 1) := by decide +kernel
theorem dX5_commonDivisor_28 : decode cX5_commonDivisor 28 = .ok (.iinc 4 1, 3) := by decide +kernel
theorem dX5_commonDivisor_31 : decode cX5_commonDivisor 31 = .ok (.goto (-24), 3) := by decide +kernel
theorem dX5_commonDivisor_34 : decode cX5_commonDivisor 34 = .ok (.iload_n 2, 1) := by decide +kernel
theorem dX5_commonDivisor_35 : decode cX5_commonDivisor 35 = .ok (.ireturn, 1) := by decide +kernel
theorem dX5_fewestHints_0 : decode cX5_fewestHints 0 = .ok (.iconst 0, 1) := by decide +kernel
theorem dX5_fewestHints_1 : decode cX5_fewestHints 1 = .ok (.istore_n 2, 1) := by decide +kernel
theorem dX5_fewestHints_2 : decode cX5_fewestHints 2 = .ok (.iload_n 2, 1) := by decide +kernel
theorem dX5_fewestHints_3 : decode cX5_fewestHints 3 = .ok (.iconst 3, 1) := by decide +kernel
theorem dX5_fewestHints_4 : decode cX5_fewestHints 4 = .ok (.if_icmp .gt 25, 3) := by decide +kernel
theorem dX5_fewestHints_7 : decode cX5_fewestHints 7 = .ok (.aload_n 0, 1) := by decide +kernel
theorem dX5_fewestHints_8 : decode cX5_fewestHints 8 = .ok (.iload_n 1, 1) := by decide +kernel
theorem dX5_fewestHints_9 : decode cX5_fewestHints 9 = .ok (.iconst 0, 1) := by decide +kernel
theorem dX5_fewestHints_10 : decode cX5_fewestHints 10 = .ok (.iconst 0, 1) := by decide +kernel
theorem dX5_fewestHints_11 : decode cX5_fewestHints 11 = .ok (.iload_n 2, 1) := by decide +kernel
theorem dX5_fewestHints_12 : decode cX5_fewestHints 12 = .ok (.invokevirtual 273, 3) := by decide +kernel
theorem dX5_fewestHints_15 : decode cX5_fewestHints 15 = .ok (.istore_n 3, 1) := by decide +kernel
theorem dX5_fewestHints_16 : decode cX5_fewestHints 16 = .ok (.iload_n 3, 1) := by decide +kernel
theorem dX5_fewestHints_17 : decode cX5_fewestHints 17 = .ok (.iconst (-1), 1) := by decide +kernel
theorem dX5_fewestHints_18 : decode cX5_fewestHints 18 = .ok (.if_icmp .eq 5, 3) := by decide +kernel
theorem dX5_fewestHints_21 : decode cX5_fewestHints 21 = .ok (.iload_n 3, 1) := by decide +kernel
theorem dX5_fewestHints_22 : decode cX5_fewestHints 22 = .ok (.ireturn, 1) := by decide +kernel
theorem dX5_fewestHints_23 : decode cX5_fewestHints 23 = .ok (.iinc 2 1, 3) := by decide +kernel
theorem dX5_fewestHints_26 : decode cX5_fewestHints 26 = .ok (.goto (-24), 3) := by decide +kernel
theorem dX5_fewestHints_29 : decode cX5_fewestHints 29 = .ok (.iconst (-1), 1) := by decide +kernel
theorem dX5_fewestHints_30 : decode cX5_fewestHints 30 = .ok (.ireturn, 1) := by decide +kernel
theorem dX5_growHints_0 : decode cX5_growHints 0 = .ok (.iload 4, 2) := by decide +kernel
theorem dX5_growHints_2 : decode cX5_growHints 2 = .ok (.iconst 1, 1) := by decide +kernel
theorem dX5_growHints_3 : decode cX5_growHints 3 = .ok (.if_icmp .ge 21, 3) := by decide +kernel
theorem dX5_growHints_6 : decode cX5_growHints 6 = .ok (.aload_n 0, 1) := by decide +kernel
theorem dX5_growHints_7 : decode cX5_growHints 7 = .ok (.getfield 41, 3) := by decide +kernel
theorem dX5_growHints_10 : decode cX5_growHints 10 = .ok (.iload_n 1, 1) := by decide +kernel
theorem dX5_growHints_11 : decode cX5_growHints 11 = .ok (.iload_n 2, 1) := by decide +kernel
theorem dX5_growHints_12 : decode cX5_growHints 12 = .ok (.invokevirtual 277, 3) := by decide +kernel
theorem dX5_growHints_15 : decode cX5_growHints 15 = .ok (.ifCond .eq 7, 3) := by decide +kernel
theorem dX5_growHints_18 : decode cX5_growHints 18 = .ok (.iload_n 2, 1) := by decide +kernel
theorem dX5_growHints_19 : decode cX5_growHints 19 = .ok (.goto 4, 3) := by decide +kernel
theorem dX5_growHints_22 : decode cX5_growHints 22 = .ok (.iconst (-1), 1) := by decide +kernel
theorem dX5_growHints_23 : decode cX5_growHints 23 = .ok (.ireturn, 1) := by decide +kernel
theorem dX5_growHints_24 : decode cX5_growHints 24 = .ok (.iload_n 3, 1) := by decide +kernel
theorem dX5_growHints_25 : decode cX5_growHints 25 = .ok (.istore 5, 2) := by decide +kernel
theorem dX5_growHints_27 : decode cX5_growHints 27 = .ok (.iload 5, 2) := by decide +kernel
theorem dX5_growHints_29 : decode cX5_growHints 29 = .ok (.aload_n 0, 1) := by decide +kernel
theorem dX5_growHints_30 : decode cX5_growHints 30 = .ok (.getfield 19, 3) := by decide +kernel
theorem dX5_growHints_33 : decode cX5_growHints 33 = .ok (.invokevirtual 76, 3) := by decide +kernel
theorem dX5_growHints_36 : decode cX5_growHints 36 = .ok (.if_icmp .ge 54, 3) := by decide +kernel
theorem dX5_growHints_39 : decode cX5_growHints 39 = .ok (.aload_n 0, 1) := by decide +kernel
theorem dX5_growHints_40 : decode cX5_growHints 40 = .ok (.getfield 19, 3) := by decide +kernel
theorem dX5_growHints_43 : decode cX5_growHints 43 = .ok (.iload 5, 2) := by decide +kernel
theorem dX5_growHints_45 : decode cX5_growHints 45 = .ok (.invokevirtual 119, 3) := by decide +kernel
theorem dX5_growHints_48 : decode cX5_growHints 48 = .ok (.ifCond .eq 6, 3) := by decide +kernel
theorem dX5_growHints_51 : decode cX5_growHints 51 = .ok (.goto 33, 3) := by decide +kernel
theorem dX5_growHints_54 : decode cX5_growHints 54 = .ok (.aload_n 0, 1) := by decide +kernel
theorem dX5_growHints_55 : decode cX5_growHints 55 = .ok (.iload_n 1, 1) := by decide +kernel
theorem dX5_growHints_56 : decode cX5_growHints 56 = .ok (.iload_n 2, 1) := by decide +kernel
theorem dX5_growHints_57 : decode cX5_growHints 57 = .ok (.iconst 1, 1) := by decide +kernel
theorem dX5_growHints_58 : decode cX5_growHints 58 = .ok (.iload 5, 2) := by decide +kernel
theorem dX5_growHints_60 : decode cX5_growHints 60 = .ok (.ishl, 1) := by decide +kernel
theorem dX5_growHints_61 : decode cX5_growHints 61 = .ok (.ior, 1) := by decide +kernel
theorem dX5_growHints_62 : decode cX5_growHints 62 = .ok (.iload 5, 2) := by decide +kernel
theorem dX5_growHints_64 : decode cX5_growHints 64 = .ok (.iconst 1, 1) := by decide +kernel
theorem dX5_growHints_65 : decode cX5_growHints 65 = .ok (.iadd, 1) := by decide +kernel
theorem dX5_growHints_66 : decode cX5_growHints 66 = .ok (.iload 4, 2) := by decide +kernel
theorem dX5_growHints_68 : decode cX5_growHints 68 = .ok (.iconst 1, 1) := by decide +kernel
theorem dX5_growHints_69 : decode cX5_growHints 69 = .ok (.isub, 1) := by decide +kernel
theorem dX5_growHints_70 : decode cX5_growHints 70 = .ok (.invokevirtual 273, 3) := by decide +kernel
theorem dX5_growHints_73 : decode cX5_growHints 73 = .ok (.istore 6, 2) := by decide +kernel
theorem dX5_growHints_75 : decode cX5_growHints 75 = .ok (.iload 6, 2) := by decide +kernel
theorem dX5_growHints_77 : decode cX5_growHints 77 = .ok (.iconst (-1), 1) := by decide +kernel
theorem dX5_growHints_78 : decode cX5_growHints 78 = .ok (.if_icmp .eq 6, 3) := by decide +kernel
theorem dX5_growHints_81 : decode cX5_growHints 81 = .ok (.iload 6, 2) := by decide +kernel
theorem dX5_growHints_83 : decode cX5_growHints 83 = .ok (.ireturn, 1) := by decide +kernel
theorem dX5_growHints_84 : decode cX5_growHints 84 = .ok (.iinc 5 1, 3) := by decide +kernel
theorem dX5_growHints_87 : decode cX5_growHints 87 = .ok (.goto (-60), 3) := by decide +kernel
theorem dX5_growHints_90 : decode cX5_growHints 90 = .ok (.iconst (-1), 1) := by decide +kernel
theorem dX5_growHints_91 : decode cX5_growHints 91 = .ok (.ireturn, 1) := by decide +kernel
theorem dX5_cellAt_0 : decode cX5_cellAt 0 = .ok (.iconst 0, 1) := by decide +kernel
theorem dX5_cellAt_1 : decode cX5_cellAt 1 = .ok (.istore_n 2, 1) := by decide +kernel
theorem dX5_cellAt_2 : decode cX5_cellAt 2 = .ok (.iconst 0, 1) := by decide +kernel
theorem dX5_cellAt_3 : decode cX5_cellAt 3 = .ok (.istore_n 3, 1) := by decide +kernel
theorem dX5_cellAt_4 : decode cX5_cellAt 4 = .ok (.iload_n 3, 1) := by decide +kernel
theorem dX5_cellAt_5 : decode cX5_cellAt 5 = .ok (.bipush 16, 2) := by decide +kernel
theorem dX5_cellAt_7 : decode cX5_cellAt 7 = .ok (.if_icmp .ge 27, 3) := by decide +kernel
theorem dX5_cellAt_10 : decode cX5_cellAt 10 = .ok (.iload_n 0, 1) := by decide +kernel
theorem dX5_cellAt_11 : decode cX5_cellAt 11 = .ok (.iload_n 3, 1) := by decide +kernel
theorem dX5_cellAt_12 : decode cX5_cellAt 12 = .ok (.ishr, 1) := by decide +kernel
theorem dX5_cellAt_13 : decode cX5_cellAt 13 = .ok (.iconst 1, 1) := by decide +kernel
theorem dX5_cellAt_14 : decode cX5_cellAt 14 = .ok (.iand, 1) := by decide +kernel
theorem dX5_cellAt_15 : decode cX5_cellAt 15 = .ok (.ifCond .eq 6, 3) := by decide +kernel
theorem dX5_cellAt_18 : decode cX5_cellAt 18 = .ok (.iinc 2 1, 3) := by decide +kernel
theorem dX5_cellAt_21 : decode cX5_cellAt 21 = .ok (.iload_n 2, 1) := by decide +kernel
theorem dX5_cellAt_22 : decode cX5_cellAt 22 = .ok (.iload_n 1, 1) := by decide +kernel
theorem dX5_cellAt_23 : decode cX5_cellAt 23 = .ok (.if_icmp .ne 5, 3) := by decide +kernel
theorem dX5_cellAt_26 : decode cX5_cellAt 26 = .ok (.iload_n 3, 1) := by decide +kernel
theorem dX5_cellAt_27 : decode cX5_cellAt 27 = .ok (.ireturn, 1) := by decide +kernel
theorem dX5_cellAt_28 : decode cX5_cellAt 28 = .ok (.iinc 3 1, 3) := by decide +kernel
theorem dX5_cellAt_31 : decode cX5_cellAt 31 = .ok (.goto (-27), 3) := by decide +kernel
theorem dX5_cellAt_34 : decode cX5_cellAt 34 = .ok (.iconst (-1), 1) := by decide +kernel
theorem dX5_cellAt_35 : decode cX5_cellAt 35 = .ok (.ireturn, 1) := by decide +kernel
theorem dX5_changeToOne_0 : decode cX5_changeToOne 0 = .ok (.aload_n 0, 1) := by decide +kernel
theorem dX5_changeToOne_1 : decode cX5_changeToOne 1 = .ok (.getfield 19, 3) := by decide +kernel
theorem dX5_changeToOne_4 : decode cX5_changeToOne 4 = .ok (.iload_n 1, 1) := by decide +kernel
theorem dX5_changeToOne_5 : decode cX5_changeToOne 5 = .ok (.invokevirtual 94, 3) := by decide +kernel
theorem dX5_changeToOne_8 : decode cX5_changeToOne 8 = .ok (.istore_n 2, 1) := by decide +kernel
theorem dX5_changeToOne_9 : decode cX5_changeToOne 9 = .ok (.aload_n 0, 1) := by decide +kernel
theorem dX5_changeToOne_10 : decode cX5_changeToOne 10 = .ok (.getfield 19, 3) := by decide +kernel
theorem dX5_changeToOne_13 : decode cX5_changeToOne 13 = .ok (.getfield 84, 3) := by decide +kernel
theorem dX5_changeToOne_16 : decode cX5_changeToOne 16 = .ok (.iload_n 1, 1) := by decide +kernel
theorem dX5_changeToOne_17 : decode cX5_changeToOne 17 = .ok (.iaload, 1) := by decide +kernel
theorem dX5_changeToOne_18 : decode cX5_changeToOne 18 = .ok (.istore_n 3, 1) := by decide +kernel
theorem dX5_changeToOne_19 : decode cX5_changeToOne 19 = .ok (.aload_n 0, 1) := by decide +kernel
theorem dX5_changeToOne_20 : decode cX5_changeToOne 20 = .ok (.getfield 19, 3) := by decide +kernel
theorem dX5_changeToOne_23 : decode cX5_changeToOne 23 = .ok (.getfield 88, 3) := by decide +kernel
theorem dX5_changeToOne_26 : decode cX5_changeToOne 26 = .ok (.iload_n 1, 1) := by decide +kernel
theorem dX5_changeToOne_27 : decode cX5_changeToOne 27 = .ok (.iaload, 1) := by decide +kernel
theorem dX5_changeToOne_28 : decode cX5_changeToOne 28 = .ok (.istore 4, 2) := by decide +kernel
theorem dX5_changeToOne_30 : decode cX5_changeToOne 30 = .ok (.aload_n 0, 1) := by decide +kernel
theorem dX5_changeToOne_31 : decode cX5_changeToOne 31 = .ok (.getfield 19, 3) := by decide +kernel
theorem dX5_changeToOne_34 : decode cX5_changeToOne 34 = .ok (.getfield 91, 3) := by decide +kernel
theorem dX5_changeToOne_37 : decode cX5_changeToOne 37 = .ok (.iload_n 1, 1) := by decide +kernel
theorem dX5_changeToOne_38 : decode cX5_changeToOne 38 = .ok (.iaload, 1) := by decide +kernel
theorem dX5_changeToOne_39 : decode cX5_changeToOne 39 = .ok (.istore 5, 2) := by decide +kernel
theorem dX5_changeToOne_41 : decode cX5_changeToOne 41 = .ok (.iconst 0, 1) := by decide +kernel
theorem dX5_changeToOne_42 : decode cX5_changeToOne 42 = .ok (.istore 6, 2) := by decide +kernel
theorem dX5_changeToOne_44 : decode cX5_changeToOne 44 = .ok (.iload 6, 2) := by decide +kernel
theorem dX5_changeToOne_46 : decode cX5_changeToOne 46 = .ok (.iload_n 2, 1) := by decide +kernel
theorem dX5_changeToOne_47 : decode cX5_changeToOne 47 = .ok (.if_icmp .gt 51, 3) := by decide +kernel
theorem dX5_changeToOne_50 : decode cX5_changeToOne 50 = .ok (.iload 5, 2) := by decide +kernel
theorem dX5_changeToOne_52 : decode cX5_changeToOne 52 = .ok (.iload_n 2, 1) := by decide +kernel
theorem dX5_changeToOne_53 : decode cX5_changeToOne 53 = .ok (.iload 6, 2) := by decide +kernel
theorem dX5_changeToOne_55 : decode cX5_changeToOne 55 = .ok (.invokestatic 280, 3) := by decide +kernel
theorem dX5_changeToOne_58 : decode cX5_changeToOne 58 = .ok (.if_icmp .le 7, 3) := by decide +kernel
theorem dX5_changeToOne_61 : decode cX5_changeToOne 61 = .ok (.iconst 0, 1) := by decide +kernel
theorem dX5_changeToOne_62 : decode cX5_changeToOne 62 = .ok (.goto 5, 3) := by decide +kernel
theorem dX5_changeToOne_65 : decode cX5_changeToOne 65 = .ok (.iload 5, 2) := by decide +kernel
theorem dX5_changeToOne_67 : decode cX5_changeToOne 67 = .ok (.istore 7, 2) := by decide +kernel
theorem dX5_changeToOne_69 : decode cX5_changeToOne 69 = .ok (.iload 6, 2) := by decide +kernel
theorem dX5_changeToOne_71 : decode cX5_changeToOne 71 = .ok (.iload 4, 2) := by decide +kernel
theorem dX5_changeToOne_73 : decode cX5_changeToOne 73 = .ok (.if_icmp .eq 19, 3) := by decide +kernel
theorem dX5_changeToOne_76 : decode cX5_changeToOne 76 = .ok (.aload_n 0, 1) := by decide +kernel
theorem dX5_changeToOne_77 : decode cX5_changeToOne 77 = .ok (.iload_n 1, 1) := by decide +kernel
theorem dX5_changeToOne_78 : decode cX5_changeToOne 78 = .ok (.iload_n 3, 1) := by decide +kernel
theorem dX5_changeToOne_79 : decode cX5_changeToOne 79 = .ok (.iload 6, 2) := by decide +kernel
theorem dX5_changeToOne_81 : decode cX5_changeToOne 81 = .ok (.iload 7, 2) := by decide +kernel
theorem dX5_changeToOne_83 : decode cX5_changeToOne 83 = .ok (.invokevirtual 283, 3) := by decide +kernel
theorem dX5_changeToOne_86 : decode cX5_changeToOne 86 = .ok (.ifCond .eq 6, 3) := by decide +kernel
theorem dX5_changeToOne_89 : decode cX5_changeToOne 89 = .ok (.iload 6, 2) := by decide +kernel
theorem dX5_changeToOne_91 : decode cX5_changeToOne 91 = .ok (.ireturn, 1) := by decide +kernel
theorem dX5_changeToOne_92 : decode cX5_changeToOne 92 = .ok (.iinc 6 1, 3) := by decide +kernel
theorem dX5_changeToOne_95 : decode cX5_changeToOne 95 = .ok (.goto (-51), 3) := by decide +kernel
theorem dX5_changeToOne_98 : decode cX5_changeToOne 98 = .ok (.iconst 0, 1) := by decide +kernel
theorem dX5_changeToOne_99 : decode cX5_changeToOne 99 = .ok (.istore 6, 2) := by decide +kernel
theorem dX5_changeToOne_101 : decode cX5_changeToOne 101 = .ok (.iload 6, 2) := by decide +kernel
theorem dX5_changeToOne_103 : decode cX5_changeToOne 103 = .ok (.iconst 5, 1) := by decide +kernel
theorem dX5_changeToOne_104 : decode cX5_changeToOne 104 = .ok (.if_icmp .ge 51, 3) := by decide +kernel
theorem dX5_changeToOne_107 : decode cX5_changeToOne 107 = .ok (.iload 6, 2) := by decide +kernel
theorem dX5_changeToOne_109 : decode cX5_changeToOne 109 = .ok (.invokestatic 286, 3) := by decide +kernel
theorem dX5_changeToOne_112 : decode cX5_changeToOne 112 = .ok (.ifCond .eq 8, 3) := by decide +kernel
theorem dX5_changeToOne_115 : decode cX5_changeToOne 115 = .ok (.iload 5, 2) := by decide +kernel
theorem dX5_changeToOne_117 : decode cX5_changeToOne 117 = .ok (.goto 4, 3) := by decide +kernel
theorem dX5_changeToOne_120 : decode cX5_changeToOne 120 = .ok (.iconst 0, 1) := by decide +kernel
theorem dX5_changeToOne_121 : decode cX5_changeToOne 121 = .ok (.istore 7, 2) := by decide +kernel
theorem dX5_changeToOne_123 : decode cX5_changeToOne 123 = .ok (.iload 6, 2) := by decide +kernel
theorem dX5_changeToOne_125 : decode cX5_changeToOne 125 = .ok (.iload_n 3, 1) := by decide +kernel
theorem dX5_changeToOne_126 : decode cX5_changeToOne 126 = .ok (.if_icmp .eq 23, 3) := by decide +kernel
theorem dX5_changeToOne_129 : decode cX5_changeToOne 129 = .ok (.aload_n 0, 1) := by decide +kernel
theorem dX5_changeToOne_130 : decode cX5_changeToOne 130 = .ok (.iload_n 1, 1) := by decide +kernel
theorem dX5_changeToOne_131 : decode cX5_changeToOne 131 = .ok (.iload 6, 2) := by decide +kernel
theorem dX5_changeToOne_133 : decode cX5_changeToOne 133 = .ok (.iload 4, 2) := by decide +kernel
theorem dX5_changeToOne_135 : decode cX5_changeToOne 135 = .ok (.iload 7, 2) := by decide +kernel
theorem dX5_changeToOne_137 : decode cX5_changeToOne 137 = .ok (.invokevirtual 283, 3) := by decide +kernel
theorem dX5_changeToOne_140 : decode cX5_changeToOne 140 = .ok (.ifCond .eq 9, 3) := by decide +kernel
theorem dX5_changeToOne_143 : decode cX5_changeToOne 143 = .ok (.bipush 10, 2) := by decide +kernel
theorem dX5_changeToOne_145 : decode cX5_changeToOne 145 = .ok (.iload 6, 2) := by decide +kernel
theorem dX5_changeToOne_147 : decode cX5_changeToOne 147 = .ok (.iadd, 1) := by decide +kernel
theorem dX5_changeToOne_148 : decode cX5_changeToOne 148 = .ok (.ireturn, 1) := by decide +kernel
theorem dX5_changeToOne_149 : decode cX5_changeToOne 149 = .ok (.iinc 6 1, 3) := by decide +kernel
theorem dX5_changeToOne_152 : decode cX5_changeToOne 152 = .ok (.goto (-51), 3) := by decide +kernel
theorem dX5_changeToOne_155 : decode cX5_changeToOne 155 = .ok (.iconst (-1), 1) := by decide +kernel
theorem dX5_changeToOne_156 : decode cX5_changeToOne 156 = .ok (.ireturn, 1) := by decide +kernel
theorem dX5_leavesOne_0 : decode cX5_leavesOne 0 = .ok (.aload_n 0, 1) := by decide +kernel
theorem dX5_leavesOne_1 : decode cX5_leavesOne 1 = .ok (.getfield 19, 3) := by decide +kernel
theorem dX5_leavesOne_4 : decode cX5_leavesOne 4 = .ok (.iload_n 1, 1) := by decide +kernel
theorem dX5_leavesOne_5 : decode cX5_leavesOne 5 = .ok (.invokevirtual 94, 3) := by decide +kernel
theorem dX5_leavesOne_8 : decode cX5_leavesOne 8 = .ok (.iload_n 2, 1) := by decide +kernel
theorem dX5_leavesOne_9 : decode cX5_leavesOne 9 = .ok (.iload_n 3, 1) := by decide +kernel
theorem dX5_leavesOne_10 : decode cX5_leavesOne 10 = .ok (.iload 4, 2) := by decide +kernel
theorem dX5_leavesOne_12 : decode cX5_leavesOne 12 = .ok (.invokestatic 289, 3) := by decide +kernel
theorem dX5_leavesOne_15 : decode cX5_leavesOne 15 = .ok (.istore 5, 2) := by decide +kernel
theorem dX5_leavesOne_17 : decode cX5_leavesOne 17 = .ok (.aload_n 0, 1) := by decide +kernel
theorem dX5_leavesOne_18 : decode cX5_leavesOne 18 = .ok (.getfield 32, 3) := by decide +kernel
theorem dX5_leavesOne_21 : decode cX5_leavesOne 21 = .ok (.iload_n 1, 1) := by decide +kernel
theorem dX5_leavesOne_22 : decode cX5_leavesOne 22 = .ok (.iload 5, 2) := by decide +kernel
theorem dX5_leavesOne_24 : decode cX5_leavesOne 24 = .ok (.iconst 2, 1) := by decide +kernel
theorem dX5_leavesOne_25 : decode cX5_leavesOne 25 = .ok (.invokevirtual 269, 3) := by decide +kernel
theorem dX5_leavesOne_28 : decode cX5_leavesOne 28 = .ok (.iconst 1, 1) := by decide +kernel
theorem dX5_leavesOne_29 : decode cX5_leavesOne 29 = .ok (.if_icmp .ne 7, 3) := by decide +kernel
theorem dX5_leavesOne_32 : decode cX5_leavesOne 32 = .ok (.iconst 1, 1) := by decide +kernel
theorem dX5_leavesOne_33 : decode cX5_leavesOne 33 = .ok (.goto 4, 3) := by decide +kernel
theorem dX5_leavesOne_36 : decode cX5_leavesOne 36 = .ok (.iconst 0, 1) := by decide +kernel
theorem dX5_leavesOne_37 : decode cX5_leavesOne 37 = .ok (.ireturn, 1) := by decide +kernel
theorem dX5_nextSeed_0 : decode cX5_nextSeed 0 = .ok (.ldc2_w 292, 3) := by decide +kernel
theorem dX5_nextSeed_3 : decode cX5_nextSeed 3 = .ok (.lload_n 0, 1) := by decide +kernel
theorem dX5_nextSeed_4 : decode cX5_nextSeed 4 = .ok (.lmul, 1) := by decide +kernel
theorem dX5_nextSeed_5 : decode cX5_nextSeed 5 = .ok (.ldc2_w 294, 3) := by decide +kernel
theorem dX5_nextSeed_8 : decode cX5_nextSeed 8 = .ok (.ladd, 1) := by decide +kernel
theorem dX5_nextSeed_9 : decode cX5_nextSeed 9 = .ok (.ldc2_w 296, 3) := by decide +kernel
theorem dX5_nextSeed_12 : decode cX5_nextSeed 12 = .ok (.lrem, 1) := by decide +kernel
theorem dX5_nextSeed_13 : decode cX5_nextSeed 13 = .ok (.lreturn, 1) := by decide +kernel
theorem dX5_playGame_0 : decode cX5_playGame 0 = .ok (.aload_n 0, 1) := by decide +kernel
theorem dX5_playGame_1 : decode cX5_playGame 1 = .ok (.getfield 19, 3) := by decide +kernel
theorem dX5_playGame_4 : decode cX5_playGame 4 = .ok (.invokevirtual 164, 3) := by decide +kernel
theorem dX5_playGame_7 : decode cX5_playGame 7 = .ok (.istore_n 2, 1) := by decide +kernel
theorem dX5_playGame_8 : decode cX5_playGame 8 = .ok (.iconst 0, 1) := by decide +kernel
theorem dX5_playGame_9 : decode cX5_playGame 9 = .ok (.istore_n 3, 1) := by decide +kernel
theorem dX5_playGame_10 : decode cX5_playGame 10 = .ok (.aload_n 0, 1) := by decide +kernel
theorem dX5_playGame_11 : decode cX5_playGame 11 = .ok (.getfield 45, 3) := by decide +kernel
theorem dX5_playGame_14 : decode cX5_playGame 14 = .ok (.aload_n 0, 1) := by decide +kernel
theorem dX5_playGame_15 : decode cX5_playGame 15 = .ok (.getfield 41, 3) := by decide +kernel
theorem dX5_playGame_18 : decode cX5_playGame 18 = .ok (.invokevirtual 298, 3) := by decide +kernel
theorem dX5_playGame_21 : decode cX5_playGame 21 = .ok (.aload_n 0, 1) := by decide +kernel
theorem dX5_playGame_22 : decode cX5_playGame 22 = .ok (.getfield 45, 3) := by decide +kernel
theorem dX5_playGame_25 : decode cX5_playGame 25 = .ok (.getfield 160, 3) := by decide +kernel
theorem dX5_playGame_28 : decode cX5_playGame 28 = .ok (.iconst 1, 1) := by decide +kernel
theorem dX5_playGame_29 : decode cX5_playGame 29 = .ok (.if_icmp .le 57, 3) := by decide +kernel
theorem dX5_playGame_32 : decode cX5_playGame 32 = .ok (.iload_n 3, 1) := by decide +kernel
theorem dX5_playGame_33 : decode cX5_playGame 33 = .ok (.bipush 16, 2) := by decide +kernel
theorem dX5_playGame_35 : decode cX5_playGame 35 = .ok (.if_icmp .ge 51, 3) := by decide +kernel
theorem dX5_playGame_38 : decode cX5_playGame 38 = .ok (.aload_n 0, 1) := by decide +kernel
theorem dX5_playGame_39 : decode cX5_playGame 39 = .ok (.getfield 45, 3) := by decide +kernel
theorem dX5_playGame_42 : decode cX5_playGame 42 = .ok (.aload_n 0, 1) := by decide +kernel
theorem dX5_playGame_43 : decode cX5_playGame 43 = .ok (.getfield 19, 3) := by decide +kernel
theorem dX5_playGame_46 : decode cX5_playGame 46 = .ok (.invokevirtual 76, 3) := by decide +kernel
theorem dX5_playGame_49 : decode cX5_playGame 49 = .ok (.iload_n 2, 1) := by decide +kernel
theorem dX5_playGame_50 : decode cX5_playGame 50 = .ok (.invokevirtual 167, 3) := by decide +kernel
theorem dX5_playGame_53 : decode cX5_playGame 53 = .ok (.istore 4, 2) := by decide +kernel
theorem dX5_playGame_55 : decode cX5_playGame 55 = .ok (.iload 4, 2) := by decide +kernel
theorem dX5_playGame_57 : decode cX5_playGame 57 = .ok (.iconst (-1), 1) := by decide +kernel
theorem dX5_playGame_58 : decode cX5_playGame 58 = .ok (.if_icmp .ne 5, 3) := by decide +kernel
theorem dX5_playGame_61 : decode cX5_playGame 61 = .ok (.iload_n 3, 1) := by decide +kernel
theorem dX5_playGame_62 : decode cX5_playGame 62 = .ok (.ireturn, 1) := by decide +kernel
theorem dX5_playGame_63 : decode cX5_playGame 63 = .ok (.iload_n 2, 1) := by decide +kernel
theorem dX5_playGame_64 : decode cX5_playGame 64 = .ok (.iconst 1, 1) := by decide +kernel
theorem dX5_playGame_65 : decode cX5_playGame 65 = .ok (.iload 4, 2) := by decide +kernel
theorem dX5_playGame_67 : decode cX5_playGame 67 = .ok (.ishl, 1) := by decide +kernel
theorem dX5_playGame_68 : decode cX5_playGame 68 = .ok (.ior, 1) := by decide +kernel
theorem dX5_playGame_69 : decode cX5_playGame 69 = .ok (.istore_n 2, 1) := by decide +kernel
theorem dX5_playGame_70 : decode cX5_playGame 70 = .ok (.aload_n 0, 1) := by decide +kernel
theorem dX5_playGame_71 : decode cX5_playGame 71 = .ok (.getfield 45, 3) := by decide +kernel
theorem dX5_playGame_74 : decode cX5_playGame 74 = .ok (.iload_n 1, 1) := by decide +kernel
theorem dX5_playGame_75 : decode cX5_playGame 75 = .ok (.iload 4, 2) := by decide +kernel
theorem dX5_playGame_77 : decode cX5_playGame 77 = .ok (.invokevirtual 301, 3) := by decide +kernel
theorem dX5_playGame_80 : decode cX5_playGame 80 = .ok (.iinc 3 1, 3) := by decide +kernel
theorem dX5_playGame_83 : decode cX5_playGame 83 = .ok (.goto (-62), 3) := by decide +kernel
theorem dX5_playGame_86 : decode cX5_playGame 86 = .ok (.iload_n 3, 1) := by decide +kernel
theorem dX5_playGame_87 : decode cX5_playGame 87 = .ok (.ireturn, 1) := by decide +kernel
end
section
theorem dX6_init_0 : decode cX6_init 0 = .ok (.aload_n 0, 1) := by decide +kernel
theorem dX6_init_1 : decode cX6_init 1 = .ok (.invokespecial 1, 3) := by decide +kernel
theorem dX6_init_4 : decode cX6_init 4 = .ok (.aload_n 0, 1) := by decide +kernel
theorem dX6_init_5 : decode cX6_init 5 = .ok (.bipush 36, 2) := by decide +kernel
theorem dX6_init_7 : decode cX6_init 7 = .ok (.newarray .int, 2) := by decide +kernel
theorem dX6_init_9 : decode cX6_init 9 = .ok (.putfield 7, 3) := by decide +kernel
theorem dX6_init_12 : decode cX6_init 12 = .ok (.aload_n 0, 1) := by decide +kernel
theorem dX6_init_13 : decode cX6_init 13 = .ok (.bipush 8, 2) := by decide +kernel
theorem dX6_init_15 : decode cX6_init 15 = .ok (.newarray .int, 2) := by decide +kernel
theorem dX6_init_17 : decode cX6_init 17 = .ok (.putfield 13, 3) := by decide +kernel
theorem dX6_init_20 : decode cX6_init 20 = .ok (.aload_n 0, 1) := by decide +kernel
theorem dX6_init_21 : decode cX6_init 21 = .ok (.bipush 8, 2) := by decide +kernel
theorem dX6_init_23 : decode cX6_init 23 = .ok (.newarray .int, 2) := by decide +kernel
theorem dX6_init_25 : decode cX6_init 25 = .ok (.putfield 16, 3) := by decide +kernel
theorem dX6_init_28 : decode cX6_init 28 = .ok (.aload_n 0, 1) := by decide +kernel
theorem dX6_init_29 : decode cX6_init 29 = .ok (.bipush 8, 2) := by decide +kernel
theorem dX6_init_31 : decode cX6_init 31 = .ok (.newarray .int, 2) := by decide +kernel
theorem dX6_init_33 : decode cX6_init 33 = .ok (.putfield 19, 3) := by decide +kernel
theorem dX6_init_36 : decode cX6_init 36 = .ok (.aload_n 0, 1) := by decide +kernel
theorem dX6_init_37 : decode cX6_init 37 = .ok (.bipush 8, 2) := by decide +kernel
theorem dX6_init_39 : decode cX6_init 39 = .ok (.newarray .int, 2) := by decide +kernel
theorem dX6_init_41 : decode cX6_init 41 = .ok (.putfield 22, 3) := by decide +kernel
theorem dX6_init_44 : decode cX6_init 44 = .ok (.aload_n 0, 1) := by decide +kernel
theorem dX6_init_45 : decode cX6_init 45 = .ok (.bipush 8, 2) := by decide +kernel
theorem dX6_init_47 : decode cX6_init 47 = .ok (.newarray .int, 2) := by decide +kernel
theorem dX6_init_49 : decode cX6_init 49 = .ok (.putfield 25, 3) := by decide +kernel
theorem dX6_init_52 : decode cX6_init 52 = .ok (.aload_n 0, 1) := by decide +kernel
theorem dX6_init_53 : decode cX6_init 53 = .ok (.bipush 8, 2) := by decide +kernel
theorem dX6_init_55 : decode cX6_init 55 = .ok (.newarray .int, 2) := by decide +kernel
theorem dX6_init_57 : decode cX6_init 57 = .ok (.putfield 28, 3) := by decide +kernel
theorem dX6_init_60 : decode cX6_init 60 = .ok (.aload_n 0, 1) := by decide +kernel
theorem dX6_init_61 : decode cX6_init 61 = .ok (.bipush 16, 2) := by decide +kernel
theorem dX6_init_63 : decode cX6_init 63 = .ok (.newarray .int, 2) := by decide +kernel
theorem dX6_init_65 : decode cX6_init 65 = .ok (.putfield 31, 3) := by decide +kernel
theorem dX6_init_68 : decode cX6_init 68 = .ok (.aload_n 0, 1) := by decide +kernel
theorem dX6_init_69 : decode cX6_init 69 = .ok (.sipush 1024, 3) := by decide +kernel
theorem dX6_init_72 : decode cX6_init 72 = .ok (.newarray .long, 2) := by decide +kernel
theorem dX6_init_74 : decode cX6_init 74 = .ok (.putfield 34, 3) := by decide +kernel
theorem dX6_init_77 : decode cX6_init 77 = .ok (.aload_n 0, 1) := by decide +kernel
theorem dX6_init_78 : decode cX6_init 78 = .ok (.bipush 16, 2) := by decide +kernel
theorem dX6_init_80 : decode cX6_init 80 = .ok (.newarray .int, 2) := by decide +kernel
theorem dX6_init_82 : decode cX6_init 82 = .ok (.putfield 38, 3) := by decide +kernel
theorem dX6_init_85 : decode cX6_init 85 = .ok (.aload_n 0, 1) := by decide +kernel
theorem dX6_init_86 : decode cX6_init 86 = .ok (.sipush 128, 3) := by decide +kernel
theorem dX6_init_89 : decode cX6_init 89 = .ok (.newarray .int, 2) := by decide +kernel
theorem dX6_init_91 : decode cX6_init 91 = .ok (.putfield 41, 3) := by decide +kernel
theorem dX6_init_94 : decode cX6_init 94 = .ok (.aload_n 0, 1) := by decide +kernel
theorem dX6_init_95 : decode cX6_init 95 = .ok (.bipush 18, 2) := by decide +kernel
theorem dX6_init_97 : decode cX6_init 97 = .ok (.newarray .int, 2) := by decide +kernel
theorem dX6_init_99 : decode cX6_init 99 = .ok (.putfield 44, 3) := by decide +kernel
theorem dX6_init_102 : decode cX6_init 102 = .ok (.aload_n 0, 1) := by decide +kernel
theorem dX6_init_103 : decode cX6_init 103 = .ok (.sipush 200, 3) := by decide +kernel
theorem dX6_init_106 : decode cX6_init 106 = .ok (.newarray .int, 2) := by decide +kernel
theorem dX6_init_108 : decode cX6_init 108 = .ok (.putfield 47, 3) := by decide +kernel
theorem dX6_init_111 : decode cX6_init 111 = .ok (.aload_n 0, 1) := by decide +kernel
theorem dX6_init_112 : decode cX6_init 112 = .ok (.bipush 16, 2) := by decide +kernel
theorem dX6_init_114 : decode cX6_init 114 = .ok (.newarray .int, 2) := by decide +kernel
theorem dX6_init_116 : decode cX6_init 116 = .ok (.putfield 50, 3) := by decide +kernel
theorem dX6_init_119 : decode cX6_init 119 = .ok (.aload_n 0, 1) := by decide +kernel
theorem dX6_init_120 : decode cX6_init 120 = .ok (.bipush 8, 2) := by decide +kernel
theorem dX6_init_122 : decode cX6_init 122 = .ok (.newarray .int, 2) := by decide +kernel
theorem dX6_init_124 : decode cX6_init 124 = .ok (.putfield 53, 3) := by decide +kernel
theorem dX6_init_127 : decode cX6_init 127 = .ok (.aload_n 0, 1) := by decide +kernel
theorem dX6_init_128 : decode cX6_init 128 = .ok (.bipush 8, 2) := by decide +kernel
theorem dX6_init_130 : decode cX6_init 130 = .ok (.newarray .int, 2) := by decide +kernel
theorem dX6_init_132 : decode cX6_init 132 = .ok (.putfield 56, 3) := by decide +kernel
theorem dX6_init_135 : decode cX6_init 135 = .ok (.aload_n 0, 1) := by decide +kernel
theorem dX6_init_136 : decode cX6_init 136 = .ok (.bipush 8, 2) := by decide +kernel
theorem dX6_init_138 : decode cX6_init 138 = .ok (.newarray .int, 2) := by decide +kernel
theorem dX6_init_140 : decode cX6_init 140 = .ok (.putfield 59, 3) := by decide +kernel
theorem dX6_init_143 : decode cX6_init 143 = .ok (.aload_n 0, 1) := by decide +kernel
theorem dX6_init_144 : decode cX6_init 144 = .ok (.bipush 16, 2) := by decide +kernel
theorem dX6_init_146 : decode cX6_init 146 = .ok (.newarray .int, 2) := by decide +kernel
theorem dX6_init_148 : decode cX6_init 148 = .ok (.putfield 62, 3) := by decide +kernel
theorem dX6_init_151 : decode cX6_init 151 = .ok (.aload_n 0, 1) := by decide +kernel
theorem dX6_init_152 : decode cX6_init 152 = .ok (.bipush 18, 2) := by decide +kernel
theorem dX6_init_154 : decode cX6_init 154 = .ok (.newarray .int, 2) := by decide +kernel
theorem dX6_init_156 : decode cX6_init 156 = .ok (.putfield 65, 3) := by decide +kernel
theorem dX6_init_159 : decode cX6_init 159 = .ok (.aload_n 0, 1) := by decide +kernel
theorem dX6_init_160 : decode cX6_init 160 = .ok (.iconst (-1), 1) := by decide +kernel
theorem dX6_init_161 : decode cX6_init 161 = .ok (.putfield 68, 3) := by decide +kernel
theorem dX6_init_164 : decode cX6_init 164 = .ok (.aload_n 0, 1) := by decide +kernel
theorem dX6_init_165 : decode cX6_init 165 = .ok (.iconst 1, 1) := by decide +kernel
theorem dX6_init_166 : decode cX6_init 166 = .ok (.putfield 72, 3) := by decide +kernel
theorem dX6_init_169 : decode cX6_init 169 = .ok (.return_, 1) := by decide +kernel
theorem dX6_in_0 : decode cX6_in 0 = .ok (.lload_n 0, 1) := by decide +kernel
theorem dX6_in_1 : decode cX6_in 1 = .ok (.lload_n 2, 1) := by decide +kernel
theorem dX6_in_2 : decode cX6_in 2 = .ok (.lcmp, 1) := by decide +kernel
theorem dX6_in_3 : decode cX6_in 3 = .ok (.ifCond .lt 14, 3) := by decide +kernel
theorem dX6_in_6 : decode cX6_in 6 = .ok (.lload_n 0, 1) := by decide +kernel
theorem dX6_in_7 : decode cX6_in 7 = .ok (.lload 4, 2) := by decide +kernel
theorem dX6_in_9 : decode cX6_in 9 = .ok (.lcmp, 1) := by decide +kernel
theorem dX6_in_10 : decode cX6_in 10 = .ok (.ifCond .gt 7, 3) := by decide +kernel
theorem dX6_in_13 : decode cX6_in 13 = .ok (.iconst 1, 1) := by decide +kernel
theorem dX6_in_14 : decode cX6_in 14 = .ok (.goto 4, 3) := by decide +kernel
theorem dX6_in_17 : decode cX6_in 17 = .ok (.iconst 0, 1) := by decide +kernel
theorem dX6_in_18 : decode cX6_in 18 = .ok (.ireturn, 1) := by decide +kernel
theorem dX6_copy_0 : decode cX6_copy 0 = .ok (.iconst 0, 1) := by decide +kernel
theorem dX6_copy_1 : decode cX6_copy 1 = .ok (.istore_n 2, 1) := by decide +kernel
theorem dX6_copy_2 : decode cX6_copy 2 = .ok (.iload_n 2, 1) := by decide +kernel
theorem dX6_copy_3 : decode cX6_copy 3 = .ok (.aload_n 0, 1) := by decide +kernel
theorem dX6_copy_4 : decode cX6_copy 4 = .ok (.arraylength, 1) := by decide +kernel
theorem dX6_copy_5 : decode cX6_copy 5 = .ok (.if_icmp .ge 15, 3) := by decide +kernel
theorem dX6_copy_8 : decode cX6_copy 8 = .ok (.aload_n 1, 1) := by decide +kernel
theorem dX6_copy_9 : decode cX6_copy 9 = .ok (.iload_n 2, 1) := by decide +kernel
theorem dX6_copy_10 : decode cX6_copy 10 = .ok (.aload_n 0, 1) := by decide +kernel
theorem dX6_copy_11 : decode cX6_copy 11 = .ok (.iload_n 2, 1) := by decide +kernel
theorem dX6_copy_12 : decode cX6_copy 12 = .ok (.iaload, 1) := by decide +kernel
theorem dX6_copy_13 : decode cX6_copy 13 = .ok (.iastore, 1) := by decide +kernel
theorem dX6_copy_14 : decode cX6_copy 14 = .ok (.iinc 2 1, 3) := by decide +kernel
theorem dX6_copy_17 : decode cX6_copy 17 = .ok (.goto (-15), 3) := by decide +kernel
theorem dX6_copy_20 : decode cX6_copy 20 = .ok (.return_, 1) := by decide +kernel
theorem dX6_ones_0 : decode cX6_ones 0 = .ok (.iconst 0, 1) := by decide +kernel
theorem dX6_ones_1 : decode cX6_ones 1 = .ok (.istore_n 1, 1) := by decide +kernel
theorem dX6_ones_2 : decode cX6_ones 2 = .ok (.iconst 0, 1) := by decide +kernel
theorem dX6_ones_3 : decode cX6_ones 3 = .ok (.istore_n 2, 1) := by decide +kernel
theorem dX6_ones_4 : decode cX6_ones 4 = .ok (.iload_n 2, 1) := by decide +kernel
theorem dX6_ones_5 : decode cX6_ones 5 = .ok (.bipush 16, 2) := by decide +kernel
theorem dX6_ones_7 : decode cX6_ones 7 = .ok (.if_icmp .ge 17, 3) := by decide +kernel
theorem dX6_ones_10 : decode cX6_ones 10 = .ok (.iload_n 1, 1) := by decide +kernel
theorem dX6_ones_11 : decode cX6_ones 11 = .ok (.iload_n 0, 1) := by decide +kernel
theorem dX6_ones_12 : decode cX6_ones 12 = .ok (.iload_n 2, 1) := by decide +kernel
theorem dX6_ones_13 : decode cX6_ones 13 = .ok (.ishr, 1) := by decide +kernel
theorem dX6_ones_14 : decode cX6_ones 14 = .ok (.iconst 1, 1) := by decide +kernel
theorem dX6_ones_15 : decode cX6_ones 15 = .ok (.iand, 1) := by decide +kernel
theorem dX6_ones_16 : decode cX6_ones 16 = .ok (.iadd, 1) := by decide +kernel
theorem dX6_ones_17 : decode cX6_ones 17 = .ok (.istore_n 1, 1) := by decide +kernel
theorem dX6_ones_18 : decode cX6_ones 18 = .ok (.iinc 2 1, 3) := by decide +kernel
theorem dX6_ones_21 : decode cX6_ones 21 = .ok (.goto (-17), 3) := by decide +kernel
theorem dX6_ones_24 : decode cX6_ones 24 = .ok (.iload_n 1, 1) := by decide +kernel
theorem dX6_ones_25 : decode cX6_ones 25 = .ok (.ireturn, 1) := by decide +kernel
theorem dX6_letter_0 : decode cX6_letter 0 = .ok (.iload_n 1, 1) := by decide +kernel
theorem dX6_letter_1 : decode cX6_letter 1 = .ok (.i2l, 1) := by decide +kernel
theorem dX6_letter_2 : decode cX6_letter 2 = .ok (.lconst 1, 1) := by decide +kernel
theorem dX6_letter_3 : decode cX6_letter 3 = .ok (.ldc2_w 76, 3) := by decide +kernel
theorem dX6_letter_6 : decode cX6_letter 6 = .ok (.invokestatic 78, 3) := by decide +kernel
theorem dX6_letter_9 : decode cX6_letter 9 = .ok (.ifCond .ne 6, 3) := by decide +kernel
theorem dX6_letter_12 : decode cX6_letter 12 = .ok (.bipush (-102), 2) := by decide +kernel
theorem dX6_letter_14 : decode cX6_letter 14 = .ok (.ireturn, 1) := by decide +kernel
theorem dX6_letter_15 : decode cX6_letter 15 = .ok (.aload_n 0, 1) := by decide +kernel
theorem dX6_letter_16 : decode cX6_letter 16 = .ok (.getfield 82, 3) := by decide +kernel
theorem dX6_letter_19 : decode cX6_letter 19 = .ok (.bipush 36, 2) := by decide +kernel
theorem dX6_letter_21 : decode cX6_letter 21 = .ok (.if_icmp .ne 6, 3) := by decide +kernel
theorem dX6_letter_24 : decode cX6_letter 24 = .ok (.bipush (-104), 2) := by decide +kernel
theorem dX6_letter_26 : decode cX6_letter 26 = .ok (.ireturn, 1) := by decide +kernel
theorem dX6_letter_27 : decode cX6_letter 27 = .ok (.aload_n 0, 1) := by decide +kernel
theorem dX6_letter_28 : decode cX6_letter 28 = .ok (.getfield 7, 3) := by decide +kernel
theorem dX6_letter_31 : decode cX6_letter 31 = .ok (.aload_n 0, 1) := by decide +kernel
theorem dX6_letter_32 : decode cX6_letter 32 = .ok (.getfield 82, 3) := by decide +kernel
theorem dX6_letter_35 : decode cX6_letter 35 = .ok (.iload_n 1, 1) := by decide +kernel
theorem dX6_letter_36 : decode cX6_letter 36 = .ok (.iastore, 1) := by decide +kernel
theorem dX6_letter_37 : decode cX6_letter 37 = .ok (.aload_n 0, 1) := by decide +kernel
theorem dX6_letter_38 : decode cX6_letter 38 = .ok (.dup, 1) := by decide +kernel
theorem dX6_letter_39 : decode cX6_letter 39 = .ok (.getfield 82, 3) := by decide +kernel
theorem dX6_letter_42 : decode cX6_letter 42 = .ok (.iconst 1, 1) := by decide +kernel
theorem dX6_letter_43 : decode cX6_letter 43 = .ok (.iadd, 1) := by decide +kernel
theorem dX6_letter_44 : decode cX6_letter 44 = .ok (.putfield 82, 3) := by decide +kernel
theorem dX6_letter_47 : decode cX6_letter 47 = .ok (.aload_n 0, 1) := by decide +kernel
theorem dX6_letter_48 : decode cX6_letter 48 = .ok (.getfield 82, 3) := by decide +kernel
theorem dX6_letter_51 : decode cX6_letter 51 = .ok (.ireturn, 1) := by decide +kernel
theorem dX6_blank_0 : decode cX6_blank 0 = .ok (.aload_n 0, 1) := by decide +kernel
theorem dX6_blank_1 : decode cX6_blank 1 = .ok (.getfield 82, 3) := by decide +kernel
theorem dX6_blank_4 : decode cX6_blank 4 = .ok (.istore_n 1, 1) := by decide +kernel
theorem dX6_blank_5 : decode cX6_blank 5 = .ok (.aload_n 0, 1) := by decide +kernel
theorem dX6_blank_6 : decode cX6_blank 6 = .ok (.iconst 0, 1) := by decide +kernel
theorem dX6_blank_7 : decode cX6_blank 7 = .ok (.putfield 82, 3) := by decide +kernel
theorem dX6_blank_10 : decode cX6_blank 10 = .ok (.iload_n 1, 1) := by decide +kernel
theorem dX6_blank_11 : decode cX6_blank 11 = .ok (.ireturn, 1) := by decide +kernel
theorem dX6_kindBy_0 : decode cX6_kindBy 0 = .ok (.iload_n 0, 1) := by decide +kernel
theorem dX6_kindBy_1 : decode cX6_kindBy 1 = .ok (.lookupswitch 61 #[(99, 51), (108, 57), (112, 55), (114, 53), (116, 59)], 51) := by decide +kernel
theorem dX6_kindBy_52 : decode cX6_kindBy 52 = .ok (.iconst 0, 1) := by decide +kernel
theorem dX6_kindBy_53 : decode cX6_kindBy 53 = .ok (.ireturn, 1) := by decide +kernel
theorem dX6_kindBy_54 : decode cX6_kindBy 54 = .ok (.iconst 1, 1) := by decide +kernel
theorem dX6_kindBy_55 : decode cX6_kindBy 55 = .ok (.ireturn, 1) := by decide +kernel
theorem dX6_kindBy_56 : decode cX6_kindBy 56 = .ok (.iconst 2, 1) := by decide +kernel
theorem dX6_kindBy_57 : decode cX6_kindBy 57 = .ok (.ireturn, 1) := by decide +kernel
theorem dX6_kindBy_58 : decode cX6_kindBy 58 = .ok (.iconst 3, 1) := by decide +kernel
theorem dX6_kindBy_59 : decode cX6_kindBy 59 = .ok (.ireturn, 1) := by decide +kernel
theorem dX6_kindBy_60 : decode cX6_kindBy 60 = .ok (.iconst 4, 1) := by decide +kernel
theorem dX6_kindBy_61 : decode cX6_kindBy 61 = .ok (.ireturn, 1) := by decide +kernel
theorem dX6_kindBy_62 : decode cX6_kindBy 62 = .ok (.iconst (-1), 1) := by decide +kernel
theorem dX6_kindBy_63 : decode cX6_kindBy 63 = .ok (.ireturn, 1) := by decide +kernel
theorem dX6_isDouble_0 : decode cX6_isDouble 0 = .ok (.iload_n 0, 1) := by decide +kernel
theorem dX6_isDouble_1 : decode cX6_isDouble 1 = .ok (.iconst 1, 1) := by decide +kernel
theorem dX6_isDouble_2 : decode cX6_isDouble 2 = .ok (.if_icmp .eq 8, 3) := by decide +kernel
theorem dX6_isDouble_5 : decode cX6_isDouble 5 = .ok (.iload_n 0, 1) := by decide +kernel
theorem dX6_isDouble_6 : decode cX6_isDouble 6 = .ok (.iconst 4, 1) := by decide +kernel
theorem dX6_isDouble_7 : decode cX6_isDouble 7 = .ok (.if_icmp .ne 7, 3) := by decide +kernel
theorem dX6_isDouble_10 : decode cX6_isDouble 10 = .ok (.iconst 1, 1) := by decide +kernel
theorem dX6_isDouble_11 : decode cX6_isDouble 11 = .ok (.goto 4, 3) := by decide +kernel
theorem dX6_isDouble_14 : decode cX6_isDouble 14 = .ok (.iconst 0, 1) := by decide +kernel
theorem dX6_isDouble_15 : decode cX6_isDouble 15 = .ok (.ireturn, 1) := by decide +kernel
theorem dX6_mostSecond_0 : decode cX6_mostSecond 0 = .ok (.iload_n 0, 1) := by decide +kernel
theorem dX6_mostSecond_1 : decode cX6_mostSecond 1 = .ok (.ifCond .eq 10, 3) := by decide +kernel
theorem dX6_mostSecond_4 : decode cX6_mostSecond 4 = .ok (.iload_n 0, 1) := by decide +kernel
theorem dX6_mostSecond_5 : decode cX6_mostSecond 5 = .ok (.iconst 1, 1) := by decide +kernel
theorem dX6_mostSecond_6 : decode cX6_mostSecond 6 = .ok (.iadd, 1) := by decide +kernel
theorem dX6_mostSecond_7 : decode cX6_mostSecond 7 = .ok (.iload_n 1, 1) := by decide +kernel
theorem dX6_mostSecond_8 : decode cX6_mostSecond 8 = .ok (.if_icmp .le 7, 3) := by decide +kernel
theorem dX6_mostSecond_11 : decode cX6_mostSecond 11 = .ok (.iconst 0, 1) := by decide +kernel
theorem dX6_mostSecond_12 : decode cX6_mostSecond 12 = .ok (.goto 8, 3) := by decide +kernel
theorem dX6_mostSecond_15 : decode cX6_mostSecond 15 = .ok (.iload_n 1, 1) := by decide +kernel
theorem dX6_mostSecond_16 : decode cX6_mostSecond 16 = .ok (.iload_n 0, 1) := by decide +kernel
theorem dX6_mostSecond_17 : decode cX6_mostSecond 17 = .ok (.isub, 1) := by decide +kernel
theorem dX6_mostSecond_18 : decode cX6_mostSecond 18 = .ok (.iconst 1, 1) := by decide +kernel
theorem dX6_mostSecond_19 : decode cX6_mostSecond 19 = .ok (.isub, 1) := by decide +kernel
theorem dX6_mostSecond_20 : decode cX6_mostSecond 20 = .ok (.ireturn, 1) := by decide +kernel
theorem dX6_readHigh_0 : decode cX6_readHigh 0 = .ok (.aload_n 0, 1) := by decide +kernel
theorem dX6_readHigh_1 : decode cX6_readHigh 1 = .ok (.getfield 7, 3) := by decide +kernel
theorem dX6_readHigh_4 : decode cX6_readHigh 4 = .ok (.iconst 0, 1) := by decide +kernel
theorem dX6_readHigh_5 : decode cX6_readHigh 5 = .ok (.iaload, 1) := by decide +kernel
theorem dX6_readHigh_6 : decode cX6_readHigh 6 = .ok (.bipush 48, 2) := by decide +kernel
theorem dX6_readHigh_8 : decode cX6_readHigh 8 = .ok (.isub, 1) := by decide +kernel
theorem dX6_readHigh_9 : decode cX6_readHigh 9 = .ok (.ireturn, 1) := by decide +kernel
theorem dX6_readLines_0 : decode cX6_readLines 0 = .ok (.aload_n 0, 1) := by decide +kernel
theorem dX6_readLines_1 : decode cX6_readLines 1 = .ok (.getfield 7, 3) := by decide +kernel
theorem dX6_readLines_4 : decode cX6_readLines 4 = .ok (.iconst 0, 1) := by decide +kernel
theorem dX6_readLines_5 : decode cX6_readLines 5 = .ok (.iaload, 1) := by decide +kernel
theorem dX6_readLines_6 : decode cX6_readLines 6 = .ok (.bipush 48, 2) := by decide +kernel
theorem dX6_readLines_8 : decode cX6_readLines 8 = .ok (.isub, 1) := by decide +kernel
theorem dX6_readLines_9 : decode cX6_readLines 9 = .ok (.aload_n 0, 1) := by decide +kernel
theorem dX6_readLines_10 : decode cX6_readLines 10 = .ok (.getfield 7, 3) := by decide +kernel
theorem dX6_readLines_13 : decode cX6_readLines 13 = .ok (.iconst 1, 1) := by decide +kernel
theorem dX6_readLines_14 : decode cX6_readLines 14 = .ok (.iaload, 1) := by decide +kernel
theorem dX6_readLines_15 : decode cX6_readLines 15 = .ok (.iadd, 1) := by decide +kernel
theorem dX6_readLines_16 : decode cX6_readLines 16 = .ok (.bipush 48, 2) := by decide +kernel
theorem dX6_readLines_18 : decode cX6_readLines 18 = .ok (.isub, 1) := by decide +kernel
theorem dX6_readLines_19 : decode cX6_readLines 19 = .ok (.ireturn, 1) := by decide +kernel
theorem dX6_readCells_0 : decode cX6_readCells 0 = .ok (.aload_n 0, 1) := by decide +kernel
theorem dX6_readCells_1 : decode cX6_readCells 1 = .ok (.getfield 85, 3) := by decide +kernel
theorem dX6_readCells_4 : decode cX6_readCells 4 = .ok (.aload_n 0, 1) := by decide +kernel
theorem dX6_readCells_5 : decode cX6_readCells 5 = .ok (.invokevirtual 88, 3) := by decide +kernel
theorem dX6_readCells_8 : decode cX6_readCells 8 = .ok (.if_icmp .ge 15, 3) := by decide +kernel
theorem dX6_readCells_11 : decode cX6_readCells 11 = .ok (.aload_n 0, 1) := by decide +kernel
theorem dX6_readCells_12 : decode cX6_readCells 12 = .ok (.getfield 7, 3) := by decide +kernel
theorem dX6_readCells_15 : decode cX6_readCells 15 = .ok (.iconst 1, 1) := by decide +kernel
theorem dX6_readCells_16 : decode cX6_readCells 16 = .ok (.iaload, 1) := by decide +kernel
theorem dX6_readCells_17 : decode cX6_readCells 17 = .ok (.bipush 48, 2) := by decide +kernel
theorem dX6_readCells_19 : decode cX6_readCells 19 = .ok (.isub, 1) := by decide +kernel
theorem dX6_readCells_20 : decode cX6_readCells 20 = .ok (.goto 12, 3) := by decide +kernel
theorem dX6_readCells_23 : decode cX6_readCells 23 = .ok (.aload_n 0, 1) := by decide +kernel
theorem dX6_readCells_24 : decode cX6_readCells 24 = .ok (.getfield 7, 3) := by decide +kernel
theorem dX6_readCells_27 : decode cX6_readCells 27 = .ok (.iconst 0, 1) := by decide +kernel
theorem dX6_readCells_28 : decode cX6_readCells 28 = .ok (.iaload, 1) := by decide +kernel
theorem dX6_readCells_29 : decode cX6_readCells 29 = .ok (.bipush 48, 2) := by decide +kernel
theorem dX6_readCells_31 : decode cX6_readCells 31 = .ok (.isub, 1) := by decide +kernel
theorem dX6_readCells_32 : decode cX6_readCells 32 = .ok (.ireturn, 1) := by decide +kernel
theorem dX6_isKindLetter_0 : decode cX6_isKindLetter 0 = .ok (.aload_n 0, 1) := by decide +kernel
theorem dX6_isKindLetter_1 : decode cX6_isKindLetter 1 = .ok (.iload_n 1, 1) := by decide +kernel
theorem dX6_isKindLetter_2 : decode cX6_isKindLetter 2 = .ok (.invokestatic 92, 3) := by decide +kernel
theorem dX6_isKindLetter_5 : decode cX6_isKindLetter 5 = .ok (.putfield 96, 3) := by decide +kernel
theorem dX6_isKindLetter_8 : decode cX6_isKindLetter 8 = .ok (.aload_n 0, 1) := by decide +kernel
theorem dX6_isKindLetter_9 : decode cX6_isKindLetter 9 = .ok (.iconst 1, 1) := by decide +kernel
theorem dX6_isKindLetter_10 : decode cX6_isKindLetter 10 = .ok (.putfield 99, 3) := by decide +kernel
theorem dX6_isKindLetter_13 : decode cX6_isKindLetter 13 = .ok (.aload_n 0, 1) := by decide +kernel
theorem dX6_isKindLetter_14 : decode cX6_isKindLetter 14 = .ok (.getfield 96, 3) := by decide +kernel
theorem dX6_isKindLetter_17 : decode cX6_isKindLetter 17 = .ok (.iconst (-1), 1) := by decide +kernel
theorem dX6_isKindLetter_18 : decode cX6_isKindLetter 18 = .ok (.if_icmp .eq 26, 3) := by decide +kernel
theorem dX6_isKindLetter_21 : decode cX6_isKindLetter 21 = .ok (.aload_n 0, 1) := by decide +kernel
theorem dX6_isKindLetter_22 : decode cX6_isKindLetter 22 = .ok (.getfield 13, 3) := by decide +kernel
theorem dX6_isKindLetter_25 : decode cX6_isKindLetter 25 = .ok (.aload_n 0, 1) := by decide +kernel
theorem dX6_isKindLetter_26 : decode cX6_isKindLetter 26 = .ok (.getfield 85, 3) := by decide +kernel
theorem dX6_isKindLetter_29 : decode cX6_isKindLetter 29 = .ok (.aload_n 0, 1) := by decide +kernel
theorem dX6_isKindLetter_30 : decode cX6_isKindLetter 30 = .ok (.getfield 96, 3) := by decide +kernel
theorem dX6_isKindLetter_33 : decode cX6_isKindLetter 33 = .ok (.iastore, 1) := by decide +kernel
theorem dX6_isKindLetter_34 : decode cX6_isKindLetter 34 = .ok (.aload_n 0, 1) := by decide +kernel
theorem dX6_isKindLetter_35 : decode cX6_isKindLetter 35 = .ok (.getfield 19, 3) := by decide +kernel
theorem dX6_isKindLetter_38 : decode cX6_isKindLetter 38 = .ok (.aload_n 0, 1) := by decide +kernel
theorem dX6_isKindLetter_39 : decode cX6_isKindLetter 39 = .ok (.getfield 85, 3) := by decide +kernel
theorem dX6_isKindLetter_42 : decode cX6_isKindLetter 42 = .ok (.iconst 0, 1) := by decide +kernel
theorem dX6_isKindLetter_43 : decode cX6_isKindLetter 43 = .ok (.iastore, 1) := by decide +kernel
theorem dX6_isKindLetter_44 : decode cX6_isKindLetter 44 = .ok (.aload_n 0, 1) := by decide +kernel
theorem dX6_isKindLetter_45 : decode cX6_isKindLetter 45 = .ok (.getfield 96, 3) := by decide +kernel
theorem dX6_isKindLetter_48 : decode cX6_isKindLetter 48 = .ok (.iconst (-1), 1) := by decide +kernel
theorem dX6_isKindLetter_49 : decode cX6_isKindLetter 49 = .ok (.if_icmp .eq 7, 3) := by decide +kernel
theorem dX6_isKindLetter_52 : decode cX6_isKindLetter 52 = .ok (.iconst 1, 1) := by decide +kernel
theorem dX6_isKindLetter_53 : decode cX6_isKindLetter 53 = .ok (.goto 4, 3) := by decide +kernel
theorem dX6_isKindLetter_56 : decode cX6_isKindLetter 56 = .ok (.iconst 0, 1) := by decide +kernel
theorem dX6_isKindLetter_57 : decode cX6_isKindLetter 57 = .ok (.ireturn, 1) := by decide +kernel
theorem dX6_isFirstLetter_0 : decode cX6_isFirstLetter 0 = .ok (.aload_n 0, 1) := by decide +kernel
theorem dX6_isFirstLetter_1 : decode cX6_isFirstLetter 1 = .ok (.iload_n 1, 1) := by decide +kernel
theorem dX6_isFirstLetter_2 : decode cX6_isFirstLetter 2 = .ok (.bipush 48, 2) := by decide +kernel
theorem dX6_isFirstLetter_4 : decode cX6_isFirstLetter 4 = .ok (.isub, 1) := by decide +kernel
theorem dX6_isFirstLetter_5 : decode cX6_isFirstLetter 5 = .ok (.putfield 102, 3) := by decide +kernel
theorem dX6_isFirstLetter_8 : decode cX6_isFirstLetter 8 = .ok (.aload_n 0, 1) := by decide +kernel
theorem dX6_isFirstLetter_9 : decode cX6_isFirstLetter 9 = .ok (.getfield 16, 3) := by decide +kernel
theorem dX6_isFirstLetter_12 : decode cX6_isFirstLetter 12 = .ok (.aload_n 0, 1) := by decide +kernel
theorem dX6_isFirstLetter_13 : decode cX6_isFirstLetter 13 = .ok (.getfield 85, 3) := by decide +kernel
theorem dX6_isFirstLetter_16 : decode cX6_isFirstLetter 16 = .ok (.aload_n 0, 1) := by decide +kernel
theorem dX6_isFirstLetter_17 : decode cX6_isFirstLetter 17 = .ok (.getfield 102, 3) := by decide +kernel
theorem dX6_isFirstLetter_20 : decode cX6_isFirstLetter 20 = .ok (.iastore, 1) := by decide +kernel
theorem dX6_isFirstLetter_21 : decode cX6_isFirstLetter 21 = .ok (.aload_n 0, 1) := by decide +kernel
theorem dX6_isFirstLetter_22 : decode cX6_isFirstLetter 22 = .ok (.aload_n 0, 1) := by decide +kernel
theorem dX6_isFirstLetter_23 : decode cX6_isFirstLetter 23 = .ok (.getfield 96, 3) := by decide +kernel
theorem dX6_isFirstLetter_26 : decode cX6_isFirstLetter 26 = .ok (.invokestatic 105, 3) := by decide +kernel
theorem dX6_isFirstLetter_29 : decode cX6_isFirstLetter 29 = .ok (.ifCond .eq 7, 3) := by decide +kernel
theorem dX6_isFirstLetter_32 : decode cX6_isFirstLetter 32 = .ok (.iconst 2, 1) := by decide +kernel
theorem dX6_isFirstLetter_33 : decode cX6_isFirstLetter 33 = .ok (.goto 4, 3) := by decide +kernel
theorem dX6_isFirstLetter_36 : decode cX6_isFirstLetter 36 = .ok (.iconst 3, 1) := by decide +kernel
theorem dX6_isFirstLetter_37 : decode cX6_isFirstLetter 37 = .ok (.putfield 99, 3) := by decide +kernel
theorem dX6_isFirstLetter_40 : decode cX6_isFirstLetter 40 = .ok (.aload_n 0, 1) := by decide +kernel
theorem dX6_isFirstLetter_41 : decode cX6_isFirstLetter 41 = .ok (.getfield 102, 3) := by decide +kernel
theorem dX6_isFirstLetter_44 : decode cX6_isFirstLetter 44 = .ok (.i2l, 1) := by decide +kernel
theorem dX6_isFirstLetter_45 : decode cX6_isFirstLetter 45 = .ok (.lconst 0, 1) := by decide +kernel
theorem dX6_isFirstLetter_46 : decode cX6_isFirstLetter 46 = .ok (.aload_n 0, 1) := by decide +kernel
theorem dX6_isFirstLetter_47 : decode cX6_isFirstLetter 47 = .ok (.invokevirtual 109, 3) := by decide +kernel
theorem dX6_isFirstLetter_50 : decode cX6_isFirstLetter 50 = .ok (.i2l, 1) := by decide +kernel
theorem dX6_isFirstLetter_51 : decode cX6_isFirstLetter 51 = .ok (.invokestatic 78, 3) := by decide +kernel
theorem dX6_isFirstLetter_54 : decode cX6_isFirstLetter 54 = .ok (.ireturn, 1) := by decide +kernel
theorem dX6_isSecondLetter_0 : decode cX6_isSecondLetter 0 = .ok (.aload_n 0, 1) := by decide +kernel
theorem dX6_isSecondLetter_1 : decode cX6_isSecondLetter 1 = .ok (.getfield 19, 3) := by decide +kernel
theorem dX6_isSecondLetter_4 : decode cX6_isSecondLetter 4 = .ok (.aload_n 0, 1) := by decide +kernel
theorem dX6_isSecondLetter_5 : decode cX6_isSecondLetter 5 = .ok (.getfield 85, 3) := by decide +kernel
theorem dX6_isSecondLetter_8 : decode cX6_isSecondLetter 8 = .ok (.iload_n 1, 1) := by decide +kernel
theorem dX6_isSecondLetter_9 : decode cX6_isSecondLetter 9 = .ok (.bipush 48, 2) := by decide +kernel
theorem dX6_isSecondLetter_11 : decode cX6_isSecondLetter 11 = .ok (.isub, 1) := by decide +kernel
theorem dX6_isSecondLetter_12 : decode cX6_isSecondLetter 12 = .ok (.iastore, 1) := by decide +kernel
theorem dX6_isSecondLetter_13 : decode cX6_isSecondLetter 13 = .ok (.aload_n 0, 1) := by decide +kernel
theorem dX6_isSecondLetter_14 : decode cX6_isSecondLetter 14 = .ok (.iconst 3, 1) := by decide +kernel
theorem dX6_isSecondLetter_15 : decode cX6_isSecondLetter 15 = .ok (.putfield 99, 3) := by decide +kernel
theorem dX6_isSecondLetter_18 : decode cX6_isSecondLetter 18 = .ok (.iload_n 1, 1) := by decide +kernel
theorem dX6_isSecondLetter_19 : decode cX6_isSecondLetter 19 = .ok (.bipush 48, 2) := by decide +kernel
theorem dX6_isSecondLetter_21 : decode cX6_isSecondLetter 21 = .ok (.isub, 1) := by decide +kernel
theorem dX6_isSecondLetter_22 : decode cX6_isSecondLetter 22 = .ok (.i2l, 1) := by decide +kernel
theorem dX6_isSecondLetter_23 : decode cX6_isSecondLetter 23 = .ok (.lconst 0, 1) := by decide +kernel
theorem dX6_isSecondLetter_24 : decode cX6_isSecondLetter 24 = .ok (.aload_n 0, 1) := by decide +kernel
theorem dX6_isSecondLetter_25 : decode cX6_isSecondLetter 25 = .ok (.getfield 102, 3) := by decide +kernel
theorem dX6_isSecondLetter_28 : decode cX6_isSecondLetter 28 = .ok (.aload_n 0, 1) := by decide +kernel
theorem dX6_isSecondLetter_29 : decode cX6_isSecondLetter 29 = .ok (.invokevirtual 109, 3) := by decide +kernel
theorem dX6_isSecondLetter_32 : decode cX6_isSecondLetter 32 = .ok (.invokestatic 112, 3) := by decide +kernel
theorem dX6_isSecondLetter_35 : decode cX6_isSecondLetter 35 = .ok (.i2l, 1) := by decide +kernel
theorem dX6_isSecondLetter_36 : decode cX6_isSecondLetter 36 = .ok (.invokestatic 78, 3) := by decide +kernel
theorem dX6_isSecondLetter_39 : decode cX6_isSecondLetter 39 = .ok (.ireturn, 1) := by decide +kernel
theorem dX6_isBehindLetter_0 : decode cX6_isBehindLetter 0 = .ok (.aload_n 0, 1) := by decide +kernel
theorem dX6_isBehindLetter_1 : decode cX6_isBehindLetter 1 = .ok (.dup, 1) := by decide +kernel
theorem dX6_isBehindLetter_2 : decode cX6_isBehindLetter 2 = .ok (.getfield 85, 3) := by decide +kernel
theorem dX6_isBehindLetter_5 : decode cX6_isBehindLetter 5 = .ok (.iconst 1, 1) := by decide +kernel
theorem dX6_isBehindLetter_6 : decode cX6_isBehindLetter 6 = .ok (.iadd, 1) := by decide +kernel
theorem dX6_isBehindLetter_7 : decode cX6_isBehindLetter 7 = .ok (.putfield 85, 3) := by decide +kernel
theorem dX6_isBehindLetter_10 : decode cX6_isBehindLetter 10 = .ok (.aload_n 0, 1) := by decide +kernel
theorem dX6_isBehindLetter_11 : decode cX6_isBehindLetter 11 = .ok (.iconst 0, 1) := by decide +kernel
theorem dX6_isBehindLetter_12 : decode cX6_isBehindLetter 12 = .ok (.putfield 99, 3) := by decide +kernel
theorem dX6_isBehindLetter_15 : decode cX6_isBehindLetter 15 = .ok (.aload_n 0, 1) := by decide +kernel
theorem dX6_isBehindLetter_16 : decode cX6_isBehindLetter 16 = .ok (.getfield 85, 3) := by decide +kernel
theorem dX6_isBehindLetter_19 : decode cX6_isBehindLetter 19 = .ok (.aload_n 0, 1) := by decide +kernel
theorem dX6_isBehindLetter_20 : decode cX6_isBehindLetter 20 = .ok (.invokevirtual 116, 3) := by decide +kernel
theorem dX6_isBehindLetter_23 : decode cX6_isBehindLetter 23 = .ok (.if_icmp .ge 29, 3) := by decide +kernel
theorem dX6_isBehindLetter_26 : decode cX6_isBehindLetter 26 = .ok (.iload_n 1, 1) := by decide +kernel
theorem dX6_isBehindLetter_27 : decode cX6_isBehindLetter 27 = .ok (.aload_n 0, 1) := by decide +kernel
theorem dX6_isBehindLetter_28 : decode cX6_isBehindLetter 28 = .ok (.getfield 85, 3) := by decide +kernel
theorem dX6_isBehindLetter_31 : decode cX6_isBehindLetter 31 = .ok (.aload_n 0, 1) := by decide +kernel
theorem dX6_isBehindLetter_32 : decode cX6_isBehindLetter 32 = .ok (.invokevirtual 88, 3) := by decide +kernel
theorem dX6_isBehindLetter_35 : decode cX6_isBehindLetter 35 = .ok (.if_icmp .ne 8, 3) := by decide +kernel
theorem dX6_isBehindLetter_38 : decode cX6_isBehindLetter 38 = .ok (.bipush 59, 2) := by decide +kernel
theorem dX6_isBehindLetter_40 : decode cX6_isBehindLetter 40 = .ok (.goto 5, 3) := by decide +kernel
theorem dX6_isBehindLetter_43 : decode cX6_isBehindLetter 43 = .ok (.bipush 44, 2) := by decide +kernel
theorem dX6_isBehindLetter_45 : decode cX6_isBehindLetter 45 = .ok (.if_icmp .ne 7, 3) := by decide +kernel
theorem dX6_isBehindLetter_48 : decode cX6_isBehindLetter 48 = .ok (.iconst 1, 1) := by decide +kernel
theorem dX6_isBehindLetter_49 : decode cX6_isBehindLetter 49 = .ok (.goto 4, 3) := by decide +kernel
theorem dX6_isBehindLetter_52 : decode cX6_isBehindLetter 52 = .ok (.iconst 0, 1) := by decide +kernel
theorem dX6_isBehindLetter_53 : decode cX6_isBehindLetter 53 = .ok (.ireturn, 1) := by decide +kernel
theorem dX6_isGood_0 : decode cX6_isGood 0 = .ok (.aload_n 0, 1) := by decide +kernel
theorem dX6_isGood_1 : decode cX6_isGood 1 = .ok (.getfield 7, 3) := by decide +kernel
theorem dX6_isGood_4 : decode cX6_isGood 4 = .ok (.iload_n 1, 1) := by decide +kernel
theorem dX6_isGood_5 : decode cX6_isGood 5 = .ok (.iaload, 1) := by decide +kernel
theorem dX6_isGood_6 : decode cX6_isGood 6 = .ok (.istore_n 2, 1) := by decide +kernel
theorem dX6_isGood_7 : decode cX6_isGood 7 = .ok (.iload_n 1, 1) := by decide +kernel
theorem dX6_isGood_8 : decode cX6_isGood 8 = .ok (.iconst 2, 1) := by decide +kernel
theorem dX6_isGood_9 : decode cX6_isGood 9 = .ok (.if_icmp .ge 15, 3) := by decide +kernel
theorem dX6_isGood_12 : decode cX6_isGood 12 = .ok (.iload_n 2, 1) := by decide +kernel
theorem dX6_isGood_13 : decode cX6_isGood 13 = .ok (.i2l, 1) := by decide +kernel
theorem dX6_isGood_14 : decode cX6_isGood 14 = .ok (.ldc2_w 119, 3) := by decide +kernel
theorem dX6_isGood_17 : decode cX6_isGood 17 = .ok (.ldc2_w 121, 3) := by decide +kernel
theorem dX6_isGood_20 : decode cX6_isGood 20 = .ok (.invokestatic 78, 3) := by decide +kernel
theorem dX6_isGood_23 : decode cX6_isGood 23 = .ok (.ireturn, 1) := by decide +kernel
theorem dX6_isGood_24 : decode cX6_isGood 24 = .ok (.iload_n 1, 1) := by decide +kernel
theorem dX6_isGood_25 : decode cX6_isGood 25 = .ok (.iconst 2, 1) := by decide +kernel
theorem dX6_isGood_26 : decode cX6_isGood 26 = .ok (.if_icmp .ne 25, 3) := by decide +kernel
theorem dX6_isGood_29 : decode cX6_isGood 29 = .ok (.aload_n 0, 1) := by decide +kernel
theorem dX6_isGood_30 : decode cX6_isGood 30 = .ok (.iconst 0, 1) := by decide +kernel
theorem dX6_isGood_31 : decode cX6_isGood 31 = .ok (.putfield 85, 3) := by decide +kernel
theorem dX6_isGood_34 : decode cX6_isGood 34 = .ok (.aload_n 0, 1) := by decide +kernel
theorem dX6_isGood_35 : decode cX6_isGood 35 = .ok (.iconst 0, 1) := by decide +kernel
theorem dX6_isGood_36 : decode cX6_isGood 36 = .ok (.putfield 99, 3) := by decide +kernel
theorem dX6_isGood_39 : decode cX6_isGood 39 = .ok (.iload_n 2, 1) := by decide +kernel
theorem dX6_isGood_40 : decode cX6_isGood 40 = .ok (.bipush 59, 2) := by decide +kernel
theorem dX6_isGood_42 : decode cX6_isGood 42 = .ok (.if_icmp .ne 7, 3) := by decide +kernel
theorem dX6_isGood_45 : decode cX6_isGood 45 = .ok (.iconst 1, 1) := by decide +kernel
theorem dX6_isGood_46 : decode cX6_isGood 46 = .ok (.goto 4, 3) := by decide +kernel
theorem dX6_isGood_49 : decode cX6_isGood 49 = .ok (.iconst 0, 1) := by decide +kernel
theorem dX6_isGood_50 : decode cX6_isGood 50 = .ok (.ireturn, 1) := by decide +kernel
theorem dX6_isGood_51 : decode cX6_isGood 51 = .ok (.aload_n 0, 1) := by decide +kernel
theorem dX6_isGood_52 : decode cX6_isGood 52 = .ok (.getfield 99, 3) := by decide +kernel
theorem dX6_isGood_55 : decode cX6_isGood 55 = .ok (.tableswitch 43 0 2 #[25, 31, 37], 25) := by decide +kernel
theorem dX6_isGood_80 : decode cX6_isGood 80 = .ok (.aload_n 0, 1) := by decide +kernel
theorem dX6_isGood_81 : decode cX6_isGood 81 = .ok (.iload_n 2, 1) := by decide +kernel
theorem dX6_isGood_82 : decode cX6_isGood 82 = .ok (.invokevirtual 123, 3) := by decide +kernel
theorem dX6_isGood_85 : decode cX6_isGood 85 = .ok (.ireturn, 1) := by decide +kernel
theorem dX6_isGood_86 : decode cX6_isGood 86 = .ok (.aload_n 0, 1) := by decide +kernel
theorem dX6_isGood_87 : decode cX6_isGood 87 = .ok (.iload_n 2, 1) := by decide +kernel
theorem dX6_isGood_88 : decode cX6_isGood 88 = .ok (.invokevirtual 126, 3) := by decide +kernel
theorem dX6_isGood_91 : decode cX6_isGood 91 = .ok (.ireturn, 1) := by decide +kernel
theorem dX6_isGood_92 : decode cX6_isGood 92 = .ok (.aload_n 0, 1) := by decide +kernel
theorem dX6_isGood_93 : decode cX6_isGood 93 = .ok (.iload_n 2, 1) := by decide +kernel
theorem dX6_isGood_94 : decode cX6_isGood 94 = .ok (.invokevirtual 129, 3) := by decide +kernel
theorem dX6_isGood_97 : decode cX6_isGood 97 = .ok (.ireturn, 1) := by decide +kernel
theorem dX6_isGood_98 : decode cX6_isGood 98 = .ok (.aload_n 0, 1) := by decide +kernel
theorem dX6_isGood_99 : decode cX6_isGood 99 = .ok (.iload_n 2, 1) := by decide +kernel
theorem dX6_isGood_100 : decode cX6_isGood 100 = .ok (.invokevirtual 132, 3) := by decide +kernel
theorem dX6_isGood_103 : decode cX6_isGood 103 = .ok (.ireturn, 1) := by decide +kernel
theorem dX6_faultOf_0 : decode cX6_faultOf 0 = .ok (.aload_n 0, 1) := by decide +kernel
theorem dX6_faultOf_1 : decode cX6_faultOf 1 = .ok (.iconst 0, 1) := by decide +kernel
theorem dX6_faultOf_2 : decode cX6_faultOf 2 = .ok (.putfield 85, 3) := by decide +kernel
theorem dX6_faultOf_5 : decode cX6_faultOf 5 = .ok (.aload_n 0, 1) := by decide +kernel
theorem dX6_faultOf_6 : decode cX6_faultOf 6 = .ok (.iconst 0, 1) := by decide +kernel
theorem dX6_faultOf_7 : decode cX6_faultOf 7 = .ok (.putfield 99, 3) := by decide +kernel
theorem dX6_faultOf_10 : decode cX6_faultOf 10 = .ok (.iconst 0, 1) := by decide +kernel
theorem dX6_faultOf_11 : decode cX6_faultOf 11 = .ok (.istore_n 1, 1) := by decide +kernel
theorem dX6_faultOf_12 : decode cX6_faultOf 12 = .ok (.iload_n 1, 1) := by decide +kernel
theorem dX6_faultOf_13 : decode cX6_faultOf 13 = .ok (.aload_n 0, 1) := by decide +kernel
theorem dX6_faultOf_14 : decode cX6_faultOf 14 = .ok (.getfield 82, 3) := by decide +kernel
theorem dX6_faultOf_17 : decode cX6_faultOf 17 = .ok (.if_icmp .ge 17, 3) := by decide +kernel
theorem dX6_faultOf_20 : decode cX6_faultOf 20 = .ok (.aload_n 0, 1) := by decide +kernel
theorem dX6_faultOf_21 : decode cX6_faultOf 21 = .ok (.iload_n 1, 1) := by decide +kernel
theorem dX6_faultOf_22 : decode cX6_faultOf 22 = .ok (.invokevirtual 135, 3) := by decide +kernel
theorem dX6_faultOf_25 : decode cX6_faultOf 25 = .ok (.ifCond .eq 9, 3) := by decide +kernel
theorem dX6_faultOf_28 : decode cX6_faultOf 28 = .ok (.iinc 1 1, 3) := by decide +kernel
theorem dX6_faultOf_31 : decode cX6_faultOf 31 = .ok (.goto (-19), 3) := by decide +kernel
theorem dX6_faultOf_34 : decode cX6_faultOf 34 = .ok (.iload_n 1, 1) := by decide +kernel
theorem dX6_faultOf_35 : decode cX6_faultOf 35 = .ok (.ireturn, 1) := by decide +kernel
theorem dX6_fault_0 : decode cX6_fault 0 = .ok (.aload_n 0, 1) := by decide +kernel
theorem dX6_fault_1 : decode cX6_fault 1 = .ok (.invokevirtual 138, 3) := by decide +kernel
theorem dX6_fault_4 : decode cX6_fault 4 = .ok (.ireturn, 1) := by decide +kernel
theorem dX6_board_0 : decode cX6_board 0 = .ok (.aload_n 0, 1) := by decide +kernel
theorem dX6_board_1 : decode cX6_board 1 = .ok (.getfield 82, 3) := by decide +kernel
theorem dX6_board_4 : decode cX6_board 4 = .ok (.iconst 3, 1) := by decide +kernel
theorem dX6_board_5 : decode cX6_board 5 = .ok (.if_icmp .lt 35, 3) := by decide +kernel
theorem dX6_board_8 : decode cX6_board 8 = .ok (.aload_n 0, 1) := by decide +kernel
theorem dX6_board_9 : decode cX6_board 9 = .ok (.invokevirtual 138, 3) := by decide +kernel
theorem dX6_board_12 : decode cX6_board 12 = .ok (.aload_n 0, 1) := by decide +kernel
theorem dX6_board_13 : decode cX6_board 13 = .ok (.getfield 82, 3) := by decide +kernel
theorem dX6_board_16 : decode cX6_board 16 = .ok (.if_icmp .lt 24, 3) := by decide +kernel
theorem dX6_board_19 : decode cX6_board 19 = .ok (.aload_n 0, 1) := by decide +kernel
theorem dX6_board_20 : decode cX6_board 20 = .ok (.getfield 99, 3) := by decide +kernel
theorem dX6_board_23 : decode cX6_board 23 = .ok (.iconst 3, 1) := by decide +kernel
theorem dX6_board_24 : decode cX6_board 24 = .ok (.if_icmp .ne 16, 3) := by decide +kernel
theorem dX6_board_27 : decode cX6_board 27 = .ok (.aload_n 0, 1) := by decide +kernel
theorem dX6_board_28 : decode cX6_board 28 = .ok (.getfield 85, 3) := by decide +kernel
theorem dX6_board_31 : decode cX6_board 31 = .ok (.aload_n 0, 1) := by decide +kernel
theorem dX6_board_32 : decode cX6_board 32 = .ok (.invokevirtual 116, 3) := by decide +kernel
theorem dX6_board_35 : decode cX6_board 35 = .ok (.iconst 1, 1) := by decide +kernel
theorem dX6_board_36 : decode cX6_board 36 = .ok (.isub, 1) := by decide +kernel
theorem dX6_board_37 : decode cX6_board 37 = .ok (.if_icmp .eq 6, 3) := by decide +kernel
theorem dX6_board_40 : decode cX6_board 40 = .ok (.bipush (-103), 2) := by decide +kernel
theorem dX6_board_42 : decode cX6_board 42 = .ok (.ireturn, 1) := by decide +kernel
theorem dX6_board_43 : decode cX6_board 43 = .ok (.aload_n 0, 1) := by decide +kernel
theorem dX6_board_44 : decode cX6_board 44 = .ok (.aload_n 0, 1) := by decide +kernel
theorem dX6_board_45 : decode cX6_board 45 = .ok (.getfield 7, 3) := by decide +kernel
theorem dX6_board_48 : decode cX6_board 48 = .ok (.iconst 0, 1) := by decide +kernel
theorem dX6_board_49 : decode cX6_board 49 = .ok (.iaload, 1) := by decide +kernel
theorem dX6_board_50 : decode cX6_board 50 = .ok (.bipush 48, 2) := by decide +kernel
theorem dX6_board_52 : decode cX6_board 52 = .ok (.isub, 1) := by decide +kernel
theorem dX6_board_53 : decode cX6_board 53 = .ok (.putfield 141, 3) := by decide +kernel
theorem dX6_board_56 : decode cX6_board 56 = .ok (.aload_n 0, 1) := by decide +kernel
theorem dX6_board_57 : decode cX6_board 57 = .ok (.aload_n 0, 1) := by decide +kernel
theorem dX6_board_58 : decode cX6_board 58 = .ok (.getfield 7, 3) := by decide +kernel
theorem dX6_board_61 : decode cX6_board 61 = .ok (.iconst 1, 1) := by decide +kernel
theorem dX6_board_62 : decode cX6_board 62 = .ok (.iaload, 1) := by decide +kernel
theorem dX6_board_63 : decode cX6_board 63 = .ok (.bipush 48, 2) := by decide +kernel
theorem dX6_board_65 : decode cX6_board 65 = .ok (.isub, 1) := by decide +kernel
theorem dX6_board_66 : decode cX6_board 66 = .ok (.putfield 144, 3) := by decide +kernel
theorem dX6_board_69 : decode cX6_board 69 = .ok (.aload_n 0, 1) := by decide +kernel
theorem dX6_board_70 : decode cX6_board 70 = .ok (.getfield 13, 3) := by decide +kernel
theorem dX6_board_73 : decode cX6_board 73 = .ok (.aload_n 0, 1) := by decide +kernel
theorem dX6_board_74 : decode cX6_board 74 = .ok (.getfield 22, 3) := by decide +kernel
theorem dX6_board_77 : decode cX6_board 77 = .ok (.invokestatic 147, 3) := by decide +kernel
theorem dX6_board_80 : decode cX6_board 80 = .ok (.aload_n 0, 1) := by decide +kernel
theorem dX6_board_81 : decode cX6_board 81 = .ok (.getfield 16, 3) := by decide +kernel
theorem dX6_board_84 : decode cX6_board 84 = .ok (.aload_n 0, 1) := by decide +kernel
theorem dX6_board_85 : decode cX6_board 85 = .ok (.getfield 25, 3) := by decide +kernel
theorem dX6_board_88 : decode cX6_board 88 = .ok (.invokestatic 147, 3) := by decide +kernel
theorem dX6_board_91 : decode cX6_board 91 = .ok (.aload_n 0, 1) := by decide +kernel
theorem dX6_board_92 : decode cX6_board 92 = .ok (.getfield 19, 3) := by decide +kernel
theorem dX6_board_95 : decode cX6_board 95 = .ok (.aload_n 0, 1) := by decide +kernel
theorem dX6_board_96 : decode cX6_board 96 = .ok (.getfield 28, 3) := by decide +kernel
theorem dX6_board_99 : decode cX6_board 99 = .ok (.invokestatic 147, 3) := by decide +kernel
theorem dX6_board_102 : decode cX6_board 102 = .ok (.iconst 0, 1) := by decide +kernel
theorem dX6_board_103 : decode cX6_board 103 = .ok (.istore_n 1, 1) := by decide +kernel
theorem dX6_board_104 : decode cX6_board 104 = .ok (.iload_n 1, 1) := by decide +kernel
theorem dX6_board_105 : decode cX6_board 105 = .ok (.bipush 16, 2) := by decide +kernel
theorem dX6_board_107 : decode cX6_board 107 = .ok (.if_icmp .ge 16, 3) := by decide +kernel
theorem dX6_board_110 : decode cX6_board 110 = .ok (.aload_n 0, 1) := by decide +kernel
theorem dX6_board_111 : decode cX6_board 111 = .ok (.getfield 31, 3) := by decide +kernel
theorem dX6_board_114 : decode cX6_board 114 = .ok (.iload_n 1, 1) := by decide +kernel
theorem dX6_board_115 : decode cX6_board 115 = .ok (.iconst 0, 1) := by decide +kernel
theorem dX6_board_116 : decode cX6_board 116 = .ok (.iastore, 1) := by decide +kernel
theorem dX6_board_117 : decode cX6_board 117 = .ok (.iinc 1 1, 3) := by decide +kernel
theorem dX6_board_120 : decode cX6_board 120 = .ok (.goto (-16), 3) := by decide +kernel
theorem dX6_board_123 : decode cX6_board 123 = .ok (.aload_n 0, 1) := by decide +kernel
theorem dX6_board_124 : decode cX6_board 124 = .ok (.iconst 0, 1) := by decide +kernel
theorem dX6_board_125 : decode cX6_board 125 = .ok (.putfield 151, 3) := by decide +kernel
theorem dX6_board_128 : decode cX6_board 128 = .ok (.aload_n 0, 1) := by decide +kernel
theorem dX6_board_129 : decode cX6_board 129 = .ok (.dup, 1) := by decide +kernel
theorem dX6_board_130 : decode cX6_board 130 = .ok (.getfield 154, 3) := by decide +kernel
theorem dX6_board_133 : decode cX6_board 133 = .ok (.iconst 1, 1) := by decide +kernel
theorem dX6_board_134 : decode cX6_board 134 = .ok (.iadd, 1) := by decide +kernel
theorem dX6_board_135 : decode cX6_board 135 = .ok (.putfield 154, 3) := by decide +kernel
theorem dX6_board_138 : decode cX6_board 138 = .ok (.aload_n 0, 1) := by decide +kernel
theorem dX6_board_139 : decode cX6_board 139 = .ok (.iconst 0, 1) := by decide +kernel
theorem dX6_board_140 : decode cX6_board 140 = .ok (.putfield 82, 3) := by decide +kernel
theorem dX6_board_143 : decode cX6_board 143 = .ok (.aload_n 0, 1) := by decide +kernel
theorem dX6_board_144 : decode cX6_board 144 = .ok (.iconst 1, 1) := by decide +kernel
theorem dX6_board_145 : decode cX6_board 145 = .ok (.putfield 72, 3) := by decide +kernel
theorem dX6_board_148 : decode cX6_board 148 = .ok (.aload_n 0, 1) := by decide +kernel
theorem dX6_board_149 : decode cX6_board 149 = .ok (.getfield 141, 3) := by decide +kernel
theorem dX6_board_152 : decode cX6_board 152 = .ok (.aload_n 0, 1) := by decide +kernel
theorem dX6_board_153 : decode cX6_board 153 = .ok (.getfield 144, 3) := by decide +kernel
theorem dX6_board_156 : decode cX6_board 156 = .ok (.imul, 1) := by decide +kernel
theorem dX6_board_157 : decode cX6_board 157 = .ok (.ireturn, 1) := by decide +kernel
theorem dX6_lacks_0 : decode cX6_lacks 0 = .ok (.aload_n 0, 1) := by decide +kernel
theorem dX6_lacks_1 : decode cX6_lacks 1 = .ok (.getfield 141, 3) := by decide +kernel
theorem dX6_lacks_4 : decode cX6_lacks 4 = .ok (.ifCond .ne 7, 3) := by decide +kernel
theorem dX6_lacks_7 : decode cX6_lacks 7 = .ok (.iconst 1, 1) := by decide +kernel
theorem dX6_lacks_8 : decode cX6_lacks 8 = .ok (.goto 4, 3) := by decide +kernel
theorem dX6_lacks_11 : decode cX6_lacks 11 = .ok (.iconst 0, 1) := by decide +kernel
theorem dX6_lacks_12 : decode cX6_lacks 12 = .ok (.ireturn, 1) := by decide +kernel
theorem dX6_isLine_0 : decode cX6_isLine 0 = .ok (.iload_n 1, 1) := by decide +kernel
theorem dX6_isLine_1 : decode cX6_isLine 1 = .ok (.i2l, 1) := by decide +kernel
theorem dX6_isLine_2 : decode cX6_isLine 2 = .ok (.lconst 0, 1) := by decide +kernel
theorem dX6_isLine_3 : decode cX6_isLine 3 = .ok (.aload_n 0, 1) := by decide +kernel
theorem dX6_isLine_4 : decode cX6_isLine 4 = .ok (.getfield 141, 3) := by decide +kernel
theorem dX6_isLine_7 : decode cX6_isLine 7 = .ok (.aload_n 0, 1) := by decide +kernel
theorem dX6_isLine_8 : decode cX6_isLine 8 = .ok (.getfield 144, 3) := by decide +kernel
theorem dX6_isLine_11 : decode cX6_isLine 11 = .ok (.iadd, 1) := by decide +kernel
theorem dX6_isLine_12 : decode cX6_isLine 12 = .ok (.iconst 1, 1) := by decide +kernel
theorem dX6_isLine_13 : decode cX6_isLine 13 = .ok (.isub, 1) := by decide +kernel
theorem dX6_isLine_14 : decode cX6_isLine 14 = .ok (.i2l, 1) := by decide +kernel
theorem dX6_isLine_15 : decode cX6_isLine 15 = .ok (.invokestatic 78, 3) := by decide +kernel
theorem dX6_isLine_18 : decode cX6_isLine 18 = .ok (.ireturn, 1) := by decide +kernel
theorem dX6_isCell_0 : decode cX6_isCell 0 = .ok (.iload_n 1, 1) := by decide +kernel
theorem dX6_isCell_1 : decode cX6_isCell 1 = .ok (.i2l, 1) := by decide +kernel
theorem dX6_isCell_2 : decode cX6_isCell 2 = .ok (.lconst 0, 1) := by decide +kernel
theorem dX6_isCell_3 : decode cX6_isCell 3 = .ok (.aload_n 0, 1) := by decide +kernel
theorem dX6_isCell_4 : decode cX6_isCell 4 = .ok (.getfield 141, 3) := by decide +kernel
theorem dX6_isCell_7 : decode cX6_isCell 7 = .ok (.aload_n 0, 1) := by decide +kernel
theorem dX6_isCell_8 : decode cX6_isCell 8 = .ok (.getfield 144, 3) := by decide +kernel
theorem dX6_isCell_11 : decode cX6_isCell 11 = .ok (.imul, 1) := by decide +kernel
theorem dX6_isCell_12 : decode cX6_isCell 12 = .ok (.iconst 1, 1) := by decide +kernel
theorem dX6_isCell_13 : decode cX6_isCell 13 = .ok (.isub, 1) := by decide +kernel
theorem dX6_isCell_14 : decode cX6_isCell 14 = .ok (.i2l, 1) := by decide +kernel
theorem dX6_isCell_15 : decode cX6_isCell 15 = .ok (.invokestatic 78, 3) := by decide +kernel
theorem dX6_isCell_18 : decode cX6_isCell 18 = .ok (.ireturn, 1) := by decide +kernel
theorem dX6_cellsOf_0 : decode cX6_cellsOf 0 = .ok (.iload_n 1, 1) := by decide +kernel
theorem dX6_cellsOf_1 : decode cX6_cellsOf 1 = .ok (.aload_n 0, 1) := by decide +kernel
theorem dX6_cellsOf_2 : decode cX6_cellsOf 2 = .ok (.getfield 141, 3) := by decide +kernel
theorem dX6_cellsOf_5 : decode cX6_cellsOf 5 = .ok (.if_icmp .ge 10, 3) := by decide +kernel
theorem dX6_cellsOf_8 : decode cX6_cellsOf 8 = .ok (.aload_n 0, 1) := by decide +kernel
theorem dX6_cellsOf_9 : decode cX6_cellsOf 9 = .ok (.getfield 144, 3) := by decide +kernel
theorem dX6_cellsOf_12 : decode cX6_cellsOf 12 = .ok (.goto 7, 3) := by decide +kernel
theorem dX6_cellsOf_15 : decode cX6_cellsOf 15 = .ok (.aload_n 0, 1) := by decide +kernel
theorem dX6_cellsOf_16 : decode cX6_cellsOf 16 = .ok (.getfield 141, 3) := by decide +kernel
theorem dX6_cellsOf_19 : decode cX6_cellsOf 19 = .ok (.ireturn, 1) := by decide +kernel
theorem dX6_layRuns_0 : decode cX6_layRuns 0 = .ok (.aload_n 0, 1) := by decide +kernel
theorem dX6_layRuns_1 : decode cX6_layRuns 1 = .ok (.iconst 0, 1) := by decide +kernel
theorem dX6_layRuns_2 : decode cX6_layRuns 2 = .ok (.putfield 157, 3) := by decide +kernel
theorem dX6_layRuns_5 : decode cX6_layRuns 5 = .ok (.aload_n 0, 1) := by decide +kernel
theorem dX6_layRuns_6 : decode cX6_layRuns 6 = .ok (.iconst 0, 1) := by decide +kernel
theorem dX6_layRuns_7 : decode cX6_layRuns 7 = .ok (.putfield 160, 3) := by decide +kernel
theorem dX6_layRuns_10 : decode cX6_layRuns 10 = .ok (.aload_n 0, 1) := by decide +kernel
theorem dX6_layRuns_11 : decode cX6_layRuns 11 = .ok (.iconst 0, 1) := by decide +kernel
theorem dX6_layRuns_12 : decode cX6_layRuns 12 = .ok (.putfield 163, 3) := by decide +kernel
theorem dX6_layRuns_15 : decode cX6_layRuns 15 = .ok (.aload_n 0, 1) := by decide +kernel
theorem dX6_layRuns_16 : decode cX6_layRuns 16 = .ok (.iconst 0, 1) := by decide +kernel
theorem dX6_layRuns_17 : decode cX6_layRuns 17 = .ok (.putfield 166, 3) := by decide +kernel
theorem dX6_layRuns_20 : decode cX6_layRuns 20 = .ok (.iconst 0, 1) := by decide +kernel
theorem dX6_layRuns_21 : decode cX6_layRuns 21 = .ok (.istore_n 2, 1) := by decide +kernel
theorem dX6_layRuns_22 : decode cX6_layRuns 22 = .ok (.iconst 0, 1) := by decide +kernel
theorem dX6_layRuns_23 : decode cX6_layRuns 23 = .ok (.istore_n 3, 1) := by decide +kernel
theorem dX6_layRuns_24 : decode cX6_layRuns 24 = .ok (.iload_n 3, 1) := by decide +kernel
theorem dX6_layRuns_25 : decode cX6_layRuns 25 = .ok (.iconst 5, 1) := by decide +kernel
theorem dX6_layRuns_26 : decode cX6_layRuns 26 = .ok (.if_icmp .ge 100, 3) := by decide +kernel
theorem dX6_layRuns_29 : decode cX6_layRuns 29 = .ok (.iload_n 1, 1) := by decide +kernel
theorem dX6_layRuns_30 : decode cX6_layRuns 30 = .ok (.iload_n 3, 1) := by decide +kernel
theorem dX6_layRuns_31 : decode cX6_layRuns 31 = .ok (.ishr, 1) := by decide +kernel
theorem dX6_layRuns_32 : decode cX6_layRuns 32 = .ok (.iconst 1, 1) := by decide +kernel
theorem dX6_layRuns_33 : decode cX6_layRuns 33 = .ok (.iand, 1) := by decide +kernel
theorem dX6_layRuns_34 : decode cX6_layRuns 34 = .ok (.iconst 1, 1) := by decide +kernel
theorem dX6_layRuns_35 : decode cX6_layRuns 35 = .ok (.if_icmp .ne 9, 3) := by decide +kernel
theorem dX6_layRuns_38 : decode cX6_layRuns 38 = .ok (.iinc 2 1, 3) := by decide +kernel
theorem dX6_layRuns_41 : decode cX6_layRuns 41 = .ok (.goto 79, 3) := by decide +kernel
theorem dX6_layRuns_44 : decode cX6_layRuns 44 = .ok (.iload_n 2, 1) := by decide +kernel
theorem dX6_layRuns_45 : decode cX6_layRuns 45 = .ok (.ifCond .le 73, 3) := by decide +kernel
theorem dX6_layRuns_48 : decode cX6_layRuns 48 = .ok (.aload_n 0, 1) := by decide +kernel
theorem dX6_layRuns_49 : decode cX6_layRuns 49 = .ok (.dup, 1) := by decide +kernel
theorem dX6_layRuns_50 : decode cX6_layRuns 50 = .ok (.getfield 157, 3) := by decide +kernel
theorem dX6_layRuns_53 : decode cX6_layRuns 53 = .ok (.iconst 1, 1) := by decide +kernel
theorem dX6_layRuns_54 : decode cX6_layRuns 54 = .ok (.iadd, 1) := by decide +kernel
theorem dX6_layRuns_55 : decode cX6_layRuns 55 = .ok (.putfield 157, 3) := by decide +kernel
theorem dX6_layRuns_58 : decode cX6_layRuns 58 = .ok (.aload_n 0, 1) := by decide +kernel
theorem dX6_layRuns_59 : decode cX6_layRuns 59 = .ok (.aload_n 0, 1) := by decide +kernel
theorem dX6_layRuns_60 : decode cX6_layRuns 60 = .ok (.getfield 157, 3) := by decide +kernel
theorem dX6_layRuns_63 : decode cX6_layRuns 63 = .ok (.iconst 1, 1) := by decide +kernel
theorem dX6_layRuns_64 : decode cX6_layRuns 64 = .ok (.if_icmp .ne 7, 3) := by decide +kernel
theorem dX6_layRuns_67 : decode cX6_layRuns 67 = .ok (.iload_n 2, 1) := by decide +kernel
theorem dX6_layRuns_68 : decode cX6_layRuns 68 = .ok (.goto 7, 3) := by decide +kernel
theorem dX6_layRuns_71 : decode cX6_layRuns 71 = .ok (.aload_n 0, 1) := by decide +kernel
theorem dX6_layRuns_72 : decode cX6_layRuns 72 = .ok (.getfield 163, 3) := by decide +kernel
theorem dX6_layRuns_75 : decode cX6_layRuns 75 = .ok (.putfield 163, 3) := by decide +kernel
theorem dX6_layRuns_78 : decode cX6_layRuns 78 = .ok (.aload_n 0, 1) := by decide +kernel
theorem dX6_layRuns_79 : decode cX6_layRuns 79 = .ok (.aload_n 0, 1) := by decide +kernel
theorem dX6_layRuns_80 : decode cX6_layRuns 80 = .ok (.getfield 157, 3) := by decide +kernel
theorem dX6_layRuns_83 : decode cX6_layRuns 83 = .ok (.iconst 2, 1) := by decide +kernel
theorem dX6_layRuns_84 : decode cX6_layRuns 84 = .ok (.if_icmp .ne 7, 3) := by decide +kernel
theorem dX6_layRuns_87 : decode cX6_layRuns 87 = .ok (.iload_n 2, 1) := by decide +kernel
theorem dX6_layRuns_88 : decode cX6_layRuns 88 = .ok (.goto 7, 3) := by decide +kernel
theorem dX6_layRuns_91 : decode cX6_layRuns 91 = .ok (.aload_n 0, 1) := by decide +kernel
theorem dX6_layRuns_92 : decode cX6_layRuns 92 = .ok (.getfield 166, 3) := by decide +kernel
theorem dX6_layRuns_95 : decode cX6_layRuns 95 = .ok (.putfield 166, 3) := by decide +kernel
theorem dX6_layRuns_98 : decode cX6_layRuns 98 = .ok (.aload_n 0, 1) := by decide +kernel
theorem dX6_layRuns_99 : decode cX6_layRuns 99 = .ok (.iload_n 2, 1) := by decide +kernel
theorem dX6_layRuns_100 : decode cX6_layRuns 100 = .ok (.aload_n 0, 1) := by decide +kernel
theorem dX6_layRuns_101 : decode cX6_layRuns 101 = .ok (.getfield 160, 3) := by decide +kernel
theorem dX6_layRuns_104 : decode cX6_layRuns 104 = .ok (.if_icmp .le 7, 3) := by decide +kernel
theorem dX6_layRuns_107 : decode cX6_layRuns 107 = .ok (.iload_n 2, 1) := by decide +kernel
theorem dX6_layRuns_108 : decode cX6_layRuns 108 = .ok (.goto 7, 3) := by decide +kernel
theorem dX6_layRuns_111 : decode cX6_layRuns 111 = .ok (.aload_n 0, 1) := by decide +kernel
theorem dX6_layRuns_112 : decode cX6_layRuns 112 = .ok (.getfield 160, 3) := by decide +kernel
theorem dX6_layRuns_115 : decode cX6_layRuns 115 = .ok (.putfield 160, 3) := by decide +kernel
theorem dX6_layRuns_118 : decode cX6_layRuns 118 = .ok (.iconst 0, 1) := by decide +kernel
theorem dX6_layRuns_119 : decode cX6_layRuns 119 = .ok (.istore_n 2, 1) := by decide +kernel
theorem dX6_layRuns_120 : decode cX6_layRuns 120 = .ok (.iinc 3 1, 3) := by decide +kernel
theorem dX6_layRuns_123 : decode cX6_layRuns 123 = .ok (.goto (-99), 3) := by decide +kernel
theorem dX6_layRuns_126 : decode cX6_layRuns 126 = .ok (.return_, 1) := by decide +kernel
theorem dX6_isKept_0 : decode cX6_isKept 0 = .ok (.aload_n 0, 1) := by decide +kernel
theorem dX6_isKept_1 : decode cX6_isKept 1 = .ok (.iload 4, 2) := by decide +kernel
theorem dX6_isKept_3 : decode cX6_isKept 3 = .ok (.invokevirtual 169, 3) := by decide +kernel
theorem dX6_isKept_6 : decode cX6_isKept 6 = .ok (.iload_n 1, 1) := by decide +kernel
theorem dX6_isKept_7 : decode cX6_isKept 7 = .ok (.tableswitch 125 1 4 #[29, 97, 111, 51], 29) := by decide +kernel
theorem dX6_isKept_36 : decode cX6_isKept 36 = .ok (.aload_n 0, 1) := by decide +kernel
theorem dX6_isKept_37 : decode cX6_isKept 37 = .ok (.getfield 163, 3) := by decide +kernel
theorem dX6_isKept_40 : decode cX6_isKept 40 = .ok (.iload_n 2, 1) := by decide +kernel
theorem dX6_isKept_41 : decode cX6_isKept 41 = .ok (.if_icmp .ne 15, 3) := by decide +kernel
theorem dX6_isKept_44 : decode cX6_isKept 44 = .ok (.aload_n 0, 1) := by decide +kernel
theorem dX6_isKept_45 : decode cX6_isKept 45 = .ok (.getfield 166, 3) := by decide +kernel
theorem dX6_isKept_48 : decode cX6_isKept 48 = .ok (.iload_n 3, 1) := by decide +kernel
theorem dX6_isKept_49 : decode cX6_isKept 49 = .ok (.if_icmp .ne 7, 3) := by decide +kernel
theorem dX6_isKept_52 : decode cX6_isKept 52 = .ok (.iconst 1, 1) := by decide +kernel
theorem dX6_isKept_53 : decode cX6_isKept 53 = .ok (.goto 4, 3) := by decide +kernel
theorem dX6_isKept_56 : decode cX6_isKept 56 = .ok (.iconst 0, 1) := by decide +kernel
theorem dX6_isKept_57 : decode cX6_isKept 57 = .ok (.ireturn, 1) := by decide +kernel
theorem dX6_isKept_58 : decode cX6_isKept 58 = .ok (.aload_n 0, 1) := by decide +kernel
theorem dX6_isKept_59 : decode cX6_isKept 59 = .ok (.getfield 163, 3) := by decide +kernel
theorem dX6_isKept_62 : decode cX6_isKept 62 = .ok (.iload_n 2, 1) := by decide +kernel
theorem dX6_isKept_63 : decode cX6_isKept 63 = .ok (.if_icmp .ne 11, 3) := by decide +kernel
theorem dX6_isKept_66 : decode cX6_isKept 66 = .ok (.aload_n 0, 1) := by decide +kernel
theorem dX6_isKept_67 : decode cX6_isKept 67 = .ok (.getfield 166, 3) := by decide +kernel
theorem dX6_isKept_70 : decode cX6_isKept 70 = .ok (.iload_n 3, 1) := by decide +kernel
theorem dX6_isKept_71 : decode cX6_isKept 71 = .ok (.if_icmp .eq 27, 3) := by decide +kernel
theorem dX6_isKept_74 : decode cX6_isKept 74 = .ok (.aload_n 0, 1) := by decide +kernel
theorem dX6_isKept_75 : decode cX6_isKept 75 = .ok (.getfield 157, 3) := by decide +kernel
theorem dX6_isKept_78 : decode cX6_isKept 78 = .ok (.iconst 2, 1) := by decide +kernel
theorem dX6_isKept_79 : decode cX6_isKept 79 = .ok (.if_icmp .ne 23, 3) := by decide +kernel
theorem dX6_isKept_82 : decode cX6_isKept 82 = .ok (.aload_n 0, 1) := by decide +kernel
theorem dX6_isKept_83 : decode cX6_isKept 83 = .ok (.getfield 163, 3) := by decide +kernel
theorem dX6_isKept_86 : decode cX6_isKept 86 = .ok (.iload_n 3, 1) := by decide +kernel
theorem dX6_isKept_87 : decode cX6_isKept 87 = .ok (.if_icmp .ne 15, 3) := by decide +kernel
theorem dX6_isKept_90 : decode cX6_isKept 90 = .ok (.aload_n 0, 1) := by decide +kernel
theorem dX6_isKept_91 : decode cX6_isKept 91 = .ok (.getfield 166, 3) := by decide +kernel
theorem dX6_isKept_94 : decode cX6_isKept 94 = .ok (.iload_n 2, 1) := by decide +kernel
theorem dX6_isKept_95 : decode cX6_isKept 95 = .ok (.if_icmp .ne 7, 3) := by decide +kernel
theorem dX6_isKept_98 : decode cX6_isKept 98 = .ok (.iconst 1, 1) := by decide +kernel
theorem dX6_isKept_99 : decode cX6_isKept 99 = .ok (.goto 4, 3) := by decide +kernel
theorem dX6_isKept_102 : decode cX6_isKept 102 = .ok (.iconst 0, 1) := by decide +kernel
theorem dX6_isKept_103 : decode cX6_isKept 103 = .ok (.ireturn, 1) := by decide +kernel
theorem dX6_isKept_104 : decode cX6_isKept 104 = .ok (.aload_n 0, 1) := by decide +kernel
theorem dX6_isKept_105 : decode cX6_isKept 105 = .ok (.getfield 157, 3) := by decide +kernel
theorem dX6_isKept_108 : decode cX6_isKept 108 = .ok (.iload_n 2, 1) := by decide +kernel
theorem dX6_isKept_109 : decode cX6_isKept 109 = .ok (.if_icmp .ne 7, 3) := by decide +kernel
theorem dX6_isKept_112 : decode cX6_isKept 112 = .ok (.iconst 1, 1) := by decide +kernel
theorem dX6_isKept_113 : decode cX6_isKept 113 = .ok (.goto 4, 3) := by decide +kernel
theorem dX6_isKept_116 : decode cX6_isKept 116 = .ok (.iconst 0, 1) := by decide +kernel
theorem dX6_isKept_117 : decode cX6_isKept 117 = .ok (.ireturn, 1) := by decide +kernel
theorem dX6_isKept_118 : decode cX6_isKept 118 = .ok (.aload_n 0, 1) := by decide +kernel
theorem dX6_isKept_119 : decode cX6_isKept 119 = .ok (.getfield 160, 3) := by decide +kernel
theorem dX6_isKept_122 : decode cX6_isKept 122 = .ok (.iload_n 2, 1) := by decide +kernel
theorem dX6_isKept_123 : decode cX6_isKept 123 = .ok (.if_icmp .ne 7, 3) := by decide +kernel
theorem dX6_isKept_126 : decode cX6_isKept 126 = .ok (.iconst 1, 1) := by decide +kernel
theorem dX6_isKept_127 : decode cX6_isKept 127 = .ok (.goto 4, 3) := by decide +kernel
theorem dX6_isKept_130 : decode cX6_isKept 130 = .ok (.iconst 0, 1) := by decide +kernel
theorem dX6_isKept_131 : decode cX6_isKept 131 = .ok (.ireturn, 1) := by decide +kernel
theorem dX6_isKept_132 : decode cX6_isKept 132 = .ok (.iload 4, 2) := by decide +kernel
theorem dX6_isKept_134 : decode cX6_isKept 134 = .ok (.invokestatic 173, 3) := by decide +kernel
theorem dX6_isKept_137 : decode cX6_isKept 137 = .ok (.iload_n 2, 1) := by decide +kernel
theorem dX6_isKept_138 : decode cX6_isKept 138 = .ok (.if_icmp .ne 7, 3) := by decide +kernel
theorem dX6_isKept_141 : decode cX6_isKept 141 = .ok (.iconst 1, 1) := by decide +kernel
theorem dX6_isKept_142 : decode cX6_isKept 142 = .ok (.goto 4, 3) := by decide +kernel
theorem dX6_isKept_145 : decode cX6_isKept 145 = .ok (.iconst 0, 1) := by decide +kernel
theorem dX6_isKept_146 : decode cX6_isKept 146 = .ok (.ireturn, 1) := by decide +kernel
theorem dX6_keepsOf_0 : decode cX6_keepsOf 0 = .ok (.aload_n 0, 1) := by decide +kernel
theorem dX6_keepsOf_1 : decode cX6_keepsOf 1 = .ok (.aload_n 0, 1) := by decide +kernel
theorem dX6_keepsOf_2 : decode cX6_keepsOf 2 = .ok (.getfield 22, 3) := by decide +kernel
theorem dX6_keepsOf_5 : decode cX6_keepsOf 5 = .ok (.iload_n 1, 1) := by decide +kernel
theorem dX6_keepsOf_6 : decode cX6_keepsOf 6 = .ok (.iaload, 1) := by decide +kernel
theorem dX6_keepsOf_7 : decode cX6_keepsOf 7 = .ok (.aload_n 0, 1) := by decide +kernel
theorem dX6_keepsOf_8 : decode cX6_keepsOf 8 = .ok (.getfield 25, 3) := by decide +kernel
theorem dX6_keepsOf_11 : decode cX6_keepsOf 11 = .ok (.iload_n 1, 1) := by decide +kernel
theorem dX6_keepsOf_12 : decode cX6_keepsOf 12 = .ok (.iaload, 1) := by decide +kernel
theorem dX6_keepsOf_13 : decode cX6_keepsOf 13 = .ok (.aload_n 0, 1) := by decide +kernel
theorem dX6_keepsOf_14 : decode cX6_keepsOf 14 = .ok (.getfield 28, 3) := by decide +kernel
theorem dX6_keepsOf_17 : decode cX6_keepsOf 17 = .ok (.iload_n 1, 1) := by decide +kernel
theorem dX6_keepsOf_18 : decode cX6_keepsOf 18 = .ok (.iaload, 1) := by decide +kernel
theorem dX6_keepsOf_19 : decode cX6_keepsOf 19 = .ok (.iload_n 2, 1) := by decide +kernel
theorem dX6_keepsOf_20 : decode cX6_keepsOf 20 = .ok (.invokevirtual 176, 3) := by decide +kernel
theorem dX6_keepsOf_23 : decode cX6_keepsOf 23 = .ok (.ifCond .eq 7, 3) := by decide +kernel
theorem dX6_keepsOf_26 : decode cX6_keepsOf 26 = .ok (.iconst 1, 1) := by decide +kernel
theorem dX6_keepsOf_27 : decode cX6_keepsOf 27 = .ok (.goto 4, 3) := by decide +kernel
theorem dX6_keepsOf_30 : decode cX6_keepsOf 30 = .ok (.iconst 0, 1) := by decide +kernel
theorem dX6_keepsOf_31 : decode cX6_keepsOf 31 = .ok (.ireturn, 1) := by decide +kernel
theorem dX6_keeps_0 : decode cX6_keeps 0 = .ok (.aload_n 0, 1) := by decide +kernel
theorem dX6_keeps_1 : decode cX6_keeps 1 = .ok (.iload_n 1, 1) := by decide +kernel
theorem dX6_keeps_2 : decode cX6_keeps 2 = .ok (.invokevirtual 180, 3) := by decide +kernel
theorem dX6_keeps_5 : decode cX6_keeps 5 = .ok (.ifCond .ne 6, 3) := by decide +kernel
theorem dX6_keeps_8 : decode cX6_keeps 8 = .ok (.bipush (-101), 2) := by decide +kernel
theorem dX6_keeps_10 : decode cX6_keeps 10 = .ok (.ireturn, 1) := by decide +kernel
theorem dX6_keeps_11 : decode cX6_keeps 11 = .ok (.iload_n 2, 1) := by decide +kernel
theorem dX6_keeps_12 : decode cX6_keeps 12 = .ok (.i2l, 1) := by decide +kernel
theorem dX6_keeps_13 : decode cX6_keeps 13 = .ok (.lconst 0, 1) := by decide +kernel
theorem dX6_keeps_14 : decode cX6_keeps 14 = .ok (.iconst 1, 1) := by decide +kernel
theorem dX6_keeps_15 : decode cX6_keeps 15 = .ok (.aload_n 0, 1) := by decide +kernel
theorem dX6_keeps_16 : decode cX6_keeps 16 = .ok (.iload_n 1, 1) := by decide +kernel
theorem dX6_keeps_17 : decode cX6_keeps 17 = .ok (.invokevirtual 183, 3) := by decide +kernel
theorem dX6_keeps_20 : decode cX6_keeps 20 = .ok (.ishl, 1) := by decide +kernel
theorem dX6_keeps_21 : decode cX6_keeps 21 = .ok (.iconst 1, 1) := by decide +kernel
theorem dX6_keeps_22 : decode cX6_keeps 22 = .ok (.isub, 1) := by decide +kernel
theorem dX6_keeps_23 : decode cX6_keeps 23 = .ok (.i2l, 1) := by decide +kernel
theorem dX6_keeps_24 : decode cX6_keeps 24 = .ok (.invokestatic 78, 3) := by decide +kernel
theorem dX6_keeps_27 : decode cX6_keeps 27 = .ok (.ifCond .eq 12, 3) := by decide +kernel
theorem dX6_keeps_30 : decode cX6_keeps 30 = .ok (.aload_n 0, 1) := by decide +kernel
theorem dX6_keeps_31 : decode cX6_keeps 31 = .ok (.iload_n 1, 1) := by decide +kernel
theorem dX6_keeps_32 : decode cX6_keeps 32 = .ok (.iload_n 2, 1) := by decide +kernel
theorem dX6_keeps_33 : decode cX6_keeps 33 = .ok (.invokevirtual 186, 3) := by decide +kernel
theorem dX6_keeps_36 : decode cX6_keeps 36 = .ok (.goto 5, 3) := by decide +kernel
theorem dX6_keeps_39 : decode cX6_keeps 39 = .ok (.bipush (-102), 2) := by decide +kernel
theorem dX6_keeps_41 : decode cX6_keeps 41 = .ok (.ireturn, 1) := by decide +kernel
theorem dX6_layTable_0 : decode cX6_layTable 0 = .ok (.iconst 0, 1) := by decide +kernel
theorem dX6_layTable_1 : decode cX6_layTable 1 = .ok (.istore_n 1, 1) := by decide +kernel
theorem dX6_layTable_2 : decode cX6_layTable 2 = .ok (.iload_n 1, 1) := by decide +kernel
theorem dX6_layTable_3 : decode cX6_layTable 3 = .ok (.sipush 128, 3) := by decide +kernel
theorem dX6_layTable_6 : decode cX6_layTable 6 = .ok (.if_icmp .ge 54, 3) := by decide +kernel
theorem dX6_layTable_9 : decode cX6_layTable 9 = .ok (.iload_n 1, 1) := by decide +kernel
theorem dX6_layTable_10 : decode cX6_layTable 10 = .ok (.bipush 16, 2) := by decide +kernel
theorem dX6_layTable_12 : decode cX6_layTable 12 = .ok (.idiv, 1) := by decide +kernel
theorem dX6_layTable_13 : decode cX6_layTable 13 = .ok (.istore_n 2, 1) := by decide +kernel
theorem dX6_layTable_14 : decode cX6_layTable 14 = .ok (.aload_n 0, 1) := by decide +kernel
theorem dX6_layTable_15 : decode cX6_layTable 15 = .ok (.getfield 41, 3) := by decide +kernel
theorem dX6_layTable_18 : decode cX6_layTable 18 = .ok (.iload_n 1, 1) := by decide +kernel
theorem dX6_layTable_19 : decode cX6_layTable 19 = .ok (.iload_n 2, 1) := by decide +kernel
theorem dX6_layTable_20 : decode cX6_layTable 20 = .ok (.aload_n 0, 1) := by decide +kernel
theorem dX6_layTable_21 : decode cX6_layTable 21 = .ok (.getfield 189, 3) := by decide +kernel
theorem dX6_layTable_24 : decode cX6_layTable 24 = .ok (.if_icmp .eq 24, 3) := by decide +kernel
theorem dX6_layTable_27 : decode cX6_layTable 27 = .ok (.aload_n 0, 1) := by decide +kernel
theorem dX6_layTable_28 : decode cX6_layTable 28 = .ok (.iload_n 2, 1) := by decide +kernel
theorem dX6_layTable_29 : decode cX6_layTable 29 = .ok (.invokevirtual 180, 3) := by decide +kernel
theorem dX6_layTable_32 : decode cX6_layTable 32 = .ok (.ifCond .eq 20, 3) := by decide +kernel
theorem dX6_layTable_35 : decode cX6_layTable 35 = .ok (.aload_n 0, 1) := by decide +kernel
theorem dX6_layTable_36 : decode cX6_layTable 36 = .ok (.iload_n 2, 1) := by decide +kernel
theorem dX6_layTable_37 : decode cX6_layTable 37 = .ok (.iload_n 1, 1) := by decide +kernel
theorem dX6_layTable_38 : decode cX6_layTable 38 = .ok (.bipush 16, 2) := by decide +kernel
theorem dX6_layTable_40 : decode cX6_layTable 40 = .ok (.irem, 1) := by decide +kernel
theorem dX6_layTable_41 : decode cX6_layTable 41 = .ok (.invokevirtual 186, 3) := by decide +kernel
theorem dX6_layTable_44 : decode cX6_layTable 44 = .ok (.iconst 1, 1) := by decide +kernel
theorem dX6_layTable_45 : decode cX6_layTable 45 = .ok (.if_icmp .ne 7, 3) := by decide +kernel
theorem dX6_layTable_48 : decode cX6_layTable 48 = .ok (.iconst 1, 1) := by decide +kernel
theorem dX6_layTable_49 : decode cX6_layTable 49 = .ok (.goto 4, 3) := by decide +kernel
theorem dX6_layTable_52 : decode cX6_layTable 52 = .ok (.iconst 0, 1) := by decide +kernel
theorem dX6_layTable_53 : decode cX6_layTable 53 = .ok (.iastore, 1) := by decide +kernel
theorem dX6_layTable_54 : decode cX6_layTable 54 = .ok (.iinc 1 1, 3) := by decide +kernel
theorem dX6_layTable_57 : decode cX6_layTable 57 = .ok (.goto (-55), 3) := by decide +kernel
theorem dX6_layTable_60 : decode cX6_layTable 60 = .ok (.return_, 1) := by decide +kernel
theorem dX6_rowOf_0 : decode cX6_rowOf 0 = .ok (.iload_n 1, 1) := by decide +kernel
theorem dX6_rowOf_1 : decode cX6_rowOf 1 = .ok (.aload_n 0, 1) := by decide +kernel
theorem dX6_rowOf_2 : decode cX6_rowOf 2 = .ok (.getfield 144, 3) := by decide +kernel
theorem dX6_rowOf_5 : decode cX6_rowOf 5 = .ok (.iload_n 2, 1) := by decide +kernel
theorem dX6_rowOf_6 : decode cX6_rowOf 6 = .ok (.imul, 1) := by decide +kernel
theorem dX6_rowOf_7 : decode cX6_rowOf 7 = .ok (.ishr, 1) := by decide +kernel
theorem dX6_rowOf_8 : decode cX6_rowOf 8 = .ok (.iconst 1, 1) := by decide +kernel
theorem dX6_rowOf_9 : decode cX6_rowOf 9 = .ok (.aload_n 0, 1) := by decide +kernel
theorem dX6_rowOf_10 : decode cX6_rowOf 10 = .ok (.getfield 144, 3) := by decide +kernel
theorem dX6_rowOf_13 : decode cX6_rowOf 13 = .ok (.ishl, 1) := by decide +kernel
theorem dX6_rowOf_14 : decode cX6_rowOf 14 = .ok (.iconst 1, 1) := by decide +kernel
theorem dX6_rowOf_15 : decode cX6_rowOf 15 = .ok (.isub, 1) := by decide +kernel
theorem dX6_rowOf_16 : decode cX6_rowOf 16 = .ok (.iand, 1) := by decide +kernel
theorem dX6_rowOf_17 : decode cX6_rowOf 17 = .ok (.ireturn, 1) := by decide +kernel
theorem dX6_columnOf_0 : decode cX6_columnOf 0 = .ok (.iconst 0, 1) := by decide +kernel
theorem dX6_columnOf_1 : decode cX6_columnOf 1 = .ok (.istore_n 3, 1) := by decide +kernel
theorem dX6_columnOf_2 : decode cX6_columnOf 2 = .ok (.iconst 0, 1) := by decide +kernel
theorem dX6_columnOf_3 : decode cX6_columnOf 3 = .ok (.istore 4, 2) := by decide +kernel
theorem dX6_columnOf_5 : decode cX6_columnOf 5 = .ok (.iload 4, 2) := by decide +kernel
theorem dX6_columnOf_7 : decode cX6_columnOf 7 = .ok (.aload_n 0, 1) := by decide +kernel
theorem dX6_columnOf_8 : decode cX6_columnOf 8 = .ok (.getfield 141, 3) := by decide +kernel
theorem dX6_columnOf_11 : decode cX6_columnOf 11 = .ok (.if_icmp .ge 28, 3) := by decide +kernel
theorem dX6_columnOf_14 : decode cX6_columnOf 14 = .ok (.iload_n 3, 1) := by decide +kernel
theorem dX6_columnOf_15 : decode cX6_columnOf 15 = .ok (.iload_n 1, 1) := by decide +kernel
theorem dX6_columnOf_16 : decode cX6_columnOf 16 = .ok (.aload_n 0, 1) := by decide +kernel
theorem dX6_columnOf_17 : decode cX6_columnOf 17 = .ok (.getfield 144, 3) := by decide +kernel
theorem dX6_columnOf_20 : decode cX6_columnOf 20 = .ok (.iload 4, 2) := by decide +kernel
theorem dX6_columnOf_22 : decode cX6_columnOf 22 = .ok (.imul, 1) := by decide +kernel
theorem dX6_columnOf_23 : decode cX6_columnOf 23 = .ok (.iload_n 2, 1) := by decide +kernel
theorem dX6_columnOf_24 : decode cX6_columnOf 24 = .ok (.iadd, 1) := by decide +kernel
theorem dX6_columnOf_25 : decode cX6_columnOf 25 = .ok (.ishr, 1) := by decide +kernel
theorem dX6_columnOf_26 : decode cX6_columnOf 26 = .ok (.iconst 1, 1) := by decide +kernel
theorem dX6_columnOf_27 : decode cX6_columnOf 27 = .ok (.iand, 1) := by decide +kernel
theorem dX6_columnOf_28 : decode cX6_columnOf 28 = .ok (.iload 4, 2) := by decide +kernel
theorem dX6_columnOf_30 : decode cX6_columnOf 30 = .ok (.ishl, 1) := by decide +kernel
theorem dX6_columnOf_31 : decode cX6_columnOf 31 = .ok (.ior, 1) := by decide +kernel
theorem dX6_columnOf_32 : decode cX6_columnOf 32 = .ok (.istore_n 3, 1) := by decide +kernel
theorem dX6_columnOf_33 : decode cX6_columnOf 33 = .ok (.iinc 4 1, 3) := by decide +kernel
theorem dX6_columnOf_36 : decode cX6_columnOf 36 = .ok (.goto (-31), 3) := by decide +kernel
theorem dX6_columnOf_39 : decode cX6_columnOf 39 = .ok (.iload_n 3, 1) := by decide +kernel
theorem dX6_columnOf_40 : decode cX6_columnOf 40 = .ok (.ireturn, 1) := by decide +kernel
theorem dX6_isFitting_0 : decode cX6_isFitting 0 = .ok (.iload_n 1, 1) := by decide +kernel
theorem dX6_isFitting_1 : decode cX6_isFitting 1 = .ok (.iload_n 2, 1) := by decide +kernel
theorem dX6_isFitting_2 : decode cX6_isFitting 2 = .ok (.iand, 1) := by decide +kernel
theorem dX6_isFitting_3 : decode cX6_isFitting 3 = .ok (.iload_n 2, 1) := by decide +kernel
theorem dX6_isFitting_4 : decode cX6_isFitting 4 = .ok (.if_icmp .ne 9, 3) := by decide +kernel
theorem dX6_isFitting_7 : decode cX6_isFitting 7 = .ok (.iload_n 1, 1) := by decide +kernel
theorem dX6_isFitting_8 : decode cX6_isFitting 8 = .ok (.iload_n 3, 1) := by decide +kernel
theorem dX6_isFitting_9 : decode cX6_isFitting 9 = .ok (.iand, 1) := by decide +kernel
theorem dX6_isFitting_10 : decode cX6_isFitting 10 = .ok (.ifCond .eq 5, 3) := by decide +kernel
theorem dX6_isFitting_13 : decode cX6_isFitting 13 = .ok (.iconst 0, 1) := by decide +kernel
theorem dX6_isFitting_14 : decode cX6_isFitting 14 = .ok (.ireturn, 1) := by decide +kernel
theorem dX6_isFitting_15 : decode cX6_isFitting 15 = .ok (.iconst 0, 1) := by decide +kernel
theorem dX6_isFitting_16 : decode cX6_isFitting 16 = .ok (.istore 4, 2) := by decide +kernel
theorem dX6_isFitting_18 : decode cX6_isFitting 18 = .ok (.iload 4, 2) := by decide +kernel
theorem dX6_isFitting_20 : decode cX6_isFitting 20 = .ok (.aload_n 0, 1) := by decide +kernel
theorem dX6_isFitting_21 : decode cX6_isFitting 21 = .ok (.getfield 141, 3) := by decide +kernel
theorem dX6_isFitting_24 : decode cX6_isFitting 24 = .ok (.if_icmp .ge 32, 3) := by decide +kernel
theorem dX6_isFitting_27 : decode cX6_isFitting 27 = .ok (.aload_n 0, 1) := by decide +kernel
theorem dX6_isFitting_28 : decode cX6_isFitting 28 = .ok (.getfield 41, 3) := by decide +kernel
theorem dX6_isFitting_31 : decode cX6_isFitting 31 = .ok (.bipush 16, 2) := by decide +kernel
theorem dX6_isFitting_33 : decode cX6_isFitting 33 = .ok (.iload 4, 2) := by decide +kernel
theorem dX6_isFitting_35 : decode cX6_isFitting 35 = .ok (.imul, 1) := by decide +kernel
theorem dX6_isFitting_36 : decode cX6_isFitting 36 = .ok (.aload_n 0, 1) := by decide +kernel
theorem dX6_isFitting_37 : decode cX6_isFitting 37 = .ok (.iload_n 1, 1) := by decide +kernel
theorem dX6_isFitting_38 : decode cX6_isFitting 38 = .ok (.iload 4, 2) := by decide +kernel
theorem dX6_isFitting_40 : decode cX6_isFitting 40 = .ok (.invokevirtual 192, 3) := by decide +kernel
theorem dX6_isFitting_43 : decode cX6_isFitting 43 = .ok (.iadd, 1) := by decide +kernel
theorem dX6_isFitting_44 : decode cX6_isFitting 44 = .ok (.iaload, 1) := by decide +kernel
theorem dX6_isFitting_45 : decode cX6_isFitting 45 = .ok (.ifCond .ne 5, 3) := by decide +kernel
theorem dX6_isFitting_48 : decode cX6_isFitting 48 = .ok (.iconst 0, 1) := by decide +kernel
theorem dX6_isFitting_49 : decode cX6_isFitting 49 = .ok (.ireturn, 1) := by decide +kernel
theorem dX6_isFitting_50 : decode cX6_isFitting 50 = .ok (.iinc 4 1, 3) := by decide +kernel
theorem dX6_isFitting_53 : decode cX6_isFitting 53 = .ok (.goto (-35), 3) := by decide +kernel
theorem dX6_isFitting_56 : decode cX6_isFitting 56 = .ok (.iconst 0, 1) := by decide +kernel
theorem dX6_isFitting_57 : decode cX6_isFitting 57 = .ok (.istore 4, 2) := by decide +kernel
theorem dX6_isFitting_59 : decode cX6_isFitting 59 = .ok (.iload 4, 2) := by decide +kernel
theorem dX6_isFitting_61 : decode cX6_isFitting 61 = .ok (.aload_n 0, 1) := by decide +kernel
theorem dX6_isFitting_62 : decode cX6_isFitting 62 = .ok (.getfield 144, 3) := by decide +kernel
theorem dX6_isFitting_65 : decode cX6_isFitting 65 = .ok (.if_icmp .ge 37, 3) := by decide +kernel
theorem dX6_isFitting_68 : decode cX6_isFitting 68 = .ok (.aload_n 0, 1) := by decide +kernel
theorem dX6_isFitting_69 : decode cX6_isFitting 69 = .ok (.getfield 41, 3) := by decide +kernel
theorem dX6_isFitting_72 : decode cX6_isFitting 72 = .ok (.bipush 16, 2) := by decide +kernel
theorem dX6_isFitting_74 : decode cX6_isFitting 74 = .ok (.aload_n 0, 1) := by decide +kernel
theorem dX6_isFitting_75 : decode cX6_isFitting 75 = .ok (.getfield 141, 3) := by decide +kernel
theorem dX6_isFitting_78 : decode cX6_isFitting 78 = .ok (.iload 4, 2) := by decide +kernel
theorem dX6_isFitting_80 : decode cX6_isFitting 80 = .ok (.iadd, 1) := by decide +kernel
theorem dX6_isFitting_81 : decode cX6_isFitting 81 = .ok (.imul, 1) := by decide +kernel
theorem dX6_isFitting_82 : decode cX6_isFitting 82 = .ok (.aload_n 0, 1) := by decide +kernel
theorem dX6_isFitting_83 : decode cX6_isFitting 83 = .ok (.iload_n 1, 1) := by decide +kernel
theorem dX6_isFitting_84 : decode cX6_isFitting 84 = .ok (.iload 4, 2) := by decide +kernel
theorem dX6_isFitting_86 : decode cX6_isFitting 86 = .ok (.invokevirtual 195, 3) := by decide +kernel
theorem dX6_isFitting_89 : decode cX6_isFitting 89 = .ok (.iadd, 1) := by decide +kernel
theorem dX6_isFitting_90 : decode cX6_isFitting 90 = .ok (.iaload, 1) := by decide +kernel
theorem dX6_isFitting_91 : decode cX6_isFitting 91 = .ok (.ifCond .ne 5, 3) := by decide +kernel
theorem dX6_isFitting_94 : decode cX6_isFitting 94 = .ok (.iconst 0, 1) := by decide +kernel
theorem dX6_isFitting_95 : decode cX6_isFitting 95 = .ok (.ireturn, 1) := by decide +kernel
theorem dX6_isFitting_96 : decode cX6_isFitting 96 = .ok (.iinc 4 1, 3) := by decide +kernel
theorem dX6_isFitting_99 : decode cX6_isFitting 99 = .ok (.goto (-40), 3) := by decide +kernel
theorem dX6_isFitting_102 : decode cX6_isFitting 102 = .ok (.iconst 1, 1) := by decide +kernel
theorem dX6_isFitting_103 : decode cX6_isFitting 103 = .ok (.ireturn, 1) := by decide +kernel
theorem dX6_marked_0 : decode cX6_marked 0 = .ok (.iconst 0, 1) := by decide +kernel
theorem dX6_marked_1 : decode cX6_marked 1 = .ok (.istore_n 2, 1) := by decide +kernel
theorem dX6_marked_2 : decode cX6_marked 2 = .ok (.iconst 0, 1) := by decide +kernel
theorem dX6_marked_3 : decode cX6_marked 3 = .ok (.istore_n 3, 1) := by decide +kernel
theorem dX6_marked_4 : decode cX6_marked 4 = .ok (.iload_n 3, 1) := by decide +kernel
theorem dX6_marked_5 : decode cX6_marked 5 = .ok (.aload_n 0, 1) := by decide +kernel
theorem dX6_marked_6 : decode cX6_marked 6 = .ok (.getfield 141, 3) := by decide +kernel
theorem dX6_marked_9 : decode cX6_marked 9 = .ok (.aload_n 0, 1) := by decide +kernel
theorem dX6_marked_10 : decode cX6_marked 10 = .ok (.getfield 144, 3) := by decide +kernel
theorem dX6_marked_13 : decode cX6_marked 13 = .ok (.imul, 1) := by decide +kernel
theorem dX6_marked_14 : decode cX6_marked 14 = .ok (.if_icmp .ge 29, 3) := by decide +kernel
theorem dX6_marked_17 : decode cX6_marked 17 = .ok (.iload_n 2, 1) := by decide +kernel
theorem dX6_marked_18 : decode cX6_marked 18 = .ok (.aload_n 0, 1) := by decide +kernel
theorem dX6_marked_19 : decode cX6_marked 19 = .ok (.getfield 31, 3) := by decide +kernel
theorem dX6_marked_22 : decode cX6_marked 22 = .ok (.iload_n 3, 1) := by decide +kernel
theorem dX6_marked_23 : decode cX6_marked 23 = .ok (.iaload, 1) := by decide +kernel
theorem dX6_marked_24 : decode cX6_marked 24 = .ok (.iload_n 1, 1) := by decide +kernel
theorem dX6_marked_25 : decode cX6_marked 25 = .ok (.if_icmp .ne 9, 3) := by decide +kernel
theorem dX6_marked_28 : decode cX6_marked 28 = .ok (.iconst 1, 1) := by decide +kernel
theorem dX6_marked_29 : decode cX6_marked 29 = .ok (.iload_n 3, 1) := by decide +kernel
theorem dX6_marked_30 : decode cX6_marked 30 = .ok (.ishl, 1) := by decide +kernel
theorem dX6_marked_31 : decode cX6_marked 31 = .ok (.goto 4, 3) := by decide +kernel
theorem dX6_marked_34 : decode cX6_marked 34 = .ok (.iconst 0, 1) := by decide +kernel
theorem dX6_marked_35 : decode cX6_marked 35 = .ok (.ior, 1) := by decide +kernel
theorem dX6_marked_36 : decode cX6_marked 36 = .ok (.istore_n 2, 1) := by decide +kernel
theorem dX6_marked_37 : decode cX6_marked 37 = .ok (.iinc 3 1, 3) := by decide +kernel
theorem dX6_marked_40 : decode cX6_marked 40 = .ok (.goto (-36), 3) := by decide +kernel
theorem dX6_marked_43 : decode cX6_marked 43 = .ok (.iload_n 2, 1) := by decide +kernel
theorem dX6_marked_44 : decode cX6_marked 44 = .ok (.ireturn, 1) := by decide +kernel
theorem dX6_layFit_0 : decode cX6_layFit 0 = .ok (.aload_n 0, 1) := by decide +kernel
theorem dX6_layFit_1 : decode cX6_layFit 1 = .ok (.invokevirtual 198, 3) := by decide +kernel
theorem dX6_layFit_4 : decode cX6_layFit 4 = .ok (.iconst 0, 1) := by decide +kernel
theorem dX6_layFit_5 : decode cX6_layFit 5 = .ok (.istore_n 1, 1) := by decide +kernel
theorem dX6_layFit_6 : decode cX6_layFit 6 = .ok (.iload_n 1, 1) := by decide +kernel
theorem dX6_layFit_7 : decode cX6_layFit 7 = .ok (.sipush 1024, 3) := by decide +kernel
theorem dX6_layFit_10 : decode cX6_layFit 10 = .ok (.if_icmp .ge 16, 3) := by decide +kernel
theorem dX6_layFit_13 : decode cX6_layFit 13 = .ok (.aload_n 0, 1) := by decide +kernel
theorem dX6_layFit_14 : decode cX6_layFit 14 = .ok (.getfield 34, 3) := by decide +kernel
theorem dX6_layFit_17 : decode cX6_layFit 17 = .ok (.iload_n 1, 1) := by decide +kernel
theorem dX6_layFit_18 : decode cX6_layFit 18 = .ok (.lconst 0, 1) := by decide +kernel
theorem dX6_layFit_19 : decode cX6_layFit 19 = .ok (.lastore, 1) := by decide +kernel
theorem dX6_layFit_20 : decode cX6_layFit 20 = .ok (.iinc 1 1, 3) := by decide +kernel
theorem dX6_layFit_23 : decode cX6_layFit 23 = .ok (.goto (-17), 3) := by decide +kernel
theorem dX6_layFit_26 : decode cX6_layFit 26 = .ok (.iconst 0, 1) := by decide +kernel
theorem dX6_layFit_27 : decode cX6_layFit 27 = .ok (.istore_n 1, 1) := by decide +kernel
theorem dX6_layFit_28 : decode cX6_layFit 28 = .ok (.iload_n 1, 1) := by decide +kernel
theorem dX6_layFit_29 : decode cX6_layFit 29 = .ok (.bipush 16, 2) := by decide +kernel
theorem dX6_layFit_31 : decode cX6_layFit 31 = .ok (.if_icmp .ge 16, 3) := by decide +kernel
theorem dX6_layFit_34 : decode cX6_layFit 34 = .ok (.aload_n 0, 1) := by decide +kernel
theorem dX6_layFit_35 : decode cX6_layFit 35 = .ok (.getfield 38, 3) := by decide +kernel
theorem dX6_layFit_38 : decode cX6_layFit 38 = .ok (.iload_n 1, 1) := by decide +kernel
theorem dX6_layFit_39 : decode cX6_layFit 39 = .ok (.iconst 0, 1) := by decide +kernel
theorem dX6_layFit_40 : decode cX6_layFit 40 = .ok (.iastore, 1) := by decide +kernel
theorem dX6_layFit_41 : decode cX6_layFit 41 = .ok (.iinc 1 1, 3) := by decide +kernel
theorem dX6_layFit_44 : decode cX6_layFit 44 = .ok (.goto (-16), 3) := by decide +kernel
theorem dX6_layFit_47 : decode cX6_layFit 47 = .ok (.aload_n 0, 1) := by decide +kernel
theorem dX6_layFit_48 : decode cX6_layFit 48 = .ok (.iconst 0, 1) := by decide +kernel
theorem dX6_layFit_49 : decode cX6_layFit 49 = .ok (.putfield 201, 3) := by decide +kernel
theorem dX6_layFit_52 : decode cX6_layFit 52 = .ok (.aload_n 0, 1) := by decide +kernel
theorem dX6_layFit_53 : decode cX6_layFit 53 = .ok (.iconst 1, 1) := by decide +kernel
theorem dX6_layFit_54 : decode cX6_layFit 54 = .ok (.invokevirtual 204, 3) := by decide +kernel
theorem dX6_layFit_57 : decode cX6_layFit 57 = .ok (.istore_n 1, 1) := by decide +kernel
theorem dX6_layFit_58 : decode cX6_layFit 58 = .ok (.aload_n 0, 1) := by decide +kernel
theorem dX6_layFit_59 : decode cX6_layFit 59 = .ok (.iconst 2, 1) := by decide +kernel
theorem dX6_layFit_60 : decode cX6_layFit 60 = .ok (.invokevirtual 204, 3) := by decide +kernel
theorem dX6_layFit_63 : decode cX6_layFit 63 = .ok (.istore_n 2, 1) := by decide +kernel
theorem dX6_layFit_64 : decode cX6_layFit 64 = .ok (.iconst 0, 1) := by decide +kernel
theorem dX6_layFit_65 : decode cX6_layFit 65 = .ok (.istore_n 3, 1) := by decide +kernel
theorem dX6_layFit_66 : decode cX6_layFit 66 = .ok (.iload_n 3, 1) := by decide +kernel
theorem dX6_layFit_67 : decode cX6_layFit 67 = .ok (.iconst 1, 1) := by decide +kernel
theorem dX6_layFit_68 : decode cX6_layFit 68 = .ok (.aload_n 0, 1) := by decide +kernel
theorem dX6_layFit_69 : decode cX6_layFit 69 = .ok (.getfield 141, 3) := by decide +kernel
theorem dX6_layFit_72 : decode cX6_layFit 72 = .ok (.aload_n 0, 1) := by decide +kernel
theorem dX6_layFit_73 : decode cX6_layFit 73 = .ok (.getfield 144, 3) := by decide +kernel
theorem dX6_layFit_76 : decode cX6_layFit 76 = .ok (.imul, 1) := by decide +kernel
theorem dX6_layFit_77 : decode cX6_layFit 77 = .ok (.ishl, 1) := by decide +kernel
theorem dX6_layFit_78 : decode cX6_layFit 78 = .ok (.if_icmp .ge 79, 3) := by decide +kernel
theorem dX6_layFit_81 : decode cX6_layFit 81 = .ok (.aload_n 0, 1) := by decide +kernel
theorem dX6_layFit_82 : decode cX6_layFit 82 = .ok (.iload_n 3, 1) := by decide +kernel
theorem dX6_layFit_83 : decode cX6_layFit 83 = .ok (.iload_n 1, 1) := by decide +kernel
theorem dX6_layFit_84 : decode cX6_layFit 84 = .ok (.iload_n 2, 1) := by decide +kernel
theorem dX6_layFit_85 : decode cX6_layFit 85 = .ok (.invokevirtual 207, 3) := by decide +kernel
theorem dX6_layFit_88 : decode cX6_layFit 88 = .ok (.ifCond .eq 63, 3) := by decide +kernel
theorem dX6_layFit_91 : decode cX6_layFit 91 = .ok (.aload_n 0, 1) := by decide +kernel
theorem dX6_layFit_92 : decode cX6_layFit 92 = .ok (.getfield 34, 3) := by decide +kernel
theorem dX6_layFit_95 : decode cX6_layFit 95 = .ok (.iload_n 3, 1) := by decide +kernel
theorem dX6_layFit_96 : decode cX6_layFit 96 = .ok (.bipush 64, 2) := by decide +kernel
theorem dX6_layFit_98 : decode cX6_layFit 98 = .ok (.idiv, 1) := by decide +kernel
theorem dX6_layFit_99 : decode cX6_layFit 99 = .ok (.dup2, 1) := by decide +kernel
theorem dX6_layFit_100 : decode cX6_layFit 100 = .ok (.laload, 1) := by decide +kernel
theorem dX6_layFit_101 : decode cX6_layFit 101 = .ok (.lconst 1, 1) := by decide +kernel
theorem dX6_layFit_102 : decode cX6_layFit 102 = .ok (.iload_n 3, 1) := by decide +kernel
theorem dX6_layFit_103 : decode cX6_layFit 103 = .ok (.bipush 64, 2) := by decide +kernel
theorem dX6_layFit_105 : decode cX6_layFit 105 = .ok (.irem, 1) := by decide +kernel
theorem dX6_layFit_106 : decode cX6_layFit 106 = .ok (.lshl, 1) := by decide +kernel
theorem dX6_layFit_107 : decode cX6_layFit 107 = .ok (.lor, 1) := by decide +kernel
theorem dX6_layFit_108 : decode cX6_layFit 108 = .ok (.lastore, 1) := by decide +kernel
theorem dX6_layFit_109 : decode cX6_layFit 109 = .ok (.aload_n 0, 1) := by decide +kernel
theorem dX6_layFit_110 : decode cX6_layFit 110 = .ok (.dup, 1) := by decide +kernel
theorem dX6_layFit_111 : decode cX6_layFit 111 = .ok (.getfield 201, 3) := by decide +kernel
theorem dX6_layFit_114 : decode cX6_layFit 114 = .ok (.iconst 1, 1) := by decide +kernel
theorem dX6_layFit_115 : decode cX6_layFit 115 = .ok (.iadd, 1) := by decide +kernel
theorem dX6_layFit_116 : decode cX6_layFit 116 = .ok (.putfield 201, 3) := by decide +kernel
theorem dX6_layFit_119 : decode cX6_layFit 119 = .ok (.iconst 0, 1) := by decide +kernel
theorem dX6_layFit_120 : decode cX6_layFit 120 = .ok (.istore 4, 2) := by decide +kernel
theorem dX6_layFit_122 : decode cX6_layFit 122 = .ok (.iload 4, 2) := by decide +kernel
theorem dX6_layFit_124 : decode cX6_layFit 124 = .ok (.bipush 16, 2) := by decide +kernel
theorem dX6_layFit_126 : decode cX6_layFit 126 = .ok (.if_icmp .ge 25, 3) := by decide +kernel
theorem dX6_layFit_129 : decode cX6_layFit 129 = .ok (.aload_n 0, 1) := by decide +kernel
theorem dX6_layFit_130 : decode cX6_layFit 130 = .ok (.getfield 38, 3) := by decide +kernel
theorem dX6_layFit_133 : decode cX6_layFit 133 = .ok (.iload 4, 2) := by decide +kernel
theorem dX6_layFit_135 : decode cX6_layFit 135 = .ok (.dup2, 1) := by decide +kernel
theorem dX6_layFit_136 : decode cX6_layFit 136 = .ok (.iaload, 1) := by decide +kernel
theorem dX6_layFit_137 : decode cX6_layFit 137 = .ok (.iload_n 3, 1) := by decide +kernel
theorem dX6_layFit_138 : decode cX6_layFit 138 = .ok (.iload 4, 2) := by decide +kernel
theorem dX6_layFit_140 : decode cX6_layFit 140 = .ok (.ishr, 1) := by decide +kernel
theorem dX6_layFit_141 : decode cX6_layFit 141 = .ok (.iconst 1, 1) := by decide +kernel
theorem dX6_layFit_142 : decode cX6_layFit 142 = .ok (.iand, 1) := by decide +kernel
theorem dX6_layFit_143 : decode cX6_layFit 143 = .ok (.iadd, 1) := by decide +kernel
theorem dX6_layFit_144 : decode cX6_layFit 144 = .ok (.iastore, 1) := by decide +kernel
theorem dX6_layFit_145 : decode cX6_layFit 145 = .ok (.iinc 4 1, 3) := by decide +kernel
theorem dX6_layFit_148 : decode cX6_layFit 148 = .ok (.goto (-26), 3) := by decide +kernel
theorem dX6_layFit_151 : decode cX6_layFit 151 = .ok (.iinc 3 1, 3) := by decide +kernel
theorem dX6_layFit_154 : decode cX6_layFit 154 = .ok (.goto (-88), 3) := by decide +kernel
theorem dX6_layFit_157 : decode cX6_layFit 157 = .ok (.return_, 1) := by decide +kernel
theorem dX6_freshen_0 : decode cX6_freshen 0 = .ok (.aload_n 0, 1) := by decide +kernel
theorem dX6_freshen_1 : decode cX6_freshen 1 = .ok (.getfield 72, 3) := by decide +kernel
theorem dX6_freshen_4 : decode cX6_freshen 4 = .ok (.ifCond .eq 17, 3) := by decide +kernel
theorem dX6_freshen_7 : decode cX6_freshen 7 = .ok (.aload_n 0, 1) := by decide +kernel
theorem dX6_freshen_8 : decode cX6_freshen 8 = .ok (.iconst (-1), 1) := by decide +kernel
theorem dX6_freshen_9 : decode cX6_freshen 9 = .ok (.putfield 189, 3) := by decide +kernel
theorem dX6_freshen_12 : decode cX6_freshen 12 = .ok (.aload_n 0, 1) := by decide +kernel
theorem dX6_freshen_13 : decode cX6_freshen 13 = .ok (.invokevirtual 211, 3) := by decide +kernel
theorem dX6_freshen_16 : decode cX6_freshen 16 = .ok (.aload_n 0, 1) := by decide +kernel
theorem dX6_freshen_17 : decode cX6_freshen 17 = .ok (.iconst 0, 1) := by decide +kernel
theorem dX6_freshen_18 : decode cX6_freshen 18 = .ok (.putfield 72, 3) := by decide +kernel
theorem dX6_freshen_21 : decode cX6_freshen 21 = .ok (.return_, 1) := by decide +kernel
theorem dX6_isFit_0 : decode cX6_isFit 0 = .ok (.aload_n 0, 1) := by decide +kernel
theorem dX6_isFit_1 : decode cX6_isFit 1 = .ok (.getfield 34, 3) := by decide +kernel
theorem dX6_isFit_4 : decode cX6_isFit 4 = .ok (.iload_n 1, 1) := by decide +kernel
theorem dX6_isFit_5 : decode cX6_isFit 5 = .ok (.bipush 64, 2) := by decide +kernel
theorem dX6_isFit_7 : decode cX6_isFit 7 = .ok (.idiv, 1) := by decide +kernel
theorem dX6_isFit_8 : decode cX6_isFit 8 = .ok (.laload, 1) := by decide +kernel
theorem dX6_isFit_9 : decode cX6_isFit 9 = .ok (.iload_n 1, 1) := by decide +kernel
theorem dX6_isFit_10 : decode cX6_isFit 10 = .ok (.bipush 64, 2) := by decide +kernel
theorem dX6_isFit_12 : decode cX6_isFit 12 = .ok (.irem, 1) := by decide +kernel
theorem dX6_isFit_13 : decode cX6_isFit 13 = .ok (.lshr, 1) := by decide +kernel
theorem dX6_isFit_14 : decode cX6_isFit 14 = .ok (.lconst 1, 1) := by decide +kernel
theorem dX6_isFit_15 : decode cX6_isFit 15 = .ok (.land, 1) := by decide +kernel
theorem dX6_isFit_16 : decode cX6_isFit 16 = .ok (.lconst 1, 1) := by decide +kernel
theorem dX6_isFit_17 : decode cX6_isFit 17 = .ok (.lcmp, 1) := by decide +kernel
theorem dX6_isFit_18 : decode cX6_isFit 18 = .ok (.ifCond .ne 7, 3) := by decide +kernel
theorem dX6_isFit_21 : decode cX6_isFit 21 = .ok (.iconst 1, 1) := by decide +kernel
theorem dX6_isFit_22 : decode cX6_isFit 22 = .ok (.goto 4, 3) := by decide +kernel
theorem dX6_isFit_25 : decode cX6_isFit 25 = .ok (.iconst 0, 1) := by decide +kernel
theorem dX6_isFit_26 : decode cX6_isFit 26 = .ok (.ireturn, 1) := by decide +kernel
theorem dX6_nextFit_0 : decode cX6_nextFit 0 = .ok (.iload_n 1, 1) := by decide +kernel
theorem dX6_nextFit_1 : decode cX6_nextFit 1 = .ok (.iconst 1, 1) := by decide +kernel
theorem dX6_nextFit_2 : decode cX6_nextFit 2 = .ok (.iadd, 1) := by decide +kernel
theorem dX6_nextFit_3 : decode cX6_nextFit 3 = .ok (.istore_n 2, 1) := by decide +kernel
theorem dX6_nextFit_4 : decode cX6_nextFit 4 = .ok (.iload_n 2, 1) := by decide +kernel
theorem dX6_nextFit_5 : decode cX6_nextFit 5 = .ok (.iconst 1, 1) := by decide +kernel
theorem dX6_nextFit_6 : decode cX6_nextFit 6 = .ok (.aload_n 0, 1) := by decide +kernel
theorem dX6_nextFit_7 : decode cX6_nextFit 7 = .ok (.getfield 141, 3) := by decide +kernel
theorem dX6_nextFit_10 : decode cX6_nextFit 10 = .ok (.aload_n 0, 1) := by decide +kernel
theorem dX6_nextFit_11 : decode cX6_nextFit 11 = .ok (.getfield 144, 3) := by decide +kernel
theorem dX6_nextFit_14 : decode cX6_nextFit 14 = .ok (.imul, 1) := by decide +kernel
theorem dX6_nextFit_15 : decode cX6_nextFit 15 = .ok (.ishl, 1) := by decide +kernel
theorem dX6_nextFit_16 : decode cX6_nextFit 16 = .ok (.if_icmp .ge 47, 3) := by decide +kernel
theorem dX6_nextFit_19 : decode cX6_nextFit 19 = .ok (.aload_n 0, 1) := by decide +kernel
theorem dX6_nextFit_20 : decode cX6_nextFit 20 = .ok (.getfield 34, 3) := by decide +kernel
theorem dX6_nextFit_23 : decode cX6_nextFit 23 = .ok (.iload_n 2, 1) := by decide +kernel
theorem dX6_nextFit_24 : decode cX6_nextFit 24 = .ok (.bipush 64, 2) := by decide +kernel
theorem dX6_nextFit_26 : decode cX6_nextFit 26 = .ok (.idiv, 1) := by decide +kernel
theorem dX6_nextFit_27 : decode cX6_nextFit 27 = .ok (.laload, 1) := by decide +kernel
theorem dX6_nextFit_28 : decode cX6_nextFit 28 = .ok (.lconst 0, 1) := by decide +kernel
theorem dX6_nextFit_29 : decode cX6_nextFit 29 = .ok (.lcmp, 1) := by decide +kernel
theorem dX6_nextFit_30 : decode cX6_nextFit 30 = .ok (.ifCond .ne 17, 3) := by decide +kernel
theorem dX6_nextFit_33 : decode cX6_nextFit 33 = .ok (.bipush 64, 2) := by decide +kernel
theorem dX6_nextFit_35 : decode cX6_nextFit 35 = .ok (.iload_n 2, 1) := by decide +kernel
theorem dX6_nextFit_36 : decode cX6_nextFit 36 = .ok (.bipush 64, 2) := by decide +kernel
theorem dX6_nextFit_38 : decode cX6_nextFit 38 = .ok (.idiv, 1) := by decide +kernel
theorem dX6_nextFit_39 : decode cX6_nextFit 39 = .ok (.imul, 1) := by decide +kernel
theorem dX6_nextFit_40 : decode cX6_nextFit 40 = .ok (.bipush 64, 2) := by decide +kernel
theorem dX6_nextFit_42 : decode cX6_nextFit 42 = .ok (.iadd, 1) := by decide +kernel
theorem dX6_nextFit_43 : decode cX6_nextFit 43 = .ok (.istore_n 2, 1) := by decide +kernel
theorem dX6_nextFit_44 : decode cX6_nextFit 44 = .ok (.goto (-40), 3) := by decide +kernel
theorem dX6_nextFit_47 : decode cX6_nextFit 47 = .ok (.aload_n 0, 1) := by decide +kernel
theorem dX6_nextFit_48 : decode cX6_nextFit 48 = .ok (.iload_n 2, 1) := by decide +kernel
theorem dX6_nextFit_49 : decode cX6_nextFit 49 = .ok (.invokevirtual 214, 3) := by decide +kernel
theorem dX6_nextFit_52 : decode cX6_nextFit 52 = .ok (.ifCond .eq 5, 3) := by decide +kernel
theorem dX6_nextFit_55 : decode cX6_nextFit 55 = .ok (.iload_n 2, 1) := by decide +kernel
theorem dX6_nextFit_56 : decode cX6_nextFit 56 = .ok (.ireturn, 1) := by decide +kernel
theorem dX6_nextFit_57 : decode cX6_nextFit 57 = .ok (.iinc 2 1, 3) := by decide +kernel
theorem dX6_nextFit_60 : decode cX6_nextFit 60 = .ok (.goto (-56), 3) := by decide +kernel
theorem dX6_nextFit_63 : decode cX6_nextFit 63 = .ok (.iconst (-1), 1) := by decide +kernel
theorem dX6_nextFit_64 : decode cX6_nextFit 64 = .ok (.ireturn, 1) := by decide +kernel
theorem dX6_soManieth_0 : decode cX6_soManieth 0 = .ok (.aload_n 0, 1) := by decide +kernel
theorem dX6_soManieth_1 : decode cX6_soManieth 1 = .ok (.iconst (-1), 1) := by decide +kernel
theorem dX6_soManieth_2 : decode cX6_soManieth 2 = .ok (.invokevirtual 217, 3) := by decide +kernel
theorem dX6_soManieth_5 : decode cX6_soManieth 5 = .ok (.istore_n 2, 1) := by decide +kernel
theorem dX6_soManieth_6 : decode cX6_soManieth 6 = .ok (.iconst 0, 1) := by decide +kernel
theorem dX6_soManieth_7 : decode cX6_soManieth 7 = .ok (.istore_n 3, 1) := by decide +kernel
theorem dX6_soManieth_8 : decode cX6_soManieth 8 = .ok (.iload_n 3, 1) := by decide +kernel
theorem dX6_soManieth_9 : decode cX6_soManieth 9 = .ok (.iload_n 1, 1) := by decide +kernel
theorem dX6_soManieth_10 : decode cX6_soManieth 10 = .ok (.if_icmp .ge 20, 3) := by decide +kernel
theorem dX6_soManieth_13 : decode cX6_soManieth 13 = .ok (.iload_n 2, 1) := by decide +kernel
theorem dX6_soManieth_14 : decode cX6_soManieth 14 = .ok (.iconst (-1), 1) := by decide +kernel
theorem dX6_soManieth_15 : decode cX6_soManieth 15 = .ok (.if_icmp .eq 15, 3) := by decide +kernel
theorem dX6_soManieth_18 : decode cX6_soManieth 18 = .ok (.aload_n 0, 1) := by decide +kernel
theorem dX6_soManieth_19 : decode cX6_soManieth 19 = .ok (.iload_n 2, 1) := by decide +kernel
theorem dX6_soManieth_20 : decode cX6_soManieth 20 = .ok (.invokevirtual 217, 3) := by decide +kernel
theorem dX6_soManieth_23 : decode cX6_soManieth 23 = .ok (.istore_n 2, 1) := by decide +kernel
theorem dX6_soManieth_24 : decode cX6_soManieth 24 = .ok (.iinc 3 1, 3) := by decide +kernel
theorem dX6_soManieth_27 : decode cX6_soManieth 27 = .ok (.goto (-19), 3) := by decide +kernel
theorem dX6_soManieth_30 : decode cX6_soManieth 30 = .ok (.iload_n 2, 1) := by decide +kernel
theorem dX6_soManieth_31 : decode cX6_soManieth 31 = .ok (.ireturn, 1) := by decide +kernel
theorem dX6_leftOf_0 : decode cX6_leftOf 0 = .ok (.aload_n 0, 1) := by decide +kernel
theorem dX6_leftOf_1 : decode cX6_leftOf 1 = .ok (.invokevirtual 220, 3) := by decide +kernel
theorem dX6_leftOf_4 : decode cX6_leftOf 4 = .ok (.aload_n 0, 1) := by decide +kernel
theorem dX6_leftOf_5 : decode cX6_leftOf 5 = .ok (.getfield 201, 3) := by decide +kernel
theorem dX6_leftOf_8 : decode cX6_leftOf 8 = .ok (.ireturn, 1) := by decide +kernel
theorem dX6_left_0 : decode cX6_left 0 = .ok (.aload_n 0, 1) := by decide +kernel
theorem dX6_left_1 : decode cX6_left 1 = .ok (.invokevirtual 223, 3) := by decide +kernel
theorem dX6_left_4 : decode cX6_left 4 = .ok (.ifCond .eq 8, 3) := by decide +kernel
theorem dX6_left_7 : decode cX6_left 7 = .ok (.bipush (-103), 2) := by decide +kernel
theorem dX6_left_9 : decode cX6_left 9 = .ok (.goto 7, 3) := by decide +kernel
theorem dX6_left_12 : decode cX6_left 12 = .ok (.aload_n 0, 1) := by decide +kernel
theorem dX6_left_13 : decode cX6_left 13 = .ok (.invokevirtual 227, 3) := by decide +kernel
theorem dX6_left_16 : decode cX6_left 16 = .ok (.ireturn, 1) := by decide +kernel
theorem dX6_pictureOf_0 : decode cX6_pictureOf 0 = .ok (.aload_n 0, 1) := by decide +kernel
theorem dX6_pictureOf_1 : decode cX6_pictureOf 1 = .ok (.invokevirtual 220, 3) := by decide +kernel
theorem dX6_pictureOf_4 : decode cX6_pictureOf 4 = .ok (.iload_n 1, 1) := by decide +kernel
theorem dX6_pictureOf_5 : decode cX6_pictureOf 5 = .ok (.aload_n 0, 1) := by decide +kernel
theorem dX6_pictureOf_6 : decode cX6_pictureOf 6 = .ok (.getfield 201, 3) := by decide +kernel
theorem dX6_pictureOf_9 : decode cX6_pictureOf 9 = .ok (.if_icmp .ge 11, 3) := by decide +kernel
theorem dX6_pictureOf_12 : decode cX6_pictureOf 12 = .ok (.aload_n 0, 1) := by decide +kernel
theorem dX6_pictureOf_13 : decode cX6_pictureOf 13 = .ok (.iload_n 1, 1) := by decide +kernel
theorem dX6_pictureOf_14 : decode cX6_pictureOf 14 = .ok (.invokevirtual 230, 3) := by decide +kernel
theorem dX6_pictureOf_17 : decode cX6_pictureOf 17 = .ok (.goto 4, 3) := by decide +kernel
theorem dX6_pictureOf_20 : decode cX6_pictureOf 20 = .ok (.iconst (-1), 1) := by decide +kernel
theorem dX6_pictureOf_21 : decode cX6_pictureOf 21 = .ok (.ireturn, 1) := by decide +kernel
theorem dX6_picture_0 : decode cX6_picture 0 = .ok (.iload_n 1, 1) := by decide +kernel
theorem dX6_picture_1 : decode cX6_picture 1 = .ok (.ifCond .ge 6, 3) := by decide +kernel
theorem dX6_picture_4 : decode cX6_picture 4 = .ok (.bipush (-102), 2) := by decide +kernel
theorem dX6_picture_6 : decode cX6_picture 6 = .ok (.ireturn, 1) := by decide +kernel
theorem dX6_picture_7 : decode cX6_picture 7 = .ok (.aload_n 0, 1) := by decide +kernel
theorem dX6_picture_8 : decode cX6_picture 8 = .ok (.invokevirtual 223, 3) := by decide +kernel
theorem dX6_picture_11 : decode cX6_picture 11 = .ok (.ifCond .eq 8, 3) := by decide +kernel
theorem dX6_picture_14 : decode cX6_picture 14 = .ok (.bipush (-103), 2) := by decide +kernel
theorem dX6_picture_16 : decode cX6_picture 16 = .ok (.goto 8, 3) := by decide +kernel
theorem dX6_picture_19 : decode cX6_picture 19 = .ok (.aload_n 0, 1) := by decide +kernel
theorem dX6_picture_20 : decode cX6_picture 20 = .ok (.iload_n 1, 1) := by decide +kernel
theorem dX6_picture_21 : decode cX6_picture 21 = .ok (.invokevirtual 233, 3) := by decide +kernel
theorem dX6_picture_24 : decode cX6_picture 24 = .ok (.ireturn, 1) := by decide +kernel
theorem dX6_sureOf_0 : decode cX6_sureOf 0 = .ok (.aload_n 0, 1) := by decide +kernel
theorem dX6_sureOf_1 : decode cX6_sureOf 1 = .ok (.invokevirtual 220, 3) := by decide +kernel
theorem dX6_sureOf_4 : decode cX6_sureOf 4 = .ok (.aload_n 0, 1) := by decide +kernel
theorem dX6_sureOf_5 : decode cX6_sureOf 5 = .ok (.getfield 201, 3) := by decide +kernel
theorem dX6_sureOf_8 : decode cX6_sureOf 8 = .ok (.ifCond .ne 7, 3) := by decide +kernel
theorem dX6_sureOf_11 : decode cX6_sureOf 11 = .ok (.iconst (-1), 1) := by decide +kernel
theorem dX6_sureOf_12 : decode cX6_sureOf 12 = .ok (.goto 34, 3) := by decide +kernel
theorem dX6_sureOf_15 : decode cX6_sureOf 15 = .ok (.aload_n 0, 1) := by decide +kernel
theorem dX6_sureOf_16 : decode cX6_sureOf 16 = .ok (.getfield 38, 3) := by decide +kernel
theorem dX6_sureOf_19 : decode cX6_sureOf 19 = .ok (.iload_n 1, 1) := by decide +kernel
theorem dX6_sureOf_20 : decode cX6_sureOf 20 = .ok (.iaload, 1) := by decide +kernel
theorem dX6_sureOf_21 : decode cX6_sureOf 21 = .ok (.aload_n 0, 1) := by decide +kernel
theorem dX6_sureOf_22 : decode cX6_sureOf 22 = .ok (.getfield 201, 3) := by decide +kernel
theorem dX6_sureOf_25 : decode cX6_sureOf 25 = .ok (.if_icmp .ne 7, 3) := by decide +kernel
theorem dX6_sureOf_28 : decode cX6_sureOf 28 = .ok (.iconst 1, 1) := by decide +kernel
theorem dX6_sureOf_29 : decode cX6_sureOf 29 = .ok (.goto 17, 3) := by decide +kernel
theorem dX6_sureOf_32 : decode cX6_sureOf 32 = .ok (.aload_n 0, 1) := by decide +kernel
theorem dX6_sureOf_33 : decode cX6_sureOf 33 = .ok (.getfield 38, 3) := by decide +kernel
theorem dX6_sureOf_36 : decode cX6_sureOf 36 = .ok (.iload_n 1, 1) := by decide +kernel
theorem dX6_sureOf_37 : decode cX6_sureOf 37 = .ok (.iaload, 1) := by decide +kernel
theorem dX6_sureOf_38 : decode cX6_sureOf 38 = .ok (.ifCond .ne 7, 3) := by decide +kernel
theorem dX6_sureOf_41 : decode cX6_sureOf 41 = .ok (.iconst 0, 1) := by decide +kernel
theorem dX6_sureOf_42 : decode cX6_sureOf 42 = .ok (.goto 4, 3) := by decide +kernel
theorem dX6_sureOf_45 : decode cX6_sureOf 45 = .ok (.iconst (-1), 1) := by decide +kernel
theorem dX6_sureOf_46 : decode cX6_sureOf 46 = .ok (.ireturn, 1) := by decide +kernel
theorem dX6_blackOf_0 : decode cX6_blackOf 0 = .ok (.aload_n 0, 1) := by decide +kernel
theorem dX6_blackOf_1 : decode cX6_blackOf 1 = .ok (.invokevirtual 220, 3) := by decide +kernel
theorem dX6_blackOf_4 : decode cX6_blackOf 4 = .ok (.aload_n 0, 1) := by decide +kernel
theorem dX6_blackOf_5 : decode cX6_blackOf 5 = .ok (.getfield 38, 3) := by decide +kernel
theorem dX6_blackOf_8 : decode cX6_blackOf 8 = .ok (.iload_n 1, 1) := by decide +kernel
theorem dX6_blackOf_9 : decode cX6_blackOf 9 = .ok (.iaload, 1) := by decide +kernel
theorem dX6_blackOf_10 : decode cX6_blackOf 10 = .ok (.ireturn, 1) := by decide +kernel
theorem dX6_tellCell_0 : decode cX6_tellCell 0 = .ok (.iload_n 2, 1) := by decide +kernel
theorem dX6_tellCell_1 : decode cX6_tellCell 1 = .ok (.tableswitch 46 0 2 #[27, 34, 40], 27) := by decide +kernel
theorem dX6_tellCell_28 : decode cX6_tellCell 28 = .ok (.aload_n 0, 1) := by decide +kernel
theorem dX6_tellCell_29 : decode cX6_tellCell 29 = .ok (.getfield 31, 3) := by decide +kernel
theorem dX6_tellCell_32 : decode cX6_tellCell 32 = .ok (.iload_n 1, 1) := by decide +kernel
theorem dX6_tellCell_33 : decode cX6_tellCell 33 = .ok (.iaload, 1) := by decide +kernel
theorem dX6_tellCell_34 : decode cX6_tellCell 34 = .ok (.ireturn, 1) := by decide +kernel
theorem dX6_tellCell_35 : decode cX6_tellCell 35 = .ok (.aload_n 0, 1) := by decide +kernel
theorem dX6_tellCell_36 : decode cX6_tellCell 36 = .ok (.iload_n 1, 1) := by decide +kernel
theorem dX6_tellCell_37 : decode cX6_tellCell 37 = .ok (.invokevirtual 236, 3) := by decide +kernel
theorem dX6_tellCell_40 : decode cX6_tellCell 40 = .ok (.ireturn, 1) := by decide +kernel
theorem dX6_tellCell_41 : decode cX6_tellCell 41 = .ok (.aload_n 0, 1) := by decide +kernel
theorem dX6_tellCell_42 : decode cX6_tellCell 42 = .ok (.iload_n 1, 1) := by decide +kernel
theorem dX6_tellCell_43 : decode cX6_tellCell 43 = .ok (.invokevirtual 239, 3) := by decide +kernel
theorem dX6_tellCell_46 : decode cX6_tellCell 46 = .ok (.ireturn, 1) := by decide +kernel
theorem dX6_tellCell_47 : decode cX6_tellCell 47 = .ok (.bipush (-102), 2) := by decide +kernel
theorem dX6_tellCell_49 : decode cX6_tellCell 49 = .ok (.ireturn, 1) := by decide +kernel
theorem dX6_cell_0 : decode cX6_cell 0 = .ok (.aload_n 0, 1) := by decide +kernel
theorem dX6_cell_1 : decode cX6_cell 1 = .ok (.iload_n 1, 1) := by decide +kernel
theorem dX6_cell_2 : decode cX6_cell 2 = .ok (.invokevirtual 242, 3) := by decide +kernel
theorem dX6_cell_5 : decode cX6_cell 5 = .ok (.ifCond .eq 12, 3) := by decide +kernel
theorem dX6_cell_8 : decode cX6_cell 8 = .ok (.aload_n 0, 1) := by decide +kernel
theorem dX6_cell_9 : decode cX6_cell 9 = .ok (.iload_n 1, 1) := by decide +kernel
theorem dX6_cell_10 : decode cX6_cell 10 = .ok (.iload_n 2, 1) := by decide +kernel
theorem dX6_cell_11 : decode cX6_cell 11 = .ok (.invokevirtual 245, 3) := by decide +kernel
theorem dX6_cell_14 : decode cX6_cell 14 = .ok (.goto 5, 3) := by decide +kernel
theorem dX6_cell_17 : decode cX6_cell 17 = .ok (.bipush (-101), 2) := by decide +kernel
theorem dX6_cell_19 : decode cX6_cell 19 = .ok (.ireturn, 1) := by decide +kernel
theorem dX6_spareOf_0 : decode cX6_spareOf 0 = .ok (.aload_n 0, 1) := by decide +kernel
theorem dX6_spareOf_1 : decode cX6_spareOf 1 = .ok (.invokevirtual 220, 3) := by decide +kernel
theorem dX6_spareOf_4 : decode cX6_spareOf 4 = .ok (.aload_n 0, 1) := by decide +kernel
theorem dX6_spareOf_5 : decode cX6_spareOf 5 = .ok (.getfield 201, 3) := by decide +kernel
theorem dX6_spareOf_8 : decode cX6_spareOf 8 = .ok (.istore_n 2, 1) := by decide +kernel
theorem dX6_spareOf_9 : decode cX6_spareOf 9 = .ok (.aload_n 0, 1) := by decide +kernel
theorem dX6_spareOf_10 : decode cX6_spareOf 10 = .ok (.iload_n 1, 1) := by decide +kernel
theorem dX6_spareOf_11 : decode cX6_spareOf 11 = .ok (.putfield 189, 3) := by decide +kernel
theorem dX6_spareOf_14 : decode cX6_spareOf 14 = .ok (.aload_n 0, 1) := by decide +kernel
theorem dX6_spareOf_15 : decode cX6_spareOf 15 = .ok (.invokevirtual 211, 3) := by decide +kernel
theorem dX6_spareOf_18 : decode cX6_spareOf 18 = .ok (.aload_n 0, 1) := by decide +kernel
theorem dX6_spareOf_19 : decode cX6_spareOf 19 = .ok (.getfield 201, 3) := by decide +kernel
theorem dX6_spareOf_22 : decode cX6_spareOf 22 = .ok (.istore_n 3, 1) := by decide +kernel
theorem dX6_spareOf_23 : decode cX6_spareOf 23 = .ok (.aload_n 0, 1) := by decide +kernel
theorem dX6_spareOf_24 : decode cX6_spareOf 24 = .ok (.iconst 1, 1) := by decide +kernel
theorem dX6_spareOf_25 : decode cX6_spareOf 25 = .ok (.putfield 72, 3) := by decide +kernel
theorem dX6_spareOf_28 : decode cX6_spareOf 28 = .ok (.iload_n 2, 1) := by decide +kernel
theorem dX6_spareOf_29 : decode cX6_spareOf 29 = .ok (.iload_n 3, 1) := by decide +kernel
theorem dX6_spareOf_30 : decode cX6_spareOf 30 = .ok (.if_icmp .ne 7, 3) := by decide +kernel
theorem dX6_spareOf_33 : decode cX6_spareOf 33 = .ok (.iconst 1, 1) := by decide +kernel
theorem dX6_spareOf_34 : decode cX6_spareOf 34 = .ok (.goto 4, 3) := by decide +kernel
theorem dX6_spareOf_37 : decode cX6_spareOf 37 = .ok (.iconst 0, 1) := by decide +kernel
theorem dX6_spareOf_38 : decode cX6_spareOf 38 = .ok (.ireturn, 1) := by decide +kernel
theorem dX6_tellLine_0 : decode cX6_tellLine 0 = .ok (.iload_n 2, 1) := by decide +kernel
theorem dX6_tellLine_1 : decode cX6_tellLine 1 = .ok (.tableswitch 88 0 6 #[43, 50, 57, 64, 70, 76, 82], 43) := by decide +kernel
theorem dX6_tellLine_44 : decode cX6_tellLine 44 = .ok (.aload_n 0, 1) := by decide +kernel
theorem dX6_tellLine_45 : decode cX6_tellLine 45 = .ok (.getfield 22, 3) := by decide +kernel
theorem dX6_tellLine_48 : decode cX6_tellLine 48 = .ok (.iload_n 1, 1) := by decide +kernel
theorem dX6_tellLine_49 : decode cX6_tellLine 49 = .ok (.iaload, 1) := by decide +kernel
theorem dX6_tellLine_50 : decode cX6_tellLine 50 = .ok (.ireturn, 1) := by decide +kernel
theorem dX6_tellLine_51 : decode cX6_tellLine 51 = .ok (.aload_n 0, 1) := by decide +kernel
theorem dX6_tellLine_52 : decode cX6_tellLine 52 = .ok (.getfield 25, 3) := by decide +kernel
theorem dX6_tellLine_55 : decode cX6_tellLine 55 = .ok (.iload_n 1, 1) := by decide +kernel
theorem dX6_tellLine_56 : decode cX6_tellLine 56 = .ok (.iaload, 1) := by decide +kernel
theorem dX6_tellLine_57 : decode cX6_tellLine 57 = .ok (.ireturn, 1) := by decide +kernel
theorem dX6_tellLine_58 : decode cX6_tellLine 58 = .ok (.aload_n 0, 1) := by decide +kernel
theorem dX6_tellLine_59 : decode cX6_tellLine 59 = .ok (.getfield 28, 3) := by decide +kernel
theorem dX6_tellLine_62 : decode cX6_tellLine 62 = .ok (.iload_n 1, 1) := by decide +kernel
theorem dX6_tellLine_63 : decode cX6_tellLine 63 = .ok (.iaload, 1) := by decide +kernel
theorem dX6_tellLine_64 : decode cX6_tellLine 64 = .ok (.ireturn, 1) := by decide +kernel
theorem dX6_tellLine_65 : decode cX6_tellLine 65 = .ok (.aload_n 0, 1) := by decide +kernel
theorem dX6_tellLine_66 : decode cX6_tellLine 66 = .ok (.iload_n 1, 1) := by decide +kernel
theorem dX6_tellLine_67 : decode cX6_tellLine 67 = .ok (.invokevirtual 183, 3) := by decide +kernel
theorem dX6_tellLine_70 : decode cX6_tellLine 70 = .ok (.ireturn, 1) := by decide +kernel
theorem dX6_tellLine_71 : decode cX6_tellLine 71 = .ok (.aload_n 0, 1) := by decide +kernel
theorem dX6_tellLine_72 : decode cX6_tellLine 72 = .ok (.iload_n 1, 1) := by decide +kernel
theorem dX6_tellLine_73 : decode cX6_tellLine 73 = .ok (.invokevirtual 248, 3) := by decide +kernel
theorem dX6_tellLine_76 : decode cX6_tellLine 76 = .ok (.ireturn, 1) := by decide +kernel
theorem dX6_tellLine_77 : decode cX6_tellLine 77 = .ok (.aload_n 0, 1) := by decide +kernel
theorem dX6_tellLine_78 : decode cX6_tellLine 78 = .ok (.iload_n 1, 1) := by decide +kernel
theorem dX6_tellLine_79 : decode cX6_tellLine 79 = .ok (.invokevirtual 251, 3) := by decide +kernel
theorem dX6_tellLine_82 : decode cX6_tellLine 82 = .ok (.ireturn, 1) := by decide +kernel
theorem dX6_tellLine_83 : decode cX6_tellLine 83 = .ok (.aload_n 0, 1) := by decide +kernel
theorem dX6_tellLine_84 : decode cX6_tellLine 84 = .ok (.iload_n 1, 1) := by decide +kernel
theorem dX6_tellLine_85 : decode cX6_tellLine 85 = .ok (.invokevirtual 254, 3) := by decide +kernel
theorem dX6_tellLine_88 : decode cX6_tellLine 88 = .ok (.ireturn, 1) := by decide +kernel
theorem dX6_tellLine_89 : decode cX6_tellLine 89 = .ok (.bipush (-102), 2) := by decide +kernel
theorem dX6_tellLine_91 : decode cX6_tellLine 91 = .ok (.ireturn, 1) := by decide +kernel
theorem dX6_line_0 : decode cX6_line 0 = .ok (.aload_n 0, 1) := by decide +kernel
theorem dX6_line_1 : decode cX6_line 1 = .ok (.iload_n 1, 1) := by decide +kernel
theorem dX6_line_2 : decode cX6_line 2 = .ok (.invokevirtual 180, 3) := by decide +kernel
theorem dX6_line_5 : decode cX6_line 5 = .ok (.ifCond .eq 12, 3) := by decide +kernel
theorem dX6_line_8 : decode cX6_line 8 = .ok (.aload_n 0, 1) := by decide +kernel
theorem dX6_line_9 : decode cX6_line 9 = .ok (.iload_n 1, 1) := by decide +kernel
theorem dX6_line_10 : decode cX6_line 10 = .ok (.iload_n 2, 1) := by decide +kernel
theorem dX6_line_11 : decode cX6_line 11 = .ok (.invokevirtual 257, 3) := by decide +kernel
theorem dX6_line_14 : decode cX6_line 14 = .ok (.goto 5, 3) := by decide +kernel
theorem dX6_line_17 : decode cX6_line 17 = .ok (.bipush (-101), 2) := by decide +kernel
theorem dX6_line_19 : decode cX6_line 19 = .ok (.ireturn, 1) := by decide +kernel
theorem dX6_as_0 : decode cX6_as 0 = .ok (.aload_n 0, 1) := by decide +kernel
theorem dX6_as_1 : decode cX6_as 1 = .ok (.iload_n 1, 1) := by decide +kernel
theorem dX6_as_2 : decode cX6_as 2 = .ok (.invokevirtual 180, 3) := by decide +kernel
theorem dX6_as_5 : decode cX6_as 5 = .ok (.ifCond .ne 6, 3) := by decide +kernel
theorem dX6_as_8 : decode cX6_as 8 = .ok (.bipush (-101), 2) := by decide +kernel
theorem dX6_as_10 : decode cX6_as 10 = .ok (.ireturn, 1) := by decide +kernel
theorem dX6_as_11 : decode cX6_as 11 = .ok (.iload_n 2, 1) := by decide +kernel
theorem dX6_as_12 : decode cX6_as 12 = .ok (.i2l, 1) := by decide +kernel
theorem dX6_as_13 : decode cX6_as 13 = .ok (.lconst 0, 1) := by decide +kernel
theorem dX6_as_14 : decode cX6_as 14 = .ok (.ldc2_w 260, 3) := by decide +kernel
theorem dX6_as_17 : decode cX6_as 17 = .ok (.invokestatic 78, 3) := by decide +kernel
theorem dX6_as_20 : decode cX6_as 20 = .ok (.ifCond .ne 6, 3) := by decide +kernel
theorem dX6_as_23 : decode cX6_as 23 = .ok (.bipush (-102), 2) := by decide +kernel
theorem dX6_as_25 : decode cX6_as 25 = .ok (.ireturn, 1) := by decide +kernel
theorem dX6_as_26 : decode cX6_as 26 = .ok (.iload_n 2, 1) := by decide +kernel
theorem dX6_as_27 : decode cX6_as 27 = .ok (.ifCond .eq 28, 3) := by decide +kernel
theorem dX6_as_30 : decode cX6_as 30 = .ok (.iload_n 2, 1) := by decide +kernel
theorem dX6_as_31 : decode cX6_as 31 = .ok (.aload_n 0, 1) := by decide +kernel
theorem dX6_as_32 : decode cX6_as 32 = .ok (.getfield 22, 3) := by decide +kernel
theorem dX6_as_35 : decode cX6_as 35 = .ok (.iload_n 1, 1) := by decide +kernel
theorem dX6_as_36 : decode cX6_as 36 = .ok (.iaload, 1) := by decide +kernel
theorem dX6_as_37 : decode cX6_as 37 = .ok (.if_icmp .eq 18, 3) := by decide +kernel
theorem dX6_as_40 : decode cX6_as 40 = .ok (.iload_n 2, 1) := by decide +kernel
theorem dX6_as_41 : decode cX6_as 41 = .ok (.iconst 1, 1) := by decide +kernel
theorem dX6_as_42 : decode cX6_as 42 = .ok (.if_icmp .ne 17, 3) := by decide +kernel
theorem dX6_as_45 : decode cX6_as 45 = .ok (.aload_n 0, 1) := by decide +kernel
theorem dX6_as_46 : decode cX6_as 46 = .ok (.getfield 22, 3) := by decide +kernel
theorem dX6_as_49 : decode cX6_as 49 = .ok (.iload_n 1, 1) := by decide +kernel
theorem dX6_as_50 : decode cX6_as 50 = .ok (.iaload, 1) := by decide +kernel
theorem dX6_as_51 : decode cX6_as 51 = .ok (.iconst 4, 1) := by decide +kernel
theorem dX6_as_52 : decode cX6_as 52 = .ok (.if_icmp .ne 7, 3) := by decide +kernel
theorem dX6_as_55 : decode cX6_as 55 = .ok (.iconst 1, 1) := by decide +kernel
theorem dX6_as_56 : decode cX6_as 56 = .ok (.goto 4, 3) := by decide +kernel
theorem dX6_as_59 : decode cX6_as 59 = .ok (.iconst 0, 1) := by decide +kernel
theorem dX6_as_60 : decode cX6_as 60 = .ok (.istore_n 3, 1) := by decide +kernel
theorem dX6_as_61 : decode cX6_as 61 = .ok (.iload_n 3, 1) := by decide +kernel
theorem dX6_as_62 : decode cX6_as 62 = .ok (.ifCond .eq 7, 3) := by decide +kernel
theorem dX6_as_65 : decode cX6_as 65 = .ok (.iload_n 1, 1) := by decide +kernel
theorem dX6_as_66 : decode cX6_as 66 = .ok (.goto 4, 3) := by decide +kernel
theorem dX6_as_69 : decode cX6_as 69 = .ok (.iconst (-1), 1) := by decide +kernel
theorem dX6_as_70 : decode cX6_as 70 = .ok (.ireturn, 1) := by decide +kernel
theorem dX6_mark_0 : decode cX6_mark 0 = .ok (.aload_n 0, 1) := by decide +kernel
theorem dX6_mark_1 : decode cX6_mark 1 = .ok (.iload_n 1, 1) := by decide +kernel
theorem dX6_mark_2 : decode cX6_mark 2 = .ok (.invokevirtual 242, 3) := by decide +kernel
theorem dX6_mark_5 : decode cX6_mark 5 = .ok (.ifCond .ne 6, 3) := by decide +kernel
theorem dX6_mark_8 : decode cX6_mark 8 = .ok (.bipush (-101), 2) := by decide +kernel
theorem dX6_mark_10 : decode cX6_mark 10 = .ok (.ireturn, 1) := by decide +kernel
theorem dX6_mark_11 : decode cX6_mark 11 = .ok (.iload_n 2, 1) := by decide +kernel
theorem dX6_mark_12 : decode cX6_mark 12 = .ok (.i2l, 1) := by decide +kernel
theorem dX6_mark_13 : decode cX6_mark 13 = .ok (.lconst 0, 1) := by decide +kernel
theorem dX6_mark_14 : decode cX6_mark 14 = .ok (.ldc2_w 262, 3) := by decide +kernel
theorem dX6_mark_17 : decode cX6_mark 17 = .ok (.invokestatic 78, 3) := by decide +kernel
theorem dX6_mark_20 : decode cX6_mark 20 = .ok (.ifCond .ne 6, 3) := by decide +kernel
theorem dX6_mark_23 : decode cX6_mark 23 = .ok (.bipush (-102), 2) := by decide +kernel
theorem dX6_mark_25 : decode cX6_mark 25 = .ok (.ireturn, 1) := by decide +kernel
theorem dX6_mark_26 : decode cX6_mark 26 = .ok (.aload_n 0, 1) := by decide +kernel
theorem dX6_mark_27 : decode cX6_mark 27 = .ok (.getfield 31, 3) := by decide +kernel
theorem dX6_mark_30 : decode cX6_mark 30 = .ok (.iload_n 1, 1) := by decide +kernel
theorem dX6_mark_31 : decode cX6_mark 31 = .ok (.iaload, 1) := by decide +kernel
theorem dX6_mark_32 : decode cX6_mark 32 = .ok (.istore_n 3, 1) := by decide +kernel
theorem dX6_mark_33 : decode cX6_mark 33 = .ok (.aload_n 0, 1) := by decide +kernel
theorem dX6_mark_34 : decode cX6_mark 34 = .ok (.getfield 31, 3) := by decide +kernel
theorem dX6_mark_37 : decode cX6_mark 37 = .ok (.iload_n 1, 1) := by decide +kernel
theorem dX6_mark_38 : decode cX6_mark 38 = .ok (.iload_n 2, 1) := by decide +kernel
theorem dX6_mark_39 : decode cX6_mark 39 = .ok (.iastore, 1) := by decide +kernel
theorem dX6_mark_40 : decode cX6_mark 40 = .ok (.aload_n 0, 1) := by decide +kernel
theorem dX6_mark_41 : decode cX6_mark 41 = .ok (.iconst 1, 1) := by decide +kernel
theorem dX6_mark_42 : decode cX6_mark 42 = .ok (.putfield 72, 3) := by decide +kernel
theorem dX6_mark_45 : decode cX6_mark 45 = .ok (.iload_n 3, 1) := by decide +kernel
theorem dX6_mark_46 : decode cX6_mark 46 = .ok (.ireturn, 1) := by decide +kernel
theorem dX6_markedMany_0 : decode cX6_markedMany 0 = .ok (.aload_n 0, 1) := by decide +kernel
theorem dX6_markedMany_1 : decode cX6_markedMany 1 = .ok (.iconst 1, 1) := by decide +kernel
theorem dX6_markedMany_2 : decode cX6_markedMany 2 = .ok (.invokevirtual 204, 3) := by decide +kernel
theorem dX6_markedMany_5 : decode cX6_markedMany 5 = .ok (.invokestatic 173, 3) := by decide +kernel
theorem dX6_markedMany_8 : decode cX6_markedMany 8 = .ok (.aload_n 0, 1) := by decide +kernel
theorem dX6_markedMany_9 : decode cX6_markedMany 9 = .ok (.iconst 2, 1) := by decide +kernel
theorem dX6_markedMany_10 : decode cX6_markedMany 10 = .ok (.invokevirtual 204, 3) := by decide +kernel
theorem dX6_markedMany_13 : decode cX6_markedMany 13 = .ok (.invokestatic 173, 3) := by decide +kernel
theorem dX6_markedMany_16 : decode cX6_markedMany 16 = .ok (.iadd, 1) := by decide +kernel
theorem dX6_markedMany_17 : decode cX6_markedMany 17 = .ok (.ireturn, 1) := by decide +kernel
theorem dX6_clear_0 : decode cX6_clear 0 = .ok (.aload_n 0, 1) := by decide +kernel
theorem dX6_clear_1 : decode cX6_clear 1 = .ok (.invokevirtual 264, 3) := by decide +kernel
theorem dX6_clear_4 : decode cX6_clear 4 = .ok (.istore_n 1, 1) := by decide +kernel
theorem dX6_clear_5 : decode cX6_clear 5 = .ok (.iconst 0, 1) := by decide +kernel
theorem dX6_clear_6 : decode cX6_clear 6 = .ok (.istore_n 2, 1) := by decide +kernel
theorem dX6_clear_7 : decode cX6_clear 7 = .ok (.iload_n 2, 1) := by decide +kernel
theorem dX6_clear_8 : decode cX6_clear 8 = .ok (.bipush 16, 2) := by decide +kernel
theorem dX6_clear_10 : decode cX6_clear 10 = .ok (.if_icmp .ge 16, 3) := by decide +kernel
theorem dX6_clear_13 : decode cX6_clear 13 = .ok (.aload_n 0, 1) := by decide +kernel
theorem dX6_clear_14 : decode cX6_clear 14 = .ok (.getfield 31, 3) := by decide +kernel
theorem dX6_clear_17 : decode cX6_clear 17 = .ok (.iload_n 2, 1) := by decide +kernel
theorem dX6_clear_18 : decode cX6_clear 18 = .ok (.iconst 0, 1) := by decide +kernel
theorem dX6_clear_19 : decode cX6_clear 19 = .ok (.iastore, 1) := by decide +kernel
theorem dX6_clear_20 : decode cX6_clear 20 = .ok (.iinc 2 1, 3) := by decide +kernel
theorem dX6_clear_23 : decode cX6_clear 23 = .ok (.goto (-16), 3) := by decide +kernel
theorem dX6_clear_26 : decode cX6_clear 26 = .ok (.aload_n 0, 1) := by decide +kernel
theorem dX6_clear_27 : decode cX6_clear 27 = .ok (.iconst 1, 1) := by decide +kernel
theorem dX6_clear_28 : decode cX6_clear 28 = .ok (.putfield 72, 3) := by decide +kernel
theorem dX6_clear_31 : decode cX6_clear 31 = .ok (.iload_n 1, 1) := by decide +kernel
theorem dX6_clear_32 : decode cX6_clear 32 = .ok (.ireturn, 1) := by decide +kernel
theorem dX6_clue_0 : decode cX6_clue 0 = .ok (.aload_n 0, 1) := by decide +kernel
theorem dX6_clue_1 : decode cX6_clue 1 = .ok (.iload_n 1, 1) := by decide +kernel
theorem dX6_clue_2 : decode cX6_clue 2 = .ok (.invokevirtual 180, 3) := by decide +kernel
theorem dX6_clue_5 : decode cX6_clue 5 = .ok (.ifCond .ne 6, 3) := by decide +kernel
theorem dX6_clue_8 : decode cX6_clue 8 = .ok (.bipush (-101), 2) := by decide +kernel
theorem dX6_clue_10 : decode cX6_clue 10 = .ok (.ireturn, 1) := by decide +kernel
theorem dX6_clue_11 : decode cX6_clue 11 = .ok (.iload_n 2, 1) := by decide +kernel
theorem dX6_clue_12 : decode cX6_clue 12 = .ok (.i2l, 1) := by decide +kernel
theorem dX6_clue_13 : decode cX6_clue 13 = .ok (.lconst 0, 1) := by decide +kernel
theorem dX6_clue_14 : decode cX6_clue 14 = .ok (.ldc2_w 260, 3) := by decide +kernel
theorem dX6_clue_17 : decode cX6_clue 17 = .ok (.invokestatic 78, 3) := by decide +kernel
theorem dX6_clue_20 : decode cX6_clue 20 = .ok (.ifCond .eq 49, 3) := by decide +kernel
theorem dX6_clue_23 : decode cX6_clue 23 = .ok (.iload_n 3, 1) := by decide +kernel
theorem dX6_clue_24 : decode cX6_clue 24 = .ok (.i2l, 1) := by decide +kernel
theorem dX6_clue_25 : decode cX6_clue 25 = .ok (.lconst 0, 1) := by decide +kernel
theorem dX6_clue_26 : decode cX6_clue 26 = .ok (.aload_n 0, 1) := by decide +kernel
theorem dX6_clue_27 : decode cX6_clue 27 = .ok (.iload_n 1, 1) := by decide +kernel
theorem dX6_clue_28 : decode cX6_clue 28 = .ok (.invokevirtual 183, 3) := by decide +kernel
theorem dX6_clue_31 : decode cX6_clue 31 = .ok (.i2l, 1) := by decide +kernel
theorem dX6_clue_32 : decode cX6_clue 32 = .ok (.invokestatic 78, 3) := by decide +kernel
theorem dX6_clue_35 : decode cX6_clue 35 = .ok (.ifCond .eq 34, 3) := by decide +kernel
theorem dX6_clue_38 : decode cX6_clue 38 = .ok (.iload 4, 2) := by decide +kernel
theorem dX6_clue_40 : decode cX6_clue 40 = .ok (.i2l, 1) := by decide +kernel
theorem dX6_clue_41 : decode cX6_clue 41 = .ok (.lconst 0, 1) := by decide +kernel
theorem dX6_clue_42 : decode cX6_clue 42 = .ok (.iload_n 2, 1) := by decide +kernel
theorem dX6_clue_43 : decode cX6_clue 43 = .ok (.invokestatic 105, 3) := by decide +kernel
theorem dX6_clue_46 : decode cX6_clue 46 = .ok (.ifCond .eq 16, 3) := by decide +kernel
theorem dX6_clue_49 : decode cX6_clue 49 = .ok (.iload_n 3, 1) := by decide +kernel
theorem dX6_clue_50 : decode cX6_clue 50 = .ok (.aload_n 0, 1) := by decide +kernel
theorem dX6_clue_51 : decode cX6_clue 51 = .ok (.iload_n 1, 1) := by decide +kernel
theorem dX6_clue_52 : decode cX6_clue 52 = .ok (.invokevirtual 183, 3) := by decide +kernel
theorem dX6_clue_55 : decode cX6_clue 55 = .ok (.invokestatic 112, 3) := by decide +kernel
theorem dX6_clue_58 : decode cX6_clue 58 = .ok (.i2l, 1) := by decide +kernel
theorem dX6_clue_59 : decode cX6_clue 59 = .ok (.goto 4, 3) := by decide +kernel
theorem dX6_clue_62 : decode cX6_clue 62 = .ok (.lconst 0, 1) := by decide +kernel
theorem dX6_clue_63 : decode cX6_clue 63 = .ok (.invokestatic 78, 3) := by decide +kernel
theorem dX6_clue_66 : decode cX6_clue 66 = .ok (.ifCond .ne 6, 3) := by decide +kernel
theorem dX6_clue_69 : decode cX6_clue 69 = .ok (.bipush (-102), 2) := by decide +kernel
theorem dX6_clue_71 : decode cX6_clue 71 = .ok (.ireturn, 1) := by decide +kernel
theorem dX6_clue_72 : decode cX6_clue 72 = .ok (.aload_n 0, 1) := by decide +kernel
theorem dX6_clue_73 : decode cX6_clue 73 = .ok (.getfield 22, 3) := by decide +kernel
theorem dX6_clue_76 : decode cX6_clue 76 = .ok (.iload_n 1, 1) := by decide +kernel
theorem dX6_clue_77 : decode cX6_clue 77 = .ok (.iaload, 1) := by decide +kernel
theorem dX6_clue_78 : decode cX6_clue 78 = .ok (.istore 5, 2) := by decide +kernel
theorem dX6_clue_80 : decode cX6_clue 80 = .ok (.aload_n 0, 1) := by decide +kernel
theorem dX6_clue_81 : decode cX6_clue 81 = .ok (.getfield 22, 3) := by decide +kernel
theorem dX6_clue_84 : decode cX6_clue 84 = .ok (.iload_n 1, 1) := by decide +kernel
theorem dX6_clue_85 : decode cX6_clue 85 = .ok (.iload_n 2, 1) := by decide +kernel
theorem dX6_clue_86 : decode cX6_clue 86 = .ok (.iastore, 1) := by decide +kernel
theorem dX6_clue_87 : decode cX6_clue 87 = .ok (.aload_n 0, 1) := by decide +kernel
theorem dX6_clue_88 : decode cX6_clue 88 = .ok (.getfield 25, 3) := by decide +kernel
theorem dX6_clue_91 : decode cX6_clue 91 = .ok (.iload_n 1, 1) := by decide +kernel
theorem dX6_clue_92 : decode cX6_clue 92 = .ok (.iload_n 3, 1) := by decide +kernel
theorem dX6_clue_93 : decode cX6_clue 93 = .ok (.iastore, 1) := by decide +kernel
theorem dX6_clue_94 : decode cX6_clue 94 = .ok (.aload_n 0, 1) := by decide +kernel
theorem dX6_clue_95 : decode cX6_clue 95 = .ok (.getfield 28, 3) := by decide +kernel
theorem dX6_clue_98 : decode cX6_clue 98 = .ok (.iload_n 1, 1) := by decide +kernel
theorem dX6_clue_99 : decode cX6_clue 99 = .ok (.iload 4, 2) := by decide +kernel
theorem dX6_clue_101 : decode cX6_clue 101 = .ok (.iastore, 1) := by decide +kernel
theorem dX6_clue_102 : decode cX6_clue 102 = .ok (.aload_n 0, 1) := by decide +kernel
theorem dX6_clue_103 : decode cX6_clue 103 = .ok (.iconst 1, 1) := by decide +kernel
theorem dX6_clue_104 : decode cX6_clue 104 = .ok (.putfield 72, 3) := by decide +kernel
theorem dX6_clue_107 : decode cX6_clue 107 = .ok (.iload 5, 2) := by decide +kernel
theorem dX6_clue_109 : decode cX6_clue 109 = .ok (.ireturn, 1) := by decide +kernel
theorem dX6_bestCell_0 : decode cX6_bestCell 0 = .ok (.iconst (-1), 1) := by decide +kernel
theorem dX6_bestCell_1 : decode cX6_bestCell 1 = .ok (.istore 4, 2) := by decide +kernel
theorem dX6_bestCell_3 : decode cX6_bestCell 3 = .ok (.ldc_w 267, 3) := by decide +kernel
theorem dX6_bestCell_6 : decode cX6_bestCell 6 = .ok (.istore 5, 2) := by decide +kernel
theorem dX6_bestCell_8 : decode cX6_bestCell 8 = .ok (.iconst 0, 1) := by decide +kernel
theorem dX6_bestCell_9 : decode cX6_bestCell 9 = .ok (.istore 6, 2) := by decide +kernel
theorem dX6_bestCell_11 : decode cX6_bestCell 11 = .ok (.iload 6, 2) := by decide +kernel
theorem dX6_bestCell_13 : decode cX6_bestCell 13 = .ok (.aload_n 0, 1) := by decide +kernel
theorem dX6_bestCell_14 : decode cX6_bestCell 14 = .ok (.getfield 141, 3) := by decide +kernel
theorem dX6_bestCell_17 : decode cX6_bestCell 17 = .ok (.aload_n 0, 1) := by decide +kernel
theorem dX6_bestCell_18 : decode cX6_bestCell 18 = .ok (.getfield 144, 3) := by decide +kernel
theorem dX6_bestCell_21 : decode cX6_bestCell 21 = .ok (.imul, 1) := by decide +kernel
theorem dX6_bestCell_22 : decode cX6_bestCell 22 = .ok (.if_icmp .ge 65, 3) := by decide +kernel
theorem dX6_bestCell_25 : decode cX6_bestCell 25 = .ok (.iload_n 2, 1) := by decide +kernel
theorem dX6_bestCell_26 : decode cX6_bestCell 26 = .ok (.ifCond .le 61, 3) := by decide +kernel
theorem dX6_bestCell_29 : decode cX6_bestCell 29 = .ok (.aload_n 1, 1) := by decide +kernel
theorem dX6_bestCell_30 : decode cX6_bestCell 30 = .ok (.iload 6, 2) := by decide +kernel
theorem dX6_bestCell_32 : decode cX6_bestCell 32 = .ok (.iaload, 1) := by decide +kernel
theorem dX6_bestCell_33 : decode cX6_bestCell 33 = .ok (.iload_n 2, 1) := by decide +kernel
theorem dX6_bestCell_34 : decode cX6_bestCell 34 = .ok (.aload_n 1, 1) := by decide +kernel
theorem dX6_bestCell_35 : decode cX6_bestCell 35 = .ok (.iload 6, 2) := by decide +kernel
theorem dX6_bestCell_37 : decode cX6_bestCell 37 = .ok (.iaload, 1) := by decide +kernel
theorem dX6_bestCell_38 : decode cX6_bestCell 38 = .ok (.isub, 1) := by decide +kernel
theorem dX6_bestCell_39 : decode cX6_bestCell 39 = .ok (.if_icmp .le 10, 3) := by decide +kernel
theorem dX6_bestCell_42 : decode cX6_bestCell 42 = .ok (.aload_n 1, 1) := by decide +kernel
theorem dX6_bestCell_43 : decode cX6_bestCell 43 = .ok (.iload 6, 2) := by decide +kernel
theorem dX6_bestCell_45 : decode cX6_bestCell 45 = .ok (.iaload, 1) := by decide +kernel
theorem dX6_bestCell_46 : decode cX6_bestCell 46 = .ok (.goto 9, 3) := by decide +kernel
theorem dX6_bestCell_49 : decode cX6_bestCell 49 = .ok (.iload_n 2, 1) := by decide +kernel
theorem dX6_bestCell_50 : decode cX6_bestCell 50 = .ok (.aload_n 1, 1) := by decide +kernel
theorem dX6_bestCell_51 : decode cX6_bestCell 51 = .ok (.iload 6, 2) := by decide +kernel
theorem dX6_bestCell_53 : decode cX6_bestCell 53 = .ok (.iaload, 1) := by decide +kernel
theorem dX6_bestCell_54 : decode cX6_bestCell 54 = .ok (.isub, 1) := by decide +kernel
theorem dX6_bestCell_55 : decode cX6_bestCell 55 = .ok (.istore 7, 2) := by decide +kernel
theorem dX6_bestCell_57 : decode cX6_bestCell 57 = .ok (.iload_n 3, 1) := by decide +kernel
theorem dX6_bestCell_58 : decode cX6_bestCell 58 = .ok (.iload 6, 2) := by decide +kernel
theorem dX6_bestCell_60 : decode cX6_bestCell 60 = .ok (.ishr, 1) := by decide +kernel
theorem dX6_bestCell_61 : decode cX6_bestCell 61 = .ok (.iconst 1, 1) := by decide +kernel
theorem dX6_bestCell_62 : decode cX6_bestCell 62 = .ok (.iand, 1) := by decide +kernel
theorem dX6_bestCell_63 : decode cX6_bestCell 63 = .ok (.ifCond .ne 18, 3) := by decide +kernel
theorem dX6_bestCell_66 : decode cX6_bestCell 66 = .ok (.iload 7, 2) := by decide +kernel
theorem dX6_bestCell_68 : decode cX6_bestCell 68 = .ok (.iload 5, 2) := by decide +kernel
theorem dX6_bestCell_70 : decode cX6_bestCell 70 = .ok (.if_icmp .ge 11, 3) := by decide +kernel
theorem dX6_bestCell_73 : decode cX6_bestCell 73 = .ok (.iload 6, 2) := by decide +kernel
theorem dX6_bestCell_75 : decode cX6_bestCell 75 = .ok (.istore 4, 2) := by decide +kernel
theorem dX6_bestCell_77 : decode cX6_bestCell 77 = .ok (.iload 7, 2) := by decide +kernel
theorem dX6_bestCell_79 : decode cX6_bestCell 79 = .ok (.istore 5, 2) := by decide +kernel
theorem dX6_bestCell_81 : decode cX6_bestCell 81 = .ok (.iinc 6 1, 3) := by decide +kernel
theorem dX6_bestCell_84 : decode cX6_bestCell 84 = .ok (.goto (-73), 3) := by decide +kernel
theorem dX6_bestCell_87 : decode cX6_bestCell 87 = .ok (.iload 4, 2) := by decide +kernel
theorem dX6_bestCell_89 : decode cX6_bestCell 89 = .ok (.ireturn, 1) := by decide +kernel
theorem dX6_lookOf_0 : decode cX6_lookOf 0 = .ok (.aload_n 0, 1) := by decide +kernel
theorem dX6_lookOf_1 : decode cX6_lookOf 1 = .ok (.invokevirtual 220, 3) := by decide +kernel
theorem dX6_lookOf_4 : decode cX6_lookOf 4 = .ok (.aload_n 0, 1) := by decide +kernel
theorem dX6_lookOf_5 : decode cX6_lookOf 5 = .ok (.aload_n 0, 1) := by decide +kernel
theorem dX6_lookOf_6 : decode cX6_lookOf 6 = .ok (.getfield 38, 3) := by decide +kernel
theorem dX6_lookOf_9 : decode cX6_lookOf 9 = .ok (.aload_n 0, 1) := by decide +kernel
theorem dX6_lookOf_10 : decode cX6_lookOf 10 = .ok (.getfield 201, 3) := by decide +kernel
theorem dX6_lookOf_13 : decode cX6_lookOf 13 = .ok (.aload_n 0, 1) := by decide +kernel
theorem dX6_lookOf_14 : decode cX6_lookOf 14 = .ok (.iconst 1, 1) := by decide +kernel
theorem dX6_lookOf_15 : decode cX6_lookOf 15 = .ok (.invokevirtual 204, 3) := by decide +kernel
theorem dX6_lookOf_18 : decode cX6_lookOf 18 = .ok (.aload_n 0, 1) := by decide +kernel
theorem dX6_lookOf_19 : decode cX6_lookOf 19 = .ok (.iconst 2, 1) := by decide +kernel
theorem dX6_lookOf_20 : decode cX6_lookOf 20 = .ok (.invokevirtual 204, 3) := by decide +kernel
theorem dX6_lookOf_23 : decode cX6_lookOf 23 = .ok (.ior, 1) := by decide +kernel
theorem dX6_lookOf_24 : decode cX6_lookOf 24 = .ok (.invokevirtual 268, 3) := by decide +kernel
theorem dX6_lookOf_27 : decode cX6_lookOf 27 = .ok (.ireturn, 1) := by decide +kernel
theorem dX6_look_0 : decode cX6_look 0 = .ok (.aload_n 0, 1) := by decide +kernel
theorem dX6_look_1 : decode cX6_look 1 = .ok (.invokevirtual 223, 3) := by decide +kernel
theorem dX6_look_4 : decode cX6_look 4 = .ok (.ifCond .eq 8, 3) := by decide +kernel
theorem dX6_look_7 : decode cX6_look 7 = .ok (.bipush (-103), 2) := by decide +kernel
theorem dX6_look_9 : decode cX6_look 9 = .ok (.goto 7, 3) := by decide +kernel
theorem dX6_look_12 : decode cX6_look 12 = .ok (.aload_n 0, 1) := by decide +kernel
theorem dX6_look_13 : decode cX6_look 13 = .ok (.invokevirtual 272, 3) := by decide +kernel
theorem dX6_look_16 : decode cX6_look 16 = .ok (.ireturn, 1) := by decide +kernel
theorem dX6_oddsOf_0 : decode cX6_oddsOf 0 = .ok (.aload_n 0, 1) := by decide +kernel
theorem dX6_oddsOf_1 : decode cX6_oddsOf 1 = .ok (.invokevirtual 220, 3) := by decide +kernel
theorem dX6_oddsOf_4 : decode cX6_oddsOf 4 = .ok (.aload_n 0, 1) := by decide +kernel
theorem dX6_oddsOf_5 : decode cX6_oddsOf 5 = .ok (.getfield 201, 3) := by decide +kernel
theorem dX6_oddsOf_8 : decode cX6_oddsOf 8 = .ok (.ifCond .ne 5, 3) := by decide +kernel
theorem dX6_oddsOf_11 : decode cX6_oddsOf 11 = .ok (.iload_n 2, 1) := by decide +kernel
theorem dX6_oddsOf_12 : decode cX6_oddsOf 12 = .ok (.ireturn, 1) := by decide +kernel
theorem dX6_oddsOf_13 : decode cX6_oddsOf 13 = .ok (.aload_n 0, 1) := by decide +kernel
theorem dX6_oddsOf_14 : decode cX6_oddsOf 14 = .ok (.getfield 201, 3) := by decide +kernel
theorem dX6_oddsOf_17 : decode cX6_oddsOf 17 = .ok (.istore_n 3, 1) := by decide +kernel
theorem dX6_oddsOf_18 : decode cX6_oddsOf 18 = .ok (.aload_n 0, 1) := by decide +kernel
theorem dX6_oddsOf_19 : decode cX6_oddsOf 19 = .ok (.getfield 38, 3) := by decide +kernel
theorem dX6_oddsOf_22 : decode cX6_oddsOf 22 = .ok (.iload_n 1, 1) := by decide +kernel
theorem dX6_oddsOf_23 : decode cX6_oddsOf 23 = .ok (.iaload, 1) := by decide +kernel
theorem dX6_oddsOf_24 : decode cX6_oddsOf 24 = .ok (.istore 4, 2) := by decide +kernel
theorem dX6_oddsOf_26 : decode cX6_oddsOf 26 = .ok (.iload 4, 2) := by decide +kernel
theorem dX6_oddsOf_28 : decode cX6_oddsOf 28 = .ok (.ifCond .le 19, 3) := by decide +kernel
theorem dX6_oddsOf_31 : decode cX6_oddsOf 31 = .ok (.iload_n 3, 1) := by decide +kernel
theorem dX6_oddsOf_32 : decode cX6_oddsOf 32 = .ok (.iload 4, 2) := by decide +kernel
theorem dX6_oddsOf_34 : decode cX6_oddsOf 34 = .ok (.irem, 1) := by decide +kernel
theorem dX6_oddsOf_35 : decode cX6_oddsOf 35 = .ok (.istore 5, 2) := by decide +kernel
theorem dX6_oddsOf_37 : decode cX6_oddsOf 37 = .ok (.iload 4, 2) := by decide +kernel
theorem dX6_oddsOf_39 : decode cX6_oddsOf 39 = .ok (.istore_n 3, 1) := by decide +kernel
theorem dX6_oddsOf_40 : decode cX6_oddsOf 40 = .ok (.iload 5, 2) := by decide +kernel
theorem dX6_oddsOf_42 : decode cX6_oddsOf 42 = .ok (.istore 4, 2) := by decide +kernel
theorem dX6_oddsOf_44 : decode cX6_oddsOf 44 = .ok (.goto (-18), 3) := by decide +kernel
theorem dX6_oddsOf_47 : decode cX6_oddsOf 47 = .ok (.iload_n 2, 1) := by decide +kernel
theorem dX6_oddsOf_48 : decode cX6_oddsOf 48 = .ok (.ifCond .ne 14, 3) := by decide +kernel
theorem dX6_oddsOf_51 : decode cX6_oddsOf 51 = .ok (.aload_n 0, 1) := by decide +kernel
theorem dX6_oddsOf_52 : decode cX6_oddsOf 52 = .ok (.getfield 38, 3) := by decide +kernel
theorem dX6_oddsOf_55 : decode cX6_oddsOf 55 = .ok (.iload_n 1, 1) := by decide +kernel
theorem dX6_oddsOf_56 : decode cX6_oddsOf 56 = .ok (.iaload, 1) := by decide +kernel
theorem dX6_oddsOf_57 : decode cX6_oddsOf 57 = .ok (.iload_n 3, 1) := by decide +kernel
theorem dX6_oddsOf_58 : decode cX6_oddsOf 58 = .ok (.idiv, 1) := by decide +kernel
theorem dX6_oddsOf_59 : decode cX6_oddsOf 59 = .ok (.goto 9, 3) := by decide +kernel
theorem dX6_oddsOf_62 : decode cX6_oddsOf 62 = .ok (.aload_n 0, 1) := by decide +kernel
theorem dX6_oddsOf_63 : decode cX6_oddsOf 63 = .ok (.getfield 201, 3) := by decide +kernel
theorem dX6_oddsOf_66 : decode cX6_oddsOf 66 = .ok (.iload_n 3, 1) := by decide +kernel
theorem dX6_oddsOf_67 : decode cX6_oddsOf 67 = .ok (.idiv, 1) := by decide +kernel
theorem dX6_oddsOf_68 : decode cX6_oddsOf 68 = .ok (.ireturn, 1) := by decide +kernel
theorem dX6_odds_0 : decode cX6_odds 0 = .ok (.aload_n 0, 1) := by decide +kernel
theorem dX6_odds_1 : decode cX6_odds 1 = .ok (.iload_n 1, 1) := by decide +kernel
theorem dX6_odds_2 : decode cX6_odds 2 = .ok (.invokevirtual 242, 3) := by decide +kernel
theorem dX6_odds_5 : decode cX6_odds 5 = .ok (.ifCond .ne 6, 3) := by decide +kernel
theorem dX6_odds_8 : decode cX6_odds 8 = .ok (.bipush (-101), 2) := by decide +kernel
theorem dX6_odds_10 : decode cX6_odds 10 = .ok (.ireturn, 1) := by decide +kernel
theorem dX6_odds_11 : decode cX6_odds 11 = .ok (.iload_n 2, 1) := by decide +kernel
theorem dX6_odds_12 : decode cX6_odds 12 = .ok (.i2l, 1) := by decide +kernel
theorem dX6_odds_13 : decode cX6_odds 13 = .ok (.lconst 0, 1) := by decide +kernel
theorem dX6_odds_14 : decode cX6_odds 14 = .ok (.lconst 1, 1) := by decide +kernel
theorem dX6_odds_15 : decode cX6_odds 15 = .ok (.invokestatic 78, 3) := by decide +kernel
theorem dX6_odds_18 : decode cX6_odds 18 = .ok (.ifCond .eq 12, 3) := by decide +kernel
theorem dX6_odds_21 : decode cX6_odds 21 = .ok (.aload_n 0, 1) := by decide +kernel
theorem dX6_odds_22 : decode cX6_odds 22 = .ok (.iload_n 1, 1) := by decide +kernel
theorem dX6_odds_23 : decode cX6_odds 23 = .ok (.iload_n 2, 1) := by decide +kernel
theorem dX6_odds_24 : decode cX6_odds 24 = .ok (.invokevirtual 275, 3) := by decide +kernel
theorem dX6_odds_27 : decode cX6_odds 27 = .ok (.goto 5, 3) := by decide +kernel
theorem dX6_odds_30 : decode cX6_odds 30 = .ok (.bipush (-102), 2) := by decide +kernel
theorem dX6_odds_32 : decode cX6_odds 32 = .ok (.ireturn, 1) := by decide +kernel
theorem dX6_isTelling_0 : decode cX6_isTelling 0 = .ok (.aload_n 0, 1) := by decide +kernel
theorem dX6_isTelling_1 : decode cX6_isTelling 1 = .ok (.iconst (-1), 1) := by decide +kernel
theorem dX6_isTelling_2 : decode cX6_isTelling 2 = .ok (.invokevirtual 217, 3) := by decide +kernel
theorem dX6_isTelling_5 : decode cX6_isTelling 5 = .ok (.istore_n 3, 1) := by decide +kernel
theorem dX6_isTelling_6 : decode cX6_isTelling 6 = .ok (.iload_n 3, 1) := by decide +kernel
theorem dX6_isTelling_7 : decode cX6_isTelling 7 = .ok (.iconst (-1), 1) := by decide +kernel
theorem dX6_isTelling_8 : decode cX6_isTelling 8 = .ok (.if_icmp .eq 27, 3) := by decide +kernel
theorem dX6_isTelling_11 : decode cX6_isTelling 11 = .ok (.iload_n 3, 1) := by decide +kernel
theorem dX6_isTelling_12 : decode cX6_isTelling 12 = .ok (.iload_n 1, 1) := by decide +kernel
theorem dX6_isTelling_13 : decode cX6_isTelling 13 = .ok (.if_icmp .eq 13, 3) := by decide +kernel
theorem dX6_isTelling_16 : decode cX6_isTelling 16 = .ok (.iload_n 3, 1) := by decide +kernel
theorem dX6_isTelling_17 : decode cX6_isTelling 17 = .ok (.iload_n 1, 1) := by decide +kernel
theorem dX6_isTelling_18 : decode cX6_isTelling 18 = .ok (.ixor, 1) := by decide +kernel
theorem dX6_isTelling_19 : decode cX6_isTelling 19 = .ok (.iload_n 2, 1) := by decide +kernel
theorem dX6_isTelling_20 : decode cX6_isTelling 20 = .ok (.iand, 1) := by decide +kernel
theorem dX6_isTelling_21 : decode cX6_isTelling 21 = .ok (.ifCond .ne 5, 3) := by decide +kernel
theorem dX6_isTelling_24 : decode cX6_isTelling 24 = .ok (.iconst 0, 1) := by decide +kernel
theorem dX6_isTelling_25 : decode cX6_isTelling 25 = .ok (.ireturn, 1) := by decide +kernel
theorem dX6_isTelling_26 : decode cX6_isTelling 26 = .ok (.aload_n 0, 1) := by decide +kernel
theorem dX6_isTelling_27 : decode cX6_isTelling 27 = .ok (.iload_n 3, 1) := by decide +kernel
theorem dX6_isTelling_28 : decode cX6_isTelling 28 = .ok (.invokevirtual 217, 3) := by decide +kernel
theorem dX6_isTelling_31 : decode cX6_isTelling 31 = .ok (.istore_n 3, 1) := by decide +kernel
theorem dX6_isTelling_32 : decode cX6_isTelling 32 = .ok (.goto (-26), 3) := by decide +kernel
theorem dX6_isTelling_35 : decode cX6_isTelling 35 = .ok (.iconst 1, 1) := by decide +kernel
theorem dX6_isTelling_36 : decode cX6_isTelling 36 = .ok (.ireturn, 1) := by decide +kernel
theorem dX6_telling_0 : decode cX6_telling 0 = .ok (.iconst 0, 1) := by decide +kernel
theorem dX6_telling_1 : decode cX6_telling 1 = .ok (.istore 4, 2) := by decide +kernel
theorem dX6_telling_3 : decode cX6_telling 3 = .ok (.iconst 0, 1) := by decide +kernel
theorem dX6_telling_4 : decode cX6_telling 4 = .ok (.istore 5, 2) := by decide +kernel
theorem dX6_telling_6 : decode cX6_telling 6 = .ok (.iload 5, 2) := by decide +kernel
theorem dX6_telling_8 : decode cX6_telling 8 = .ok (.bipush 16, 2) := by decide +kernel
theorem dX6_telling_10 : decode cX6_telling 10 = .ok (.if_icmp .ge 129, 3) := by decide +kernel
theorem dX6_telling_13 : decode cX6_telling 13 = .ok (.iload_n 2, 1) := by decide +kernel
theorem dX6_telling_14 : decode cX6_telling 14 = .ok (.iconst 1, 1) := by decide +kernel
theorem dX6_telling_15 : decode cX6_telling 15 = .ok (.if_icmp .le 10, 3) := by decide +kernel
theorem dX6_telling_18 : decode cX6_telling 18 = .ok (.iload 5, 2) := by decide +kernel
theorem dX6_telling_20 : decode cX6_telling 20 = .ok (.iconst 1, 1) := by decide +kernel
theorem dX6_telling_21 : decode cX6_telling 21 = .ok (.iadd, 1) := by decide +kernel
theorem dX6_telling_22 : decode cX6_telling 22 = .ok (.goto 5, 3) := by decide +kernel
theorem dX6_telling_25 : decode cX6_telling 25 = .ok (.bipush 15, 2) := by decide +kernel
theorem dX6_telling_27 : decode cX6_telling 27 = .ok (.istore 6, 2) := by decide +kernel
theorem dX6_telling_29 : decode cX6_telling 29 = .ok (.iload 6, 2) := by decide +kernel
theorem dX6_telling_31 : decode cX6_telling 31 = .ok (.bipush 16, 2) := by decide +kernel
theorem dX6_telling_33 : decode cX6_telling 33 = .ok (.if_icmp .ge 100, 3) := by decide +kernel
theorem dX6_telling_36 : decode cX6_telling 36 = .ok (.iload_n 2, 1) := by decide +kernel
theorem dX6_telling_37 : decode cX6_telling 37 = .ok (.iconst 2, 1) := by decide +kernel
theorem dX6_telling_38 : decode cX6_telling 38 = .ok (.if_icmp .le 10, 3) := by decide +kernel
theorem dX6_telling_41 : decode cX6_telling 41 = .ok (.iload 6, 2) := by decide +kernel
theorem dX6_telling_43 : decode cX6_telling 43 = .ok (.iconst 1, 1) := by decide +kernel
theorem dX6_telling_44 : decode cX6_telling 44 = .ok (.iadd, 1) := by decide +kernel
theorem dX6_telling_45 : decode cX6_telling 45 = .ok (.goto 5, 3) := by decide +kernel
theorem dX6_telling_48 : decode cX6_telling 48 = .ok (.bipush 15, 2) := by decide +kernel
theorem dX6_telling_50 : decode cX6_telling 50 = .ok (.istore 7, 2) := by decide +kernel
theorem dX6_telling_52 : decode cX6_telling 52 = .ok (.iload 7, 2) := by decide +kernel
theorem dX6_telling_54 : decode cX6_telling 54 = .ok (.bipush 16, 2) := by decide +kernel
theorem dX6_telling_56 : decode cX6_telling 56 = .ok (.if_icmp .ge 71, 3) := by decide +kernel
theorem dX6_telling_59 : decode cX6_telling 59 = .ok (.iconst 1, 1) := by decide +kernel
theorem dX6_telling_60 : decode cX6_telling 60 = .ok (.iload 5, 2) := by decide +kernel
theorem dX6_telling_62 : decode cX6_telling 62 = .ok (.ishl, 1) := by decide +kernel
theorem dX6_telling_63 : decode cX6_telling 63 = .ok (.iload_n 2, 1) := by decide +kernel
theorem dX6_telling_64 : decode cX6_telling 64 = .ok (.iconst 1, 1) := by decide +kernel
theorem dX6_telling_65 : decode cX6_telling 65 = .ok (.if_icmp .le 10, 3) := by decide +kernel
theorem dX6_telling_68 : decode cX6_telling 68 = .ok (.iconst 1, 1) := by decide +kernel
theorem dX6_telling_69 : decode cX6_telling 69 = .ok (.iload 6, 2) := by decide +kernel
theorem dX6_telling_71 : decode cX6_telling 71 = .ok (.ishl, 1) := by decide +kernel
theorem dX6_telling_72 : decode cX6_telling 72 = .ok (.goto 4, 3) := by decide +kernel
theorem dX6_telling_75 : decode cX6_telling 75 = .ok (.iconst 0, 1) := by decide +kernel
theorem dX6_telling_76 : decode cX6_telling 76 = .ok (.ior, 1) := by decide +kernel
theorem dX6_telling_77 : decode cX6_telling 77 = .ok (.iload_n 2, 1) := by decide +kernel
theorem dX6_telling_78 : decode cX6_telling 78 = .ok (.iconst 2, 1) := by decide +kernel
theorem dX6_telling_79 : decode cX6_telling 79 = .ok (.if_icmp .le 10, 3) := by decide +kernel
theorem dX6_telling_82 : decode cX6_telling 82 = .ok (.iconst 1, 1) := by decide +kernel
theorem dX6_telling_83 : decode cX6_telling 83 = .ok (.iload 7, 2) := by decide +kernel
theorem dX6_telling_85 : decode cX6_telling 85 = .ok (.ishl, 1) := by decide +kernel
theorem dX6_telling_86 : decode cX6_telling 86 = .ok (.goto 4, 3) := by decide +kernel
theorem dX6_telling_89 : decode cX6_telling 89 = .ok (.iconst 0, 1) := by decide +kernel
theorem dX6_telling_90 : decode cX6_telling 90 = .ok (.ior, 1) := by decide +kernel
theorem dX6_telling_91 : decode cX6_telling 91 = .ok (.istore 8, 2) := by decide +kernel
theorem dX6_telling_93 : decode cX6_telling 93 = .ok (.iload 4, 2) := by decide +kernel
theorem dX6_telling_95 : decode cX6_telling 95 = .ok (.ifCond .ne 26, 3) := by decide +kernel
theorem dX6_telling_98 : decode cX6_telling 98 = .ok (.iload 8, 2) := by decide +kernel
theorem dX6_telling_100 : decode cX6_telling 100 = .ok (.iload_n 3, 1) := by decide +kernel
theorem dX6_telling_101 : decode cX6_telling 101 = .ok (.iconst (-1), 1) := by decide +kernel
theorem dX6_telling_102 : decode cX6_telling 102 = .ok (.ixor, 1) := by decide +kernel
theorem dX6_telling_103 : decode cX6_telling 103 = .ok (.iand, 1) := by decide +kernel
theorem dX6_telling_104 : decode cX6_telling 104 = .ok (.ifCond .ne 17, 3) := by decide +kernel
theorem dX6_telling_107 : decode cX6_telling 107 = .ok (.aload_n 0, 1) := by decide +kernel
theorem dX6_telling_108 : decode cX6_telling 108 = .ok (.iload_n 1, 1) := by decide +kernel
theorem dX6_telling_109 : decode cX6_telling 109 = .ok (.iload 8, 2) := by decide +kernel
theorem dX6_telling_111 : decode cX6_telling 111 = .ok (.invokevirtual 278, 3) := by decide +kernel
theorem dX6_telling_114 : decode cX6_telling 114 = .ok (.ifCond .eq 7, 3) := by decide +kernel
theorem dX6_telling_117 : decode cX6_telling 117 = .ok (.iload 8, 2) := by decide +kernel
theorem dX6_telling_119 : decode cX6_telling 119 = .ok (.istore 4, 2) := by decide +kernel
theorem dX6_telling_121 : decode cX6_telling 121 = .ok (.iinc 7 1, 3) := by decide +kernel
theorem dX6_telling_124 : decode cX6_telling 124 = .ok (.goto (-72), 3) := by decide +kernel
theorem dX6_telling_127 : decode cX6_telling 127 = .ok (.iinc 6 1, 3) := by decide +kernel
theorem dX6_telling_130 : decode cX6_telling 130 = .ok (.goto (-101), 3) := by decide +kernel
theorem dX6_telling_133 : decode cX6_telling 133 = .ok (.iinc 5 1, 3) := by decide +kernel
theorem dX6_telling_136 : decode cX6_telling 136 = .ok (.goto (-130), 3) := by decide +kernel
theorem dX6_telling_139 : decode cX6_telling 139 = .ok (.iload 4, 2) := by decide +kernel
theorem dX6_telling_141 : decode cX6_telling 141 = .ok (.ireturn, 1) := by decide +kernel
theorem dX6_hintsOf_0 : decode cX6_hintsOf 0 = .ok (.aload_n 0, 1) := by decide +kernel
theorem dX6_hintsOf_1 : decode cX6_hintsOf 1 = .ok (.getfield 201, 3) := by decide +kernel
theorem dX6_hintsOf_4 : decode cX6_hintsOf 4 = .ok (.iconst 1, 1) := by decide +kernel
theorem dX6_hintsOf_5 : decode cX6_hintsOf 5 = .ok (.if_icmp .ne 13, 3) := by decide +kernel
theorem dX6_hintsOf_8 : decode cX6_hintsOf 8 = .ok (.iload_n 2, 1) := by decide +kernel
theorem dX6_hintsOf_9 : decode cX6_hintsOf 9 = .ok (.ifCond .ne 7, 3) := by decide +kernel
theorem dX6_hintsOf_12 : decode cX6_hintsOf 12 = .ok (.iconst 0, 1) := by decide +kernel
theorem dX6_hintsOf_13 : decode cX6_hintsOf 13 = .ok (.goto 4, 3) := by decide +kernel
theorem dX6_hintsOf_16 : decode cX6_hintsOf 16 = .ok (.iconst (-1), 1) := by decide +kernel
theorem dX6_hintsOf_17 : decode cX6_hintsOf 17 = .ok (.ireturn, 1) := by decide +kernel
theorem dX6_hintsOf_18 : decode cX6_hintsOf 18 = .ok (.iconst 1, 1) := by decide +kernel
theorem dX6_hintsOf_19 : decode cX6_hintsOf 19 = .ok (.aload_n 0, 1) := by decide +kernel
theorem dX6_hintsOf_20 : decode cX6_hintsOf 20 = .ok (.getfield 141, 3) := by decide +kernel
theorem dX6_hintsOf_23 : decode cX6_hintsOf 23 = .ok (.aload_n 0, 1) := by decide +kernel
theorem dX6_hintsOf_24 : decode cX6_hintsOf 24 = .ok (.getfield 144, 3) := by decide +kernel
theorem dX6_hintsOf_27 : decode cX6_hintsOf 27 = .ok (.imul, 1) := by decide +kernel
theorem dX6_hintsOf_28 : decode cX6_hintsOf 28 = .ok (.ishl, 1) := by decide +kernel
theorem dX6_hintsOf_29 : decode cX6_hintsOf 29 = .ok (.iconst 1, 1) := by decide +kernel
theorem dX6_hintsOf_30 : decode cX6_hintsOf 30 = .ok (.isub, 1) := by decide +kernel
theorem dX6_hintsOf_31 : decode cX6_hintsOf 31 = .ok (.aload_n 0, 1) := by decide +kernel
theorem dX6_hintsOf_32 : decode cX6_hintsOf 32 = .ok (.iconst 1, 1) := by decide +kernel
theorem dX6_hintsOf_33 : decode cX6_hintsOf 33 = .ok (.invokevirtual 204, 3) := by decide +kernel
theorem dX6_hintsOf_36 : decode cX6_hintsOf 36 = .ok (.isub, 1) := by decide +kernel
theorem dX6_hintsOf_37 : decode cX6_hintsOf 37 = .ok (.aload_n 0, 1) := by decide +kernel
theorem dX6_hintsOf_38 : decode cX6_hintsOf 38 = .ok (.iconst 2, 1) := by decide +kernel
theorem dX6_hintsOf_39 : decode cX6_hintsOf 39 = .ok (.invokevirtual 204, 3) := by decide +kernel
theorem dX6_hintsOf_42 : decode cX6_hintsOf 42 = .ok (.isub, 1) := by decide +kernel
theorem dX6_hintsOf_43 : decode cX6_hintsOf 43 = .ok (.istore_n 3, 1) := by decide +kernel
theorem dX6_hintsOf_44 : decode cX6_hintsOf 44 = .ok (.iconst 1, 1) := by decide +kernel
theorem dX6_hintsOf_45 : decode cX6_hintsOf 45 = .ok (.istore 4, 2) := by decide +kernel
theorem dX6_hintsOf_47 : decode cX6_hintsOf 47 = .ok (.iload 4, 2) := by decide +kernel
theorem dX6_hintsOf_49 : decode cX6_hintsOf 49 = .ok (.iconst 4, 1) := by decide +kernel
theorem dX6_hintsOf_50 : decode cX6_hintsOf 50 = .ok (.if_icmp .ge 96, 3) := by decide +kernel
theorem dX6_hintsOf_53 : decode cX6_hintsOf 53 = .ok (.aload_n 0, 1) := by decide +kernel
theorem dX6_hintsOf_54 : decode cX6_hintsOf 54 = .ok (.iload_n 1, 1) := by decide +kernel
theorem dX6_hintsOf_55 : decode cX6_hintsOf 55 = .ok (.iload 4, 2) := by decide +kernel
theorem dX6_hintsOf_57 : decode cX6_hintsOf 57 = .ok (.iload_n 3, 1) := by decide +kernel
theorem dX6_hintsOf_58 : decode cX6_hintsOf 58 = .ok (.invokevirtual 282, 3) := by decide +kernel
theorem dX6_hintsOf_61 : decode cX6_hintsOf 61 = .ok (.istore 5, 2) := by decide +kernel
theorem dX6_hintsOf_63 : decode cX6_hintsOf 63 = .ok (.iload 5, 2) := by decide +kernel
theorem dX6_hintsOf_65 : decode cX6_hintsOf 65 = .ok (.ifCond .eq 75, 3) := by decide +kernel
theorem dX6_hintsOf_68 : decode cX6_hintsOf 68 = .ok (.iconst 0, 1) := by decide +kernel
theorem dX6_hintsOf_69 : decode cX6_hintsOf 69 = .ok (.istore 6, 2) := by decide +kernel
theorem dX6_hintsOf_71 : decode cX6_hintsOf 71 = .ok (.iconst (-1), 1) := by decide +kernel
theorem dX6_hintsOf_72 : decode cX6_hintsOf 72 = .ok (.istore 7, 2) := by decide +kernel
theorem dX6_hintsOf_74 : decode cX6_hintsOf 74 = .ok (.iconst 0, 1) := by decide +kernel
theorem dX6_hintsOf_75 : decode cX6_hintsOf 75 = .ok (.istore 8, 2) := by decide +kernel
theorem dX6_hintsOf_77 : decode cX6_hintsOf 77 = .ok (.iload 8, 2) := by decide +kernel
theorem dX6_hintsOf_79 : decode cX6_hintsOf 79 = .ok (.bipush 16, 2) := by decide +kernel
theorem dX6_hintsOf_81 : decode cX6_hintsOf 81 = .ok (.if_icmp .ge 47, 3) := by decide +kernel
theorem dX6_hintsOf_84 : decode cX6_hintsOf 84 = .ok (.iload 6, 2) := by decide +kernel
theorem dX6_hintsOf_86 : decode cX6_hintsOf 86 = .ok (.iload 5, 2) := by decide +kernel
theorem dX6_hintsOf_88 : decode cX6_hintsOf 88 = .ok (.iload 8, 2) := by decide +kernel
theorem dX6_hintsOf_90 : decode cX6_hintsOf 90 = .ok (.ishr, 1) := by decide +kernel
theorem dX6_hintsOf_91 : decode cX6_hintsOf 91 = .ok (.iconst 1, 1) := by decide +kernel
theorem dX6_hintsOf_92 : decode cX6_hintsOf 92 = .ok (.iand, 1) := by decide +kernel
theorem dX6_hintsOf_93 : decode cX6_hintsOf 93 = .ok (.iadd, 1) := by decide +kernel
theorem dX6_hintsOf_94 : decode cX6_hintsOf 94 = .ok (.istore 6, 2) := by decide +kernel
theorem dX6_hintsOf_96 : decode cX6_hintsOf 96 = .ok (.iload 5, 2) := by decide +kernel
theorem dX6_hintsOf_98 : decode cX6_hintsOf 98 = .ok (.iload 8, 2) := by decide +kernel
theorem dX6_hintsOf_100 : decode cX6_hintsOf 100 = .ok (.ishr, 1) := by decide +kernel
theorem dX6_hintsOf_101 : decode cX6_hintsOf 101 = .ok (.iconst 1, 1) := by decide +kernel
theorem dX6_hintsOf_102 : decode cX6_hintsOf 102 = .ok (.iand, 1) := by decide +kernel
theorem dX6_hintsOf_103 : decode cX6_hintsOf 103 = .ok (.iconst 1, 1) := by decide +kernel
theorem dX6_hintsOf_104 : decode cX6_hintsOf 104 = .ok (.if_icmp .ne 14, 3) := by decide +kernel
theorem dX6_hintsOf_107 : decode cX6_hintsOf 107 = .ok (.iload 6, 2) := by decide +kernel
theorem dX6_hintsOf_109 : decode cX6_hintsOf 109 = .ok (.iload_n 2, 1) := by decide +kernel
theorem dX6_hintsOf_110 : decode cX6_hintsOf 110 = .ok (.if_icmp .ne 8, 3) := by decide +kernel
theorem dX6_hintsOf_113 : decode cX6_hintsOf 113 = .ok (.iload 8, 2) := by decide +kernel
theorem dX6_hintsOf_115 : decode cX6_hintsOf 115 = .ok (.goto 5, 3) := by decide +kernel
theorem dX6_hintsOf_118 : decode cX6_hintsOf 118 = .ok (.iload 7, 2) := by decide +kernel
theorem dX6_hintsOf_120 : decode cX6_hintsOf 120 = .ok (.istore 7, 2) := by decide +kernel
theorem dX6_hintsOf_122 : decode cX6_hintsOf 122 = .ok (.iinc 8 1, 3) := by decide +kernel
theorem dX6_hintsOf_125 : decode cX6_hintsOf 125 = .ok (.goto (-48), 3) := by decide +kernel
theorem dX6_hintsOf_128 : decode cX6_hintsOf 128 = .ok (.iload_n 2, 1) := by decide +kernel
theorem dX6_hintsOf_129 : decode cX6_hintsOf 129 = .ok (.ifCond .ne 8, 3) := by decide +kernel
theorem dX6_hintsOf_132 : decode cX6_hintsOf 132 = .ok (.iload 4, 2) := by decide +kernel
theorem dX6_hintsOf_134 : decode cX6_hintsOf 134 = .ok (.goto 5, 3) := by decide +kernel
theorem dX6_hintsOf_137 : decode cX6_hintsOf 137 = .ok (.iload 7, 2) := by decide +kernel
theorem dX6_hintsOf_139 : decode cX6_hintsOf 139 = .ok (.ireturn, 1) := by decide +kernel
theorem dX6_hintsOf_140 : decode cX6_hintsOf 140 = .ok (.iinc 4 1, 3) := by decide +kernel
theorem dX6_hintsOf_143 : decode cX6_hintsOf 143 = .ok (.goto (-96), 3) := by decide +kernel
theorem dX6_hintsOf_146 : decode cX6_hintsOf 146 = .ok (.iconst (-1), 1) := by decide +kernel
theorem dX6_hintsOf_147 : decode cX6_hintsOf 147 = .ok (.ireturn, 1) := by decide +kernel
theorem dX6_hints_0 : decode cX6_hints 0 = .ok (.aload_n 0, 1) := by decide +kernel
theorem dX6_hints_1 : decode cX6_hints 1 = .ok (.invokevirtual 223, 3) := by decide +kernel
theorem dX6_hints_4 : decode cX6_hints 4 = .ok (.ifCond .ne 26, 3) := by decide +kernel
theorem dX6_hints_7 : decode cX6_hints 7 = .ok (.iload_n 1, 1) := by decide +kernel
theorem dX6_hints_8 : decode cX6_hints 8 = .ok (.i2l, 1) := by decide +kernel
theorem dX6_hints_9 : decode cX6_hints 9 = .ok (.lconst 0, 1) := by decide +kernel
theorem dX6_hints_10 : decode cX6_hints 10 = .ok (.iconst 1, 1) := by decide +kernel
theorem dX6_hints_11 : decode cX6_hints 11 = .ok (.aload_n 0, 1) := by decide +kernel
theorem dX6_hints_12 : decode cX6_hints 12 = .ok (.getfield 141, 3) := by decide +kernel
theorem dX6_hints_15 : decode cX6_hints 15 = .ok (.aload_n 0, 1) := by decide +kernel
theorem dX6_hints_16 : decode cX6_hints 16 = .ok (.getfield 144, 3) := by decide +kernel
theorem dX6_hints_19 : decode cX6_hints 19 = .ok (.imul, 1) := by decide +kernel
theorem dX6_hints_20 : decode cX6_hints 20 = .ok (.ishl, 1) := by decide +kernel
theorem dX6_hints_21 : decode cX6_hints 21 = .ok (.iconst 1, 1) := by decide +kernel
theorem dX6_hints_22 : decode cX6_hints 22 = .ok (.isub, 1) := by decide +kernel
theorem dX6_hints_23 : decode cX6_hints 23 = .ok (.i2l, 1) := by decide +kernel
theorem dX6_hints_24 : decode cX6_hints 24 = .ok (.invokestatic 78, 3) := by decide +kernel
theorem dX6_hints_27 : decode cX6_hints 27 = .ok (.ifCond .ne 6, 3) := by decide +kernel
theorem dX6_hints_30 : decode cX6_hints 30 = .ok (.bipush (-101), 2) := by decide +kernel
theorem dX6_hints_32 : decode cX6_hints 32 = .ok (.ireturn, 1) := by decide +kernel
theorem dX6_hints_33 : decode cX6_hints 33 = .ok (.aload_n 0, 1) := by decide +kernel
theorem dX6_hints_34 : decode cX6_hints 34 = .ok (.invokevirtual 220, 3) := by decide +kernel
theorem dX6_hints_37 : decode cX6_hints 37 = .ok (.aload_n 0, 1) := by decide +kernel
theorem dX6_hints_38 : decode cX6_hints 38 = .ok (.iload_n 1, 1) := by decide +kernel
theorem dX6_hints_39 : decode cX6_hints 39 = .ok (.invokevirtual 214, 3) := by decide +kernel
theorem dX6_hints_42 : decode cX6_hints 42 = .ok (.ifCond .ne 6, 3) := by decide +kernel
theorem dX6_hints_45 : decode cX6_hints 45 = .ok (.bipush (-101), 2) := by decide +kernel
theorem dX6_hints_47 : decode cX6_hints 47 = .ok (.ireturn, 1) := by decide +kernel
theorem dX6_hints_48 : decode cX6_hints 48 = .ok (.iload_n 2, 1) := by decide +kernel
theorem dX6_hints_49 : decode cX6_hints 49 = .ok (.i2l, 1) := by decide +kernel
theorem dX6_hints_50 : decode cX6_hints 50 = .ok (.lconst 0, 1) := by decide +kernel
theorem dX6_hints_51 : decode cX6_hints 51 = .ok (.ldc2_w 286, 3) := by decide +kernel
theorem dX6_hints_54 : decode cX6_hints 54 = .ok (.invokestatic 78, 3) := by decide +kernel
theorem dX6_hints_57 : decode cX6_hints 57 = .ok (.ifCond .ne 6, 3) := by decide +kernel
theorem dX6_hints_60 : decode cX6_hints 60 = .ok (.bipush (-102), 2) := by decide +kernel
theorem dX6_hints_62 : decode cX6_hints 62 = .ok (.ireturn, 1) := by decide +kernel
theorem dX6_hints_63 : decode cX6_hints 63 = .ok (.aload_n 0, 1) := by decide +kernel
theorem dX6_hints_64 : decode cX6_hints 64 = .ok (.getfield 288, 3) := by decide +kernel
theorem dX6_hints_67 : decode cX6_hints 67 = .ok (.bipush 12, 2) := by decide +kernel
theorem dX6_hints_69 : decode cX6_hints 69 = .ok (.if_icmp .ne 6, 3) := by decide +kernel
theorem dX6_hints_72 : decode cX6_hints 72 = .ok (.bipush (-103), 2) := by decide +kernel
theorem dX6_hints_74 : decode cX6_hints 74 = .ok (.ireturn, 1) := by decide +kernel
theorem dX6_hints_75 : decode cX6_hints 75 = .ok (.aload_n 0, 1) := by decide +kernel
theorem dX6_hints_76 : decode cX6_hints 76 = .ok (.dup, 1) := by decide +kernel
theorem dX6_hints_77 : decode cX6_hints 77 = .ok (.getfield 288, 3) := by decide +kernel
theorem dX6_hints_80 : decode cX6_hints 80 = .ok (.iconst 1, 1) := by decide +kernel
theorem dX6_hints_81 : decode cX6_hints 81 = .ok (.iadd, 1) := by decide +kernel
theorem dX6_hints_82 : decode cX6_hints 82 = .ok (.putfield 288, 3) := by decide +kernel
theorem dX6_hints_85 : decode cX6_hints 85 = .ok (.aload_n 0, 1) := by decide +kernel
theorem dX6_hints_86 : decode cX6_hints 86 = .ok (.iload_n 1, 1) := by decide +kernel
theorem dX6_hints_87 : decode cX6_hints 87 = .ok (.iload_n 2, 1) := by decide +kernel
theorem dX6_hints_88 : decode cX6_hints 88 = .ok (.invokevirtual 291, 3) := by decide +kernel
theorem dX6_hints_91 : decode cX6_hints 91 = .ok (.ireturn, 1) := by decide +kernel
theorem dX6_isOneBy_0 : decode cX6_isOneBy 0 = .ok (.aload_n 0, 1) := by decide +kernel
theorem dX6_isOneBy_1 : decode cX6_isOneBy 1 = .ok (.getfield 22, 3) := by decide +kernel
theorem dX6_isOneBy_4 : decode cX6_isOneBy 4 = .ok (.iload_n 1, 1) := by decide +kernel
theorem dX6_isOneBy_5 : decode cX6_isOneBy 5 = .ok (.iaload, 1) := by decide +kernel
theorem dX6_isOneBy_6 : decode cX6_isOneBy 6 = .ok (.istore 5, 2) := by decide +kernel
theorem dX6_isOneBy_8 : decode cX6_isOneBy 8 = .ok (.aload_n 0, 1) := by decide +kernel
theorem dX6_isOneBy_9 : decode cX6_isOneBy 9 = .ok (.getfield 25, 3) := by decide +kernel
theorem dX6_isOneBy_12 : decode cX6_isOneBy 12 = .ok (.iload_n 1, 1) := by decide +kernel
theorem dX6_isOneBy_13 : decode cX6_isOneBy 13 = .ok (.iaload, 1) := by decide +kernel
theorem dX6_isOneBy_14 : decode cX6_isOneBy 14 = .ok (.istore 6, 2) := by decide +kernel
theorem dX6_isOneBy_16 : decode cX6_isOneBy 16 = .ok (.aload_n 0, 1) := by decide +kernel
theorem dX6_isOneBy_17 : decode cX6_isOneBy 17 = .ok (.getfield 28, 3) := by decide +kernel
theorem dX6_isOneBy_20 : decode cX6_isOneBy 20 = .ok (.iload_n 1, 1) := by decide +kernel
theorem dX6_isOneBy_21 : decode cX6_isOneBy 21 = .ok (.iaload, 1) := by decide +kernel
theorem dX6_isOneBy_22 : decode cX6_isOneBy 22 = .ok (.istore 7, 2) := by decide +kernel
theorem dX6_isOneBy_24 : decode cX6_isOneBy 24 = .ok (.aload_n 0, 1) := by decide +kernel
theorem dX6_isOneBy_25 : decode cX6_isOneBy 25 = .ok (.getfield 22, 3) := by decide +kernel
theorem dX6_isOneBy_28 : decode cX6_isOneBy 28 = .ok (.iload_n 1, 1) := by decide +kernel
theorem dX6_isOneBy_29 : decode cX6_isOneBy 29 = .ok (.iload_n 2, 1) := by decide +kernel
theorem dX6_isOneBy_30 : decode cX6_isOneBy 30 = .ok (.iastore, 1) := by decide +kernel
theorem dX6_isOneBy_31 : decode cX6_isOneBy 31 = .ok (.aload_n 0, 1) := by decide +kernel
theorem dX6_isOneBy_32 : decode cX6_isOneBy 32 = .ok (.getfield 25, 3) := by decide +kernel
theorem dX6_isOneBy_35 : decode cX6_isOneBy 35 = .ok (.iload_n 1, 1) := by decide +kernel
theorem dX6_isOneBy_36 : decode cX6_isOneBy 36 = .ok (.iload_n 3, 1) := by decide +kernel
theorem dX6_isOneBy_37 : decode cX6_isOneBy 37 = .ok (.iastore, 1) := by decide +kernel
theorem dX6_isOneBy_38 : decode cX6_isOneBy 38 = .ok (.aload_n 0, 1) := by decide +kernel
theorem dX6_isOneBy_39 : decode cX6_isOneBy 39 = .ok (.getfield 28, 3) := by decide +kernel
theorem dX6_isOneBy_42 : decode cX6_isOneBy 42 = .ok (.iload_n 1, 1) := by decide +kernel
theorem dX6_isOneBy_43 : decode cX6_isOneBy 43 = .ok (.iload 4, 2) := by decide +kernel
theorem dX6_isOneBy_45 : decode cX6_isOneBy 45 = .ok (.iastore, 1) := by decide +kernel
theorem dX6_isOneBy_46 : decode cX6_isOneBy 46 = .ok (.aload_n 0, 1) := by decide +kernel
theorem dX6_isOneBy_47 : decode cX6_isOneBy 47 = .ok (.iconst (-1), 1) := by decide +kernel
theorem dX6_isOneBy_48 : decode cX6_isOneBy 48 = .ok (.putfield 189, 3) := by decide +kernel
theorem dX6_isOneBy_51 : decode cX6_isOneBy 51 = .ok (.aload_n 0, 1) := by decide +kernel
theorem dX6_isOneBy_52 : decode cX6_isOneBy 52 = .ok (.invokevirtual 211, 3) := by decide +kernel
theorem dX6_isOneBy_55 : decode cX6_isOneBy 55 = .ok (.aload_n 0, 1) := by decide +kernel
theorem dX6_isOneBy_56 : decode cX6_isOneBy 56 = .ok (.getfield 22, 3) := by decide +kernel
theorem dX6_isOneBy_59 : decode cX6_isOneBy 59 = .ok (.iload_n 1, 1) := by decide +kernel
theorem dX6_isOneBy_60 : decode cX6_isOneBy 60 = .ok (.iload 5, 2) := by decide +kernel
theorem dX6_isOneBy_62 : decode cX6_isOneBy 62 = .ok (.iastore, 1) := by decide +kernel
theorem dX6_isOneBy_63 : decode cX6_isOneBy 63 = .ok (.aload_n 0, 1) := by decide +kernel
theorem dX6_isOneBy_64 : decode cX6_isOneBy 64 = .ok (.getfield 25, 3) := by decide +kernel
theorem dX6_isOneBy_67 : decode cX6_isOneBy 67 = .ok (.iload_n 1, 1) := by decide +kernel
theorem dX6_isOneBy_68 : decode cX6_isOneBy 68 = .ok (.iload 6, 2) := by decide +kernel
theorem dX6_isOneBy_70 : decode cX6_isOneBy 70 = .ok (.iastore, 1) := by decide +kernel
theorem dX6_isOneBy_71 : decode cX6_isOneBy 71 = .ok (.aload_n 0, 1) := by decide +kernel
theorem dX6_isOneBy_72 : decode cX6_isOneBy 72 = .ok (.getfield 28, 3) := by decide +kernel
theorem dX6_isOneBy_75 : decode cX6_isOneBy 75 = .ok (.iload_n 1, 1) := by decide +kernel
theorem dX6_isOneBy_76 : decode cX6_isOneBy 76 = .ok (.iload 7, 2) := by decide +kernel
theorem dX6_isOneBy_78 : decode cX6_isOneBy 78 = .ok (.iastore, 1) := by decide +kernel
theorem dX6_isOneBy_79 : decode cX6_isOneBy 79 = .ok (.aload_n 0, 1) := by decide +kernel
theorem dX6_isOneBy_80 : decode cX6_isOneBy 80 = .ok (.iconst 1, 1) := by decide +kernel
theorem dX6_isOneBy_81 : decode cX6_isOneBy 81 = .ok (.putfield 72, 3) := by decide +kernel
theorem dX6_isOneBy_84 : decode cX6_isOneBy 84 = .ok (.aload_n 0, 1) := by decide +kernel
theorem dX6_isOneBy_85 : decode cX6_isOneBy 85 = .ok (.getfield 201, 3) := by decide +kernel
theorem dX6_isOneBy_88 : decode cX6_isOneBy 88 = .ok (.iconst 1, 1) := by decide +kernel
theorem dX6_isOneBy_89 : decode cX6_isOneBy 89 = .ok (.if_icmp .ne 7, 3) := by decide +kernel
theorem dX6_isOneBy_92 : decode cX6_isOneBy 92 = .ok (.iconst 1, 1) := by decide +kernel
theorem dX6_isOneBy_93 : decode cX6_isOneBy 93 = .ok (.goto 4, 3) := by decide +kernel
theorem dX6_isOneBy_96 : decode cX6_isOneBy 96 = .ok (.iconst 0, 1) := by decide +kernel
theorem dX6_isOneBy_97 : decode cX6_isOneBy 97 = .ok (.ireturn, 1) := by decide +kernel
theorem dX6_oneOf_0 : decode cX6_oneOf 0 = .ok (.iconst 0, 1) := by decide +kernel
theorem dX6_oneOf_1 : decode cX6_oneOf 1 = .ok (.istore_n 2, 1) := by decide +kernel
theorem dX6_oneOf_2 : decode cX6_oneOf 2 = .ok (.iload_n 2, 1) := by decide +kernel
theorem dX6_oneOf_3 : decode cX6_oneOf 3 = .ok (.aload_n 0, 1) := by decide +kernel
theorem dX6_oneOf_4 : decode cX6_oneOf 4 = .ok (.iload_n 1, 1) := by decide +kernel
theorem dX6_oneOf_5 : decode cX6_oneOf 5 = .ok (.invokevirtual 183, 3) := by decide +kernel
theorem dX6_oneOf_8 : decode cX6_oneOf 8 = .ok (.if_icmp .gt 71, 3) := by decide +kernel
theorem dX6_oneOf_11 : decode cX6_oneOf 11 = .ok (.aload_n 0, 1) := by decide +kernel
theorem dX6_oneOf_12 : decode cX6_oneOf 12 = .ok (.getfield 28, 3) := by decide +kernel
theorem dX6_oneOf_15 : decode cX6_oneOf 15 = .ok (.iload_n 1, 1) := by decide +kernel
theorem dX6_oneOf_16 : decode cX6_oneOf 16 = .ok (.iaload, 1) := by decide +kernel
theorem dX6_oneOf_17 : decode cX6_oneOf 17 = .ok (.iload_n 2, 1) := by decide +kernel
theorem dX6_oneOf_18 : decode cX6_oneOf 18 = .ok (.aload_n 0, 1) := by decide +kernel
theorem dX6_oneOf_19 : decode cX6_oneOf 19 = .ok (.iload_n 1, 1) := by decide +kernel
theorem dX6_oneOf_20 : decode cX6_oneOf 20 = .ok (.invokevirtual 183, 3) := by decide +kernel
theorem dX6_oneOf_23 : decode cX6_oneOf 23 = .ok (.invokestatic 112, 3) := by decide +kernel
theorem dX6_oneOf_26 : decode cX6_oneOf 26 = .ok (.if_icmp .le 7, 3) := by decide +kernel
theorem dX6_oneOf_29 : decode cX6_oneOf 29 = .ok (.iconst 0, 1) := by decide +kernel
theorem dX6_oneOf_30 : decode cX6_oneOf 30 = .ok (.goto 9, 3) := by decide +kernel
theorem dX6_oneOf_33 : decode cX6_oneOf 33 = .ok (.aload_n 0, 1) := by decide +kernel
theorem dX6_oneOf_34 : decode cX6_oneOf 34 = .ok (.getfield 28, 3) := by decide +kernel
theorem dX6_oneOf_37 : decode cX6_oneOf 37 = .ok (.iload_n 1, 1) := by decide +kernel
theorem dX6_oneOf_38 : decode cX6_oneOf 38 = .ok (.iaload, 1) := by decide +kernel
theorem dX6_oneOf_39 : decode cX6_oneOf 39 = .ok (.istore_n 3, 1) := by decide +kernel
theorem dX6_oneOf_40 : decode cX6_oneOf 40 = .ok (.iload_n 2, 1) := by decide +kernel
theorem dX6_oneOf_41 : decode cX6_oneOf 41 = .ok (.aload_n 0, 1) := by decide +kernel
theorem dX6_oneOf_42 : decode cX6_oneOf 42 = .ok (.getfield 25, 3) := by decide +kernel
theorem dX6_oneOf_45 : decode cX6_oneOf 45 = .ok (.iload_n 1, 1) := by decide +kernel
theorem dX6_oneOf_46 : decode cX6_oneOf 46 = .ok (.iaload, 1) := by decide +kernel
theorem dX6_oneOf_47 : decode cX6_oneOf 47 = .ok (.if_icmp .eq 26, 3) := by decide +kernel
theorem dX6_oneOf_50 : decode cX6_oneOf 50 = .ok (.aload_n 0, 1) := by decide +kernel
theorem dX6_oneOf_51 : decode cX6_oneOf 51 = .ok (.iload_n 1, 1) := by decide +kernel
theorem dX6_oneOf_52 : decode cX6_oneOf 52 = .ok (.aload_n 0, 1) := by decide +kernel
theorem dX6_oneOf_53 : decode cX6_oneOf 53 = .ok (.getfield 22, 3) := by decide +kernel
theorem dX6_oneOf_56 : decode cX6_oneOf 56 = .ok (.iload_n 1, 1) := by decide +kernel
theorem dX6_oneOf_57 : decode cX6_oneOf 57 = .ok (.iaload, 1) := by decide +kernel
theorem dX6_oneOf_58 : decode cX6_oneOf 58 = .ok (.iload_n 2, 1) := by decide +kernel
theorem dX6_oneOf_59 : decode cX6_oneOf 59 = .ok (.iload_n 3, 1) := by decide +kernel
theorem dX6_oneOf_60 : decode cX6_oneOf 60 = .ok (.invokevirtual 294, 3) := by decide +kernel
theorem dX6_oneOf_63 : decode cX6_oneOf 63 = .ok (.ifCond .eq 10, 3) := by decide +kernel
theorem dX6_oneOf_66 : decode cX6_oneOf 66 = .ok (.bipush 100, 2) := by decide +kernel
theorem dX6_oneOf_68 : decode cX6_oneOf 68 = .ok (.iload_n 1, 1) := by decide +kernel
theorem dX6_oneOf_69 : decode cX6_oneOf 69 = .ok (.imul, 1) := by decide +kernel
theorem dX6_oneOf_70 : decode cX6_oneOf 70 = .ok (.iload_n 2, 1) := by decide +kernel
theorem dX6_oneOf_71 : decode cX6_oneOf 71 = .ok (.iadd, 1) := by decide +kernel
theorem dX6_oneOf_72 : decode cX6_oneOf 72 = .ok (.ireturn, 1) := by decide +kernel
theorem dX6_oneOf_73 : decode cX6_oneOf 73 = .ok (.iinc 2 1, 3) := by decide +kernel
theorem dX6_oneOf_76 : decode cX6_oneOf 76 = .ok (.goto (-74), 3) := by decide +kernel
theorem dX6_oneOf_79 : decode cX6_oneOf 79 = .ok (.iconst 0, 1) := by decide +kernel
theorem dX6_oneOf_80 : decode cX6_oneOf 80 = .ok (.istore_n 2, 1) := by decide +kernel
theorem dX6_oneOf_81 : decode cX6_oneOf 81 = .ok (.iload_n 2, 1) := by decide +kernel
theorem dX6_oneOf_82 : decode cX6_oneOf 82 = .ok (.iconst 5, 1) := by decide +kernel
theorem dX6_oneOf_83 : decode cX6_oneOf 83 = .ok (.if_icmp .ge 63, 3) := by decide +kernel
theorem dX6_oneOf_86 : decode cX6_oneOf 86 = .ok (.iload_n 2, 1) := by decide +kernel
theorem dX6_oneOf_87 : decode cX6_oneOf 87 = .ok (.invokestatic 105, 3) := by decide +kernel
theorem dX6_oneOf_90 : decode cX6_oneOf 90 = .ok (.ifCond .eq 12, 3) := by decide +kernel
theorem dX6_oneOf_93 : decode cX6_oneOf 93 = .ok (.aload_n 0, 1) := by decide +kernel
theorem dX6_oneOf_94 : decode cX6_oneOf 94 = .ok (.getfield 28, 3) := by decide +kernel
theorem dX6_oneOf_97 : decode cX6_oneOf 97 = .ok (.iload_n 1, 1) := by decide +kernel
theorem dX6_oneOf_98 : decode cX6_oneOf 98 = .ok (.iaload, 1) := by decide +kernel
theorem dX6_oneOf_99 : decode cX6_oneOf 99 = .ok (.goto 4, 3) := by decide +kernel
theorem dX6_oneOf_102 : decode cX6_oneOf 102 = .ok (.iconst 0, 1) := by decide +kernel
theorem dX6_oneOf_103 : decode cX6_oneOf 103 = .ok (.istore_n 3, 1) := by decide +kernel
theorem dX6_oneOf_104 : decode cX6_oneOf 104 = .ok (.iload_n 2, 1) := by decide +kernel
theorem dX6_oneOf_105 : decode cX6_oneOf 105 = .ok (.aload_n 0, 1) := by decide +kernel
theorem dX6_oneOf_106 : decode cX6_oneOf 106 = .ok (.getfield 22, 3) := by decide +kernel
theorem dX6_oneOf_109 : decode cX6_oneOf 109 = .ok (.iload_n 1, 1) := by decide +kernel
theorem dX6_oneOf_110 : decode cX6_oneOf 110 = .ok (.iaload, 1) := by decide +kernel
theorem dX6_oneOf_111 : decode cX6_oneOf 111 = .ok (.if_icmp .eq 29, 3) := by decide +kernel
theorem dX6_oneOf_114 : decode cX6_oneOf 114 = .ok (.aload_n 0, 1) := by decide +kernel
theorem dX6_oneOf_115 : decode cX6_oneOf 115 = .ok (.iload_n 1, 1) := by decide +kernel
theorem dX6_oneOf_116 : decode cX6_oneOf 116 = .ok (.iload_n 2, 1) := by decide +kernel
theorem dX6_oneOf_117 : decode cX6_oneOf 117 = .ok (.aload_n 0, 1) := by decide +kernel
theorem dX6_oneOf_118 : decode cX6_oneOf 118 = .ok (.getfield 25, 3) := by decide +kernel
theorem dX6_oneOf_121 : decode cX6_oneOf 121 = .ok (.iload_n 1, 1) := by decide +kernel
theorem dX6_oneOf_122 : decode cX6_oneOf 122 = .ok (.iaload, 1) := by decide +kernel
theorem dX6_oneOf_123 : decode cX6_oneOf 123 = .ok (.iload_n 3, 1) := by decide +kernel
theorem dX6_oneOf_124 : decode cX6_oneOf 124 = .ok (.invokevirtual 294, 3) := by decide +kernel
theorem dX6_oneOf_127 : decode cX6_oneOf 127 = .ok (.ifCond .eq 13, 3) := by decide +kernel
theorem dX6_oneOf_130 : decode cX6_oneOf 130 = .ok (.bipush 100, 2) := by decide +kernel
theorem dX6_oneOf_132 : decode cX6_oneOf 132 = .ok (.iload_n 1, 1) := by decide +kernel
theorem dX6_oneOf_133 : decode cX6_oneOf 133 = .ok (.imul, 1) := by decide +kernel
theorem dX6_oneOf_134 : decode cX6_oneOf 134 = .ok (.bipush 10, 2) := by decide +kernel
theorem dX6_oneOf_136 : decode cX6_oneOf 136 = .ok (.iadd, 1) := by decide +kernel
theorem dX6_oneOf_137 : decode cX6_oneOf 137 = .ok (.iload_n 2, 1) := by decide +kernel
theorem dX6_oneOf_138 : decode cX6_oneOf 138 = .ok (.iadd, 1) := by decide +kernel
theorem dX6_oneOf_139 : decode cX6_oneOf 139 = .ok (.ireturn, 1) := by decide +kernel
theorem dX6_oneOf_140 : decode cX6_oneOf 140 = .ok (.iinc 2 1, 3) := by decide +kernel
theorem dX6_oneOf_143 : decode cX6_oneOf 143 = .ok (.goto (-62), 3) := by decide +kernel
theorem dX6_oneOf_146 : decode cX6_oneOf 146 = .ok (.iconst (-1), 1) := by decide +kernel
theorem dX6_oneOf_147 : decode cX6_oneOf 147 = .ok (.ireturn, 1) := by decide +kernel
theorem dX6_oneOfAll_0 : decode cX6_oneOfAll 0 = .ok (.aload_n 0, 1) := by decide +kernel
theorem dX6_oneOfAll_1 : decode cX6_oneOfAll 1 = .ok (.invokevirtual 227, 3) := by decide +kernel
theorem dX6_oneOfAll_4 : decode cX6_oneOfAll 4 = .ok (.iconst 1, 1) := by decide +kernel
theorem dX6_oneOfAll_5 : decode cX6_oneOfAll 5 = .ok (.if_icmp .ne 6, 3) := by decide +kernel
theorem dX6_oneOfAll_8 : decode cX6_oneOfAll 8 = .ok (.bipush (-2), 2) := by decide +kernel
theorem dX6_oneOfAll_10 : decode cX6_oneOfAll 10 = .ok (.ireturn, 1) := by decide +kernel
theorem dX6_oneOfAll_11 : decode cX6_oneOfAll 11 = .ok (.iconst 0, 1) := by decide +kernel
theorem dX6_oneOfAll_12 : decode cX6_oneOfAll 12 = .ok (.istore_n 1, 1) := by decide +kernel
theorem dX6_oneOfAll_13 : decode cX6_oneOfAll 13 = .ok (.iload_n 1, 1) := by decide +kernel
theorem dX6_oneOfAll_14 : decode cX6_oneOfAll 14 = .ok (.aload_n 0, 1) := by decide +kernel
theorem dX6_oneOfAll_15 : decode cX6_oneOfAll 15 = .ok (.getfield 141, 3) := by decide +kernel
theorem dX6_oneOfAll_18 : decode cX6_oneOfAll 18 = .ok (.aload_n 0, 1) := by decide +kernel
theorem dX6_oneOfAll_19 : decode cX6_oneOfAll 19 = .ok (.getfield 144, 3) := by decide +kernel
theorem dX6_oneOfAll_22 : decode cX6_oneOfAll 22 = .ok (.iadd, 1) := by decide +kernel
theorem dX6_oneOfAll_23 : decode cX6_oneOfAll 23 = .ok (.if_icmp .ge 22, 3) := by decide +kernel
theorem dX6_oneOfAll_26 : decode cX6_oneOfAll 26 = .ok (.aload_n 0, 1) := by decide +kernel
theorem dX6_oneOfAll_27 : decode cX6_oneOfAll 27 = .ok (.iload_n 1, 1) := by decide +kernel
theorem dX6_oneOfAll_28 : decode cX6_oneOfAll 28 = .ok (.invokevirtual 297, 3) := by decide +kernel
theorem dX6_oneOfAll_31 : decode cX6_oneOfAll 31 = .ok (.istore_n 2, 1) := by decide +kernel
theorem dX6_oneOfAll_32 : decode cX6_oneOfAll 32 = .ok (.iload_n 2, 1) := by decide +kernel
theorem dX6_oneOfAll_33 : decode cX6_oneOfAll 33 = .ok (.iconst (-1), 1) := by decide +kernel
theorem dX6_oneOfAll_34 : decode cX6_oneOfAll 34 = .ok (.if_icmp .eq 5, 3) := by decide +kernel
theorem dX6_oneOfAll_37 : decode cX6_oneOfAll 37 = .ok (.iload_n 2, 1) := by decide +kernel
theorem dX6_oneOfAll_38 : decode cX6_oneOfAll 38 = .ok (.ireturn, 1) := by decide +kernel
theorem dX6_oneOfAll_39 : decode cX6_oneOfAll 39 = .ok (.iinc 1 1, 3) := by decide +kernel
theorem dX6_oneOfAll_42 : decode cX6_oneOfAll 42 = .ok (.goto (-29), 3) := by decide +kernel
theorem dX6_oneOfAll_45 : decode cX6_oneOfAll 45 = .ok (.iconst (-1), 1) := by decide +kernel
theorem dX6_oneOfAll_46 : decode cX6_oneOfAll 46 = .ok (.ireturn, 1) := by decide +kernel
theorem dX6_one_0 : decode cX6_one 0 = .ok (.aload_n 0, 1) := by decide +kernel
theorem dX6_one_1 : decode cX6_one 1 = .ok (.invokevirtual 223, 3) := by decide +kernel
theorem dX6_one_4 : decode cX6_one 4 = .ok (.ifCond .ne 12, 3) := by decide +kernel
theorem dX6_one_7 : decode cX6_one 7 = .ok (.aload_n 0, 1) := by decide +kernel
theorem dX6_one_8 : decode cX6_one 8 = .ok (.getfield 300, 3) := by decide +kernel
theorem dX6_one_11 : decode cX6_one 11 = .ok (.bipush 6, 2) := by decide +kernel
theorem dX6_one_13 : decode cX6_one 13 = .ok (.if_icmp .ne 6, 3) := by decide +kernel
theorem dX6_one_16 : decode cX6_one 16 = .ok (.bipush (-103), 2) := by decide +kernel
theorem dX6_one_18 : decode cX6_one 18 = .ok (.ireturn, 1) := by decide +kernel
theorem dX6_one_19 : decode cX6_one 19 = .ok (.aload_n 0, 1) := by decide +kernel
theorem dX6_one_20 : decode cX6_one 20 = .ok (.dup, 1) := by decide +kernel
theorem dX6_one_21 : decode cX6_one 21 = .ok (.getfield 300, 3) := by decide +kernel
theorem dX6_one_24 : decode cX6_one 24 = .ok (.iconst 1, 1) := by decide +kernel
theorem dX6_one_25 : decode cX6_one 25 = .ok (.iadd, 1) := by decide +kernel
theorem dX6_one_26 : decode cX6_one 26 = .ok (.putfield 300, 3) := by decide +kernel
theorem dX6_one_29 : decode cX6_one 29 = .ok (.aload_n 0, 1) := by decide +kernel
theorem dX6_one_30 : decode cX6_one 30 = .ok (.invokevirtual 303, 3) := by decide +kernel
theorem dX6_one_33 : decode cX6_one 33 = .ok (.ireturn, 1) := by decide +kernel
theorem dX6_see_0 : decode cX6_see 0 = .ok (.aload_n 0, 1) := by decide +kernel
theorem dX6_see_1 : decode cX6_see 1 = .ok (.iload_n 1, 1) := by decide +kernel
theorem dX6_see_2 : decode cX6_see 2 = .ok (.invokevirtual 180, 3) := by decide +kernel
theorem dX6_see_5 : decode cX6_see 5 = .ok (.ifCond .ne 6, 3) := by decide +kernel
theorem dX6_see_8 : decode cX6_see 8 = .ok (.bipush (-101), 2) := by decide +kernel
theorem dX6_see_10 : decode cX6_see 10 = .ok (.ireturn, 1) := by decide +kernel
theorem dX6_see_11 : decode cX6_see 11 = .ok (.iload_n 2, 1) := by decide +kernel
theorem dX6_see_12 : decode cX6_see 12 = .ok (.i2l, 1) := by decide +kernel
theorem dX6_see_13 : decode cX6_see 13 = .ok (.lconst 0, 1) := by decide +kernel
theorem dX6_see_14 : decode cX6_see 14 = .ok (.iconst 1, 1) := by decide +kernel
theorem dX6_see_15 : decode cX6_see 15 = .ok (.aload_n 0, 1) := by decide +kernel
theorem dX6_see_16 : decode cX6_see 16 = .ok (.iload_n 1, 1) := by decide +kernel
theorem dX6_see_17 : decode cX6_see 17 = .ok (.invokevirtual 183, 3) := by decide +kernel
theorem dX6_see_20 : decode cX6_see 20 = .ok (.ishl, 1) := by decide +kernel
theorem dX6_see_21 : decode cX6_see 21 = .ok (.iconst 1, 1) := by decide +kernel
theorem dX6_see_22 : decode cX6_see 22 = .ok (.isub, 1) := by decide +kernel
theorem dX6_see_23 : decode cX6_see 23 = .ok (.i2l, 1) := by decide +kernel
theorem dX6_see_24 : decode cX6_see 24 = .ok (.invokestatic 78, 3) := by decide +kernel
theorem dX6_see_27 : decode cX6_see 27 = .ok (.ifCond .ne 6, 3) := by decide +kernel
theorem dX6_see_30 : decode cX6_see 30 = .ok (.bipush (-102), 2) := by decide +kernel
theorem dX6_see_32 : decode cX6_see 32 = .ok (.ireturn, 1) := by decide +kernel
theorem dX6_see_33 : decode cX6_see 33 = .ok (.aload_n 0, 1) := by decide +kernel
theorem dX6_see_34 : decode cX6_see 34 = .ok (.getfield 151, 3) := by decide +kernel
theorem dX6_see_37 : decode cX6_see 37 = .ok (.bipush 6, 2) := by decide +kernel
theorem dX6_see_39 : decode cX6_see 39 = .ok (.if_icmp .ne 6, 3) := by decide +kernel
theorem dX6_see_42 : decode cX6_see 42 = .ok (.bipush (-104), 2) := by decide +kernel
theorem dX6_see_44 : decode cX6_see 44 = .ok (.ireturn, 1) := by decide +kernel
theorem dX6_see_45 : decode cX6_see 45 = .ok (.aload_n 0, 1) := by decide +kernel
theorem dX6_see_46 : decode cX6_see 46 = .ok (.getfield 44, 3) := by decide +kernel
theorem dX6_see_49 : decode cX6_see 49 = .ok (.iconst 3, 1) := by decide +kernel
theorem dX6_see_50 : decode cX6_see 50 = .ok (.aload_n 0, 1) := by decide +kernel
theorem dX6_see_51 : decode cX6_see 51 = .ok (.getfield 151, 3) := by decide +kernel
theorem dX6_see_54 : decode cX6_see 54 = .ok (.imul, 1) := by decide +kernel
theorem dX6_see_55 : decode cX6_see 55 = .ok (.iload_n 1, 1) := by decide +kernel
theorem dX6_see_56 : decode cX6_see 56 = .ok (.iastore, 1) := by decide +kernel
theorem dX6_see_57 : decode cX6_see 57 = .ok (.aload_n 0, 1) := by decide +kernel
theorem dX6_see_58 : decode cX6_see 58 = .ok (.getfield 44, 3) := by decide +kernel
theorem dX6_see_61 : decode cX6_see 61 = .ok (.iconst 3, 1) := by decide +kernel
theorem dX6_see_62 : decode cX6_see 62 = .ok (.aload_n 0, 1) := by decide +kernel
theorem dX6_see_63 : decode cX6_see 63 = .ok (.getfield 151, 3) := by decide +kernel
theorem dX6_see_66 : decode cX6_see 66 = .ok (.imul, 1) := by decide +kernel
theorem dX6_see_67 : decode cX6_see 67 = .ok (.iconst 1, 1) := by decide +kernel
theorem dX6_see_68 : decode cX6_see 68 = .ok (.iadd, 1) := by decide +kernel
theorem dX6_see_69 : decode cX6_see 69 = .ok (.iload_n 2, 1) := by decide +kernel
theorem dX6_see_70 : decode cX6_see 70 = .ok (.iastore, 1) := by decide +kernel
theorem dX6_see_71 : decode cX6_see 71 = .ok (.aload_n 0, 1) := by decide +kernel
theorem dX6_see_72 : decode cX6_see 72 = .ok (.getfield 44, 3) := by decide +kernel
theorem dX6_see_75 : decode cX6_see 75 = .ok (.iconst 3, 1) := by decide +kernel
theorem dX6_see_76 : decode cX6_see 76 = .ok (.aload_n 0, 1) := by decide +kernel
theorem dX6_see_77 : decode cX6_see 77 = .ok (.getfield 151, 3) := by decide +kernel
theorem dX6_see_80 : decode cX6_see 80 = .ok (.imul, 1) := by decide +kernel
theorem dX6_see_81 : decode cX6_see 81 = .ok (.iconst 2, 1) := by decide +kernel
theorem dX6_see_82 : decode cX6_see 82 = .ok (.iadd, 1) := by decide +kernel
theorem dX6_see_83 : decode cX6_see 83 = .ok (.iload_n 3, 1) := by decide +kernel
theorem dX6_see_84 : decode cX6_see 84 = .ok (.ifCond .eq 7, 3) := by decide +kernel
theorem dX6_see_87 : decode cX6_see 87 = .ok (.iconst 1, 1) := by decide +kernel
theorem dX6_see_88 : decode cX6_see 88 = .ok (.goto 4, 3) := by decide +kernel
theorem dX6_see_91 : decode cX6_see 91 = .ok (.iconst 0, 1) := by decide +kernel
theorem dX6_see_92 : decode cX6_see 92 = .ok (.iastore, 1) := by decide +kernel
theorem dX6_see_93 : decode cX6_see 93 = .ok (.aload_n 0, 1) := by decide +kernel
theorem dX6_see_94 : decode cX6_see 94 = .ok (.dup, 1) := by decide +kernel
theorem dX6_see_95 : decode cX6_see 95 = .ok (.getfield 151, 3) := by decide +kernel
theorem dX6_see_98 : decode cX6_see 98 = .ok (.iconst 1, 1) := by decide +kernel
theorem dX6_see_99 : decode cX6_see 99 = .ok (.iadd, 1) := by decide +kernel
theorem dX6_see_100 : decode cX6_see 100 = .ok (.putfield 151, 3) := by decide +kernel
theorem dX6_see_103 : decode cX6_see 103 = .ok (.aload_n 0, 1) := by decide +kernel
theorem dX6_see_104 : decode cX6_see 104 = .ok (.getfield 151, 3) := by decide +kernel
theorem dX6_see_107 : decode cX6_see 107 = .ok (.ireturn, 1) := by decide +kernel
theorem dX6_forget_0 : decode cX6_forget 0 = .ok (.aload_n 0, 1) := by decide +kernel
theorem dX6_forget_1 : decode cX6_forget 1 = .ok (.getfield 151, 3) := by decide +kernel
theorem dX6_forget_4 : decode cX6_forget 4 = .ok (.istore_n 1, 1) := by decide +kernel
theorem dX6_forget_5 : decode cX6_forget 5 = .ok (.aload_n 0, 1) := by decide +kernel
theorem dX6_forget_6 : decode cX6_forget 6 = .ok (.iconst 0, 1) := by decide +kernel
theorem dX6_forget_7 : decode cX6_forget 7 = .ok (.putfield 151, 3) := by decide +kernel
theorem dX6_forget_10 : decode cX6_forget 10 = .ok (.iload_n 1, 1) := by decide +kernel
theorem dX6_forget_11 : decode cX6_forget 11 = .ok (.ireturn, 1) := by decide +kernel
theorem dX6_keptBy_0 : decode cX6_keptBy 0 = .ok (.iconst 0, 1) := by decide +kernel
theorem dX6_keptBy_1 : decode cX6_keptBy 1 = .ok (.istore_n 3, 1) := by decide +kernel
theorem dX6_keptBy_2 : decode cX6_keptBy 2 = .ok (.iconst 0, 1) := by decide +kernel
theorem dX6_keptBy_3 : decode cX6_keptBy 3 = .ok (.istore 4, 2) := by decide +kernel
theorem dX6_keptBy_5 : decode cX6_keptBy 5 = .ok (.iload 4, 2) := by decide +kernel
theorem dX6_keptBy_7 : decode cX6_keptBy 7 = .ok (.iconst 5, 1) := by decide +kernel
theorem dX6_keptBy_8 : decode cX6_keptBy 8 = .ok (.if_icmp .ge 42, 3) := by decide +kernel
theorem dX6_keptBy_11 : decode cX6_keptBy 11 = .ok (.iload_n 3, 1) := by decide +kernel
theorem dX6_keptBy_12 : decode cX6_keptBy 12 = .ok (.aload_n 0, 1) := by decide +kernel
theorem dX6_keptBy_13 : decode cX6_keptBy 13 = .ok (.iload 4, 2) := by decide +kernel
theorem dX6_keptBy_15 : decode cX6_keptBy 15 = .ok (.aload_n 0, 1) := by decide +kernel
theorem dX6_keptBy_16 : decode cX6_keptBy 16 = .ok (.getfield 25, 3) := by decide +kernel
theorem dX6_keptBy_19 : decode cX6_keptBy 19 = .ok (.iload_n 1, 1) := by decide +kernel
theorem dX6_keptBy_20 : decode cX6_keptBy 20 = .ok (.iaload, 1) := by decide +kernel
theorem dX6_keptBy_21 : decode cX6_keptBy 21 = .ok (.aload_n 0, 1) := by decide +kernel
theorem dX6_keptBy_22 : decode cX6_keptBy 22 = .ok (.getfield 28, 3) := by decide +kernel
theorem dX6_keptBy_25 : decode cX6_keptBy 25 = .ok (.iload_n 1, 1) := by decide +kernel
theorem dX6_keptBy_26 : decode cX6_keptBy 26 = .ok (.iaload, 1) := by decide +kernel
theorem dX6_keptBy_27 : decode cX6_keptBy 27 = .ok (.iload_n 2, 1) := by decide +kernel
theorem dX6_keptBy_28 : decode cX6_keptBy 28 = .ok (.invokevirtual 176, 3) := by decide +kernel
theorem dX6_keptBy_31 : decode cX6_keptBy 31 = .ok (.ifCond .eq 10, 3) := by decide +kernel
theorem dX6_keptBy_34 : decode cX6_keptBy 34 = .ok (.iconst 1, 1) := by decide +kernel
theorem dX6_keptBy_35 : decode cX6_keptBy 35 = .ok (.iload 4, 2) := by decide +kernel
theorem dX6_keptBy_37 : decode cX6_keptBy 37 = .ok (.ishl, 1) := by decide +kernel
theorem dX6_keptBy_38 : decode cX6_keptBy 38 = .ok (.goto 4, 3) := by decide +kernel
theorem dX6_keptBy_41 : decode cX6_keptBy 41 = .ok (.iconst 0, 1) := by decide +kernel
theorem dX6_keptBy_42 : decode cX6_keptBy 42 = .ok (.ior, 1) := by decide +kernel
theorem dX6_keptBy_43 : decode cX6_keptBy 43 = .ok (.istore_n 3, 1) := by decide +kernel
theorem dX6_keptBy_44 : decode cX6_keptBy 44 = .ok (.iinc 4 1, 3) := by decide +kernel
theorem dX6_keptBy_47 : decode cX6_keptBy 47 = .ok (.goto (-42), 3) := by decide +kernel
theorem dX6_keptBy_50 : decode cX6_keptBy 50 = .ok (.iload_n 3, 1) := by decide +kernel
theorem dX6_keptBy_51 : decode cX6_keptBy 51 = .ok (.ireturn, 1) := by decide +kernel
theorem dX6_sortsOf_0 : decode cX6_sortsOf 0 = .ok (.bipush 31, 2) := by decide +kernel
theorem dX6_sortsOf_2 : decode cX6_sortsOf 2 = .ok (.istore_n 2, 1) := by decide +kernel
theorem dX6_sortsOf_3 : decode cX6_sortsOf 3 = .ok (.iconst 0, 1) := by decide +kernel
theorem dX6_sortsOf_4 : decode cX6_sortsOf 4 = .ok (.istore_n 3, 1) := by decide +kernel
theorem dX6_sortsOf_5 : decode cX6_sortsOf 5 = .ok (.iload_n 3, 1) := by decide +kernel
theorem dX6_sortsOf_6 : decode cX6_sortsOf 6 = .ok (.iconst 3, 1) := by decide +kernel
theorem dX6_sortsOf_7 : decode cX6_sortsOf 7 = .ok (.aload_n 0, 1) := by decide +kernel
theorem dX6_sortsOf_8 : decode cX6_sortsOf 8 = .ok (.getfield 151, 3) := by decide +kernel
theorem dX6_sortsOf_11 : decode cX6_sortsOf 11 = .ok (.imul, 1) := by decide +kernel
theorem dX6_sortsOf_12 : decode cX6_sortsOf 12 = .ok (.if_icmp .ge 59, 3) := by decide +kernel
theorem dX6_sortsOf_15 : decode cX6_sortsOf 15 = .ok (.aload_n 0, 1) := by decide +kernel
theorem dX6_sortsOf_16 : decode cX6_sortsOf 16 = .ok (.getfield 44, 3) := by decide +kernel
theorem dX6_sortsOf_19 : decode cX6_sortsOf 19 = .ok (.iload_n 3, 1) := by decide +kernel
theorem dX6_sortsOf_20 : decode cX6_sortsOf 20 = .ok (.iaload, 1) := by decide +kernel
theorem dX6_sortsOf_21 : decode cX6_sortsOf 21 = .ok (.iload_n 1, 1) := by decide +kernel
theorem dX6_sortsOf_22 : decode cX6_sortsOf 22 = .ok (.if_icmp .ne 43, 3) := by decide +kernel
theorem dX6_sortsOf_25 : decode cX6_sortsOf 25 = .ok (.aload_n 0, 1) := by decide +kernel
theorem dX6_sortsOf_26 : decode cX6_sortsOf 26 = .ok (.iload_n 1, 1) := by decide +kernel
theorem dX6_sortsOf_27 : decode cX6_sortsOf 27 = .ok (.aload_n 0, 1) := by decide +kernel
theorem dX6_sortsOf_28 : decode cX6_sortsOf 28 = .ok (.getfield 44, 3) := by decide +kernel
theorem dX6_sortsOf_31 : decode cX6_sortsOf 31 = .ok (.iload_n 3, 1) := by decide +kernel
theorem dX6_sortsOf_32 : decode cX6_sortsOf 32 = .ok (.iconst 1, 1) := by decide +kernel
theorem dX6_sortsOf_33 : decode cX6_sortsOf 33 = .ok (.iadd, 1) := by decide +kernel
theorem dX6_sortsOf_34 : decode cX6_sortsOf 34 = .ok (.iaload, 1) := by decide +kernel
theorem dX6_sortsOf_35 : decode cX6_sortsOf 35 = .ok (.invokevirtual 306, 3) := by decide +kernel
theorem dX6_sortsOf_38 : decode cX6_sortsOf 38 = .ok (.istore 4, 2) := by decide +kernel
theorem dX6_sortsOf_40 : decode cX6_sortsOf 40 = .ok (.iload_n 2, 1) := by decide +kernel
theorem dX6_sortsOf_41 : decode cX6_sortsOf 41 = .ok (.aload_n 0, 1) := by decide +kernel
theorem dX6_sortsOf_42 : decode cX6_sortsOf 42 = .ok (.getfield 44, 3) := by decide +kernel
theorem dX6_sortsOf_45 : decode cX6_sortsOf 45 = .ok (.iload_n 3, 1) := by decide +kernel
theorem dX6_sortsOf_46 : decode cX6_sortsOf 46 = .ok (.iconst 2, 1) := by decide +kernel
theorem dX6_sortsOf_47 : decode cX6_sortsOf 47 = .ok (.iadd, 1) := by decide +kernel
theorem dX6_sortsOf_48 : decode cX6_sortsOf 48 = .ok (.iaload, 1) := by decide +kernel
theorem dX6_sortsOf_49 : decode cX6_sortsOf 49 = .ok (.iconst 1, 1) := by decide +kernel
theorem dX6_sortsOf_50 : decode cX6_sortsOf 50 = .ok (.if_icmp .ne 8, 3) := by decide +kernel
theorem dX6_sortsOf_53 : decode cX6_sortsOf 53 = .ok (.iload 4, 2) := by decide +kernel
theorem dX6_sortsOf_55 : decode cX6_sortsOf 55 = .ok (.goto 8, 3) := by decide +kernel
theorem dX6_sortsOf_58 : decode cX6_sortsOf 58 = .ok (.bipush 31, 2) := by decide +kernel
theorem dX6_sortsOf_60 : decode cX6_sortsOf 60 = .ok (.iload 4, 2) := by decide +kernel
theorem dX6_sortsOf_62 : decode cX6_sortsOf 62 = .ok (.isub, 1) := by decide +kernel
theorem dX6_sortsOf_63 : decode cX6_sortsOf 63 = .ok (.iand, 1) := by decide +kernel
theorem dX6_sortsOf_64 : decode cX6_sortsOf 64 = .ok (.istore_n 2, 1) := by decide +kernel
theorem dX6_sortsOf_65 : decode cX6_sortsOf 65 = .ok (.iinc 3 3, 3) := by decide +kernel
theorem dX6_sortsOf_68 : decode cX6_sortsOf 68 = .ok (.goto (-63), 3) := by decide +kernel
theorem dX6_sortsOf_71 : decode cX6_sortsOf 71 = .ok (.iload_n 2, 1) := by decide +kernel
theorem dX6_sortsOf_72 : decode cX6_sortsOf 72 = .ok (.ireturn, 1) := by decide +kernel
theorem dX6_tryOf_0 : decode cX6_tryOf 0 = .ok (.aload_n 0, 1) := by decide +kernel
theorem dX6_tryOf_1 : decode cX6_tryOf 1 = .ok (.iload_n 1, 1) := by decide +kernel
theorem dX6_tryOf_2 : decode cX6_tryOf 2 = .ok (.invokevirtual 251, 3) := by decide +kernel
theorem dX6_tryOf_5 : decode cX6_tryOf 5 = .ok (.istore_n 2, 1) := by decide +kernel
theorem dX6_tryOf_6 : decode cX6_tryOf 6 = .ok (.iconst (-1), 1) := by decide +kernel
theorem dX6_tryOf_7 : decode cX6_tryOf 7 = .ok (.istore_n 3, 1) := by decide +kernel
theorem dX6_tryOf_8 : decode cX6_tryOf 8 = .ok (.bipush 6, 2) := by decide +kernel
theorem dX6_tryOf_10 : decode cX6_tryOf 10 = .ok (.istore 4, 2) := by decide +kernel
theorem dX6_tryOf_12 : decode cX6_tryOf 12 = .ok (.iconst 0, 1) := by decide +kernel
theorem dX6_tryOf_13 : decode cX6_tryOf 13 = .ok (.istore 5, 2) := by decide +kernel
theorem dX6_tryOf_15 : decode cX6_tryOf 15 = .ok (.iload 5, 2) := by decide +kernel
theorem dX6_tryOf_17 : decode cX6_tryOf 17 = .ok (.iconst 1, 1) := by decide +kernel
theorem dX6_tryOf_18 : decode cX6_tryOf 18 = .ok (.aload_n 0, 1) := by decide +kernel
theorem dX6_tryOf_19 : decode cX6_tryOf 19 = .ok (.iload_n 1, 1) := by decide +kernel
theorem dX6_tryOf_20 : decode cX6_tryOf 20 = .ok (.invokevirtual 183, 3) := by decide +kernel
theorem dX6_tryOf_23 : decode cX6_tryOf 23 = .ok (.ishl, 1) := by decide +kernel
theorem dX6_tryOf_24 : decode cX6_tryOf 24 = .ok (.if_icmp .ge 82, 3) := by decide +kernel
theorem dX6_tryOf_27 : decode cX6_tryOf 27 = .ok (.iload_n 2, 1) := by decide +kernel
theorem dX6_tryOf_28 : decode cX6_tryOf 28 = .ok (.ifCond .eq 78, 3) := by decide +kernel
theorem dX6_tryOf_31 : decode cX6_tryOf 31 = .ok (.iload_n 2, 1) := by decide +kernel
theorem dX6_tryOf_32 : decode cX6_tryOf 32 = .ok (.aload_n 0, 1) := by decide +kernel
theorem dX6_tryOf_33 : decode cX6_tryOf 33 = .ok (.iload_n 1, 1) := by decide +kernel
theorem dX6_tryOf_34 : decode cX6_tryOf 34 = .ok (.iload 5, 2) := by decide +kernel
theorem dX6_tryOf_36 : decode cX6_tryOf 36 = .ok (.invokevirtual 306, 3) := by decide +kernel
theorem dX6_tryOf_39 : decode cX6_tryOf 39 = .ok (.iand, 1) := by decide +kernel
theorem dX6_tryOf_40 : decode cX6_tryOf 40 = .ok (.invokestatic 173, 3) := by decide +kernel
theorem dX6_tryOf_43 : decode cX6_tryOf 43 = .ok (.istore 6, 2) := by decide +kernel
theorem dX6_tryOf_45 : decode cX6_tryOf 45 = .ok (.iload_n 2, 1) := by decide +kernel
theorem dX6_tryOf_46 : decode cX6_tryOf 46 = .ok (.invokestatic 173, 3) := by decide +kernel
theorem dX6_tryOf_49 : decode cX6_tryOf 49 = .ok (.iload 6, 2) := by decide +kernel
theorem dX6_tryOf_51 : decode cX6_tryOf 51 = .ok (.isub, 1) := by decide +kernel
theorem dX6_tryOf_52 : decode cX6_tryOf 52 = .ok (.istore 7, 2) := by decide +kernel
theorem dX6_tryOf_54 : decode cX6_tryOf 54 = .ok (.iload 6, 2) := by decide +kernel
theorem dX6_tryOf_56 : decode cX6_tryOf 56 = .ok (.iload 7, 2) := by decide +kernel
theorem dX6_tryOf_58 : decode cX6_tryOf 58 = .ok (.if_icmp .le 8, 3) := by decide +kernel
theorem dX6_tryOf_61 : decode cX6_tryOf 61 = .ok (.iload 6, 2) := by decide +kernel
theorem dX6_tryOf_63 : decode cX6_tryOf 63 = .ok (.goto 5, 3) := by decide +kernel
theorem dX6_tryOf_66 : decode cX6_tryOf 66 = .ok (.iload 7, 2) := by decide +kernel
theorem dX6_tryOf_68 : decode cX6_tryOf 68 = .ok (.istore 8, 2) := by decide +kernel
theorem dX6_tryOf_70 : decode cX6_tryOf 70 = .ok (.iload 8, 2) := by decide +kernel
theorem dX6_tryOf_72 : decode cX6_tryOf 72 = .ok (.iload 4, 2) := by decide +kernel
theorem dX6_tryOf_74 : decode cX6_tryOf 74 = .ok (.if_icmp .ge 8, 3) := by decide +kernel
theorem dX6_tryOf_77 : decode cX6_tryOf 77 = .ok (.iload 5, 2) := by decide +kernel
theorem dX6_tryOf_79 : decode cX6_tryOf 79 = .ok (.goto 4, 3) := by decide +kernel
theorem dX6_tryOf_82 : decode cX6_tryOf 82 = .ok (.iload_n 3, 1) := by decide +kernel
theorem dX6_tryOf_83 : decode cX6_tryOf 83 = .ok (.istore_n 3, 1) := by decide +kernel
theorem dX6_tryOf_84 : decode cX6_tryOf 84 = .ok (.iload 8, 2) := by decide +kernel
theorem dX6_tryOf_86 : decode cX6_tryOf 86 = .ok (.iload 4, 2) := by decide +kernel
theorem dX6_tryOf_88 : decode cX6_tryOf 88 = .ok (.if_icmp .ge 8, 3) := by decide +kernel
theorem dX6_tryOf_91 : decode cX6_tryOf 91 = .ok (.iload 8, 2) := by decide +kernel
theorem dX6_tryOf_93 : decode cX6_tryOf 93 = .ok (.goto 5, 3) := by decide +kernel
theorem dX6_tryOf_96 : decode cX6_tryOf 96 = .ok (.iload 4, 2) := by decide +kernel
theorem dX6_tryOf_98 : decode cX6_tryOf 98 = .ok (.istore 4, 2) := by decide +kernel
theorem dX6_tryOf_100 : decode cX6_tryOf 100 = .ok (.iinc 5 1, 3) := by decide +kernel
theorem dX6_tryOf_103 : decode cX6_tryOf 103 = .ok (.goto (-88), 3) := by decide +kernel
theorem dX6_tryOf_106 : decode cX6_tryOf 106 = .ok (.iload_n 3, 1) := by decide +kernel
theorem dX6_tryOf_107 : decode cX6_tryOf 107 = .ok (.ireturn, 1) := by decide +kernel
theorem dX6_draw_0 : decode cX6_draw 0 = .ok (.aload_n 0, 1) := by decide +kernel
theorem dX6_draw_1 : decode cX6_draw 1 = .ok (.ldc2_w 309, 3) := by decide +kernel
theorem dX6_draw_4 : decode cX6_draw 4 = .ok (.aload_n 0, 1) := by decide +kernel
theorem dX6_draw_5 : decode cX6_draw 5 = .ok (.getfield 311, 3) := by decide +kernel
theorem dX6_draw_8 : decode cX6_draw 8 = .ok (.i2l, 1) := by decide +kernel
theorem dX6_draw_9 : decode cX6_draw 9 = .ok (.lmul, 1) := by decide +kernel
theorem dX6_draw_10 : decode cX6_draw 10 = .ok (.ldc2_w 314, 3) := by decide +kernel
theorem dX6_draw_13 : decode cX6_draw 13 = .ok (.ladd, 1) := by decide +kernel
theorem dX6_draw_14 : decode cX6_draw 14 = .ok (.ldc2_w 316, 3) := by decide +kernel
theorem dX6_draw_17 : decode cX6_draw 17 = .ok (.land, 1) := by decide +kernel
theorem dX6_draw_18 : decode cX6_draw 18 = .ok (.l2i, 1) := by decide +kernel
theorem dX6_draw_19 : decode cX6_draw 19 = .ok (.putfield 311, 3) := by decide +kernel
theorem dX6_draw_22 : decode cX6_draw 22 = .ok (.aload_n 0, 1) := by decide +kernel
theorem dX6_draw_23 : decode cX6_draw 23 = .ok (.getfield 311, 3) := by decide +kernel
theorem dX6_draw_26 : decode cX6_draw 26 = .ok (.ldc_w 318, 3) := by decide +kernel
theorem dX6_draw_29 : decode cX6_draw 29 = .ok (.idiv, 1) := by decide +kernel
theorem dX6_draw_30 : decode cX6_draw 30 = .ok (.iload_n 1, 1) := by decide +kernel
theorem dX6_draw_31 : decode cX6_draw 31 = .ok (.irem, 1) := by decide +kernel
theorem dX6_draw_32 : decode cX6_draw 32 = .ok (.ireturn, 1) := by decide +kernel
theorem dX6_laySome_0 : decode cX6_laySome 0 = .ok (.iconst 0, 1) := by decide +kernel
theorem dX6_laySome_1 : decode cX6_laySome 1 = .ok (.istore_n 1, 1) := by decide +kernel
theorem dX6_laySome_2 : decode cX6_laySome 2 = .ok (.aload_n 0, 1) := by decide +kernel
theorem dX6_laySome_3 : decode cX6_laySome 3 = .ok (.iconst (-1), 1) := by decide +kernel
theorem dX6_laySome_4 : decode cX6_laySome 4 = .ok (.invokevirtual 217, 3) := by decide +kernel
theorem dX6_laySome_7 : decode cX6_laySome 7 = .ok (.istore_n 2, 1) := by decide +kernel
theorem dX6_laySome_8 : decode cX6_laySome 8 = .ok (.iload_n 2, 1) := by decide +kernel
theorem dX6_laySome_9 : decode cX6_laySome 9 = .ok (.iconst (-1), 1) := by decide +kernel
theorem dX6_laySome_10 : decode cX6_laySome 10 = .ok (.if_icmp .eq 22, 3) := by decide +kernel
theorem dX6_laySome_13 : decode cX6_laySome 13 = .ok (.aload_n 0, 1) := by decide +kernel
theorem dX6_laySome_14 : decode cX6_laySome 14 = .ok (.getfield 47, 3) := by decide +kernel
theorem dX6_laySome_17 : decode cX6_laySome 17 = .ok (.iload_n 1, 1) := by decide +kernel
theorem dX6_laySome_18 : decode cX6_laySome 18 = .ok (.iload_n 2, 1) := by decide +kernel
theorem dX6_laySome_19 : decode cX6_laySome 19 = .ok (.iastore, 1) := by decide +kernel
theorem dX6_laySome_20 : decode cX6_laySome 20 = .ok (.iinc 1 1, 3) := by decide +kernel
theorem dX6_laySome_23 : decode cX6_laySome 23 = .ok (.aload_n 0, 1) := by decide +kernel
theorem dX6_laySome_24 : decode cX6_laySome 24 = .ok (.iload_n 2, 1) := by decide +kernel
theorem dX6_laySome_25 : decode cX6_laySome 25 = .ok (.invokevirtual 217, 3) := by decide +kernel
theorem dX6_laySome_28 : decode cX6_laySome 28 = .ok (.istore_n 2, 1) := by decide +kernel
theorem dX6_laySome_29 : decode cX6_laySome 29 = .ok (.goto (-21), 3) := by decide +kernel
theorem dX6_laySome_32 : decode cX6_laySome 32 = .ok (.iload_n 1, 1) := by decide +kernel
theorem dX6_laySome_33 : decode cX6_laySome 33 = .ok (.ireturn, 1) := by decide +kernel
theorem dX6_gameOne_0 : decode cX6_gameOne 0 = .ok (.aload_n 0, 1) := by decide +kernel
theorem dX6_gameOne_1 : decode cX6_gameOne 1 = .ok (.invokevirtual 319, 3) := by decide +kernel
theorem dX6_gameOne_4 : decode cX6_gameOne 4 = .ok (.istore_n 1, 1) := by decide +kernel
theorem dX6_gameOne_5 : decode cX6_gameOne 5 = .ok (.aload_n 0, 1) := by decide +kernel
theorem dX6_gameOne_6 : decode cX6_gameOne 6 = .ok (.getfield 47, 3) := by decide +kernel
theorem dX6_gameOne_9 : decode cX6_gameOne 9 = .ok (.aload_n 0, 1) := by decide +kernel
theorem dX6_gameOne_10 : decode cX6_gameOne 10 = .ok (.iload_n 1, 1) := by decide +kernel
theorem dX6_gameOne_11 : decode cX6_gameOne 11 = .ok (.invokevirtual 322, 3) := by decide +kernel
theorem dX6_gameOne_14 : decode cX6_gameOne 14 = .ok (.iaload, 1) := by decide +kernel
theorem dX6_gameOne_15 : decode cX6_gameOne 15 = .ok (.istore_n 2, 1) := by decide +kernel
theorem dX6_gameOne_16 : decode cX6_gameOne 16 = .ok (.aload_n 0, 1) := by decide +kernel
theorem dX6_gameOne_17 : decode cX6_gameOne 17 = .ok (.iconst 1, 1) := by decide +kernel
theorem dX6_gameOne_18 : decode cX6_gameOne 18 = .ok (.invokevirtual 204, 3) := by decide +kernel
theorem dX6_gameOne_21 : decode cX6_gameOne 21 = .ok (.aload_n 0, 1) := by decide +kernel
theorem dX6_gameOne_22 : decode cX6_gameOne 22 = .ok (.iconst 2, 1) := by decide +kernel
theorem dX6_gameOne_23 : decode cX6_gameOne 23 = .ok (.invokevirtual 204, 3) := by decide +kernel
theorem dX6_gameOne_26 : decode cX6_gameOne 26 = .ok (.ior, 1) := by decide +kernel
theorem dX6_gameOne_27 : decode cX6_gameOne 27 = .ok (.istore_n 3, 1) := by decide +kernel
theorem dX6_gameOne_28 : decode cX6_gameOne 28 = .ok (.iconst 0, 1) := by decide +kernel
theorem dX6_gameOne_29 : decode cX6_gameOne 29 = .ok (.istore 4, 2) := by decide +kernel
theorem dX6_gameOne_31 : decode cX6_gameOne 31 = .ok (.iload_n 1, 1) := by decide +kernel
theorem dX6_gameOne_32 : decode cX6_gameOne 32 = .ok (.iconst 1, 1) := by decide +kernel
theorem dX6_gameOne_33 : decode cX6_gameOne 33 = .ok (.if_icmp .le 144, 3) := by decide +kernel
theorem dX6_gameOne_36 : decode cX6_gameOne 36 = .ok (.iconst 0, 1) := by decide +kernel
theorem dX6_gameOne_37 : decode cX6_gameOne 37 = .ok (.istore 5, 2) := by decide +kernel
theorem dX6_gameOne_39 : decode cX6_gameOne 39 = .ok (.iload 5, 2) := by decide +kernel
theorem dX6_gameOne_41 : decode cX6_gameOne 41 = .ok (.bipush 16, 2) := by decide +kernel
theorem dX6_gameOne_43 : decode cX6_gameOne 43 = .ok (.if_icmp .ge 54, 3) := by decide +kernel
theorem dX6_gameOne_46 : decode cX6_gameOne 46 = .ok (.aload_n 0, 1) := by decide +kernel
theorem dX6_gameOne_47 : decode cX6_gameOne 47 = .ok (.getfield 50, 3) := by decide +kernel
theorem dX6_gameOne_50 : decode cX6_gameOne 50 = .ok (.iload 5, 2) := by decide +kernel
theorem dX6_gameOne_52 : decode cX6_gameOne 52 = .ok (.iconst 0, 1) := by decide +kernel
theorem dX6_gameOne_53 : decode cX6_gameOne 53 = .ok (.iastore, 1) := by decide +kernel
theorem dX6_gameOne_54 : decode cX6_gameOne 54 = .ok (.iconst 0, 1) := by decide +kernel
theorem dX6_gameOne_55 : decode cX6_gameOne 55 = .ok (.istore 6, 2) := by decide +kernel
theorem dX6_gameOne_57 : decode cX6_gameOne 57 = .ok (.iload 6, 2) := by decide +kernel
theorem dX6_gameOne_59 : decode cX6_gameOne 59 = .ok (.iload_n 1, 1) := by decide +kernel
theorem dX6_gameOne_60 : decode cX6_gameOne 60 = .ok (.if_icmp .ge 31, 3) := by decide +kernel
theorem dX6_gameOne_63 : decode cX6_gameOne 63 = .ok (.aload_n 0, 1) := by decide +kernel
theorem dX6_gameOne_64 : decode cX6_gameOne 64 = .ok (.getfield 50, 3) := by decide +kernel
theorem dX6_gameOne_67 : decode cX6_gameOne 67 = .ok (.iload 5, 2) := by decide +kernel
theorem dX6_gameOne_69 : decode cX6_gameOne 69 = .ok (.dup2, 1) := by decide +kernel
theorem dX6_gameOne_70 : decode cX6_gameOne 70 = .ok (.iaload, 1) := by decide +kernel
theorem dX6_gameOne_71 : decode cX6_gameOne 71 = .ok (.aload_n 0, 1) := by decide +kernel
theorem dX6_gameOne_72 : decode cX6_gameOne 72 = .ok (.getfield 47, 3) := by decide +kernel
theorem dX6_gameOne_75 : decode cX6_gameOne 75 = .ok (.iload 6, 2) := by decide +kernel
theorem dX6_gameOne_77 : decode cX6_gameOne 77 = .ok (.iaload, 1) := by decide +kernel
theorem dX6_gameOne_78 : decode cX6_gameOne 78 = .ok (.iload 5, 2) := by decide +kernel
theorem dX6_gameOne_80 : decode cX6_gameOne 80 = .ok (.ishr, 1) := by decide +kernel
theorem dX6_gameOne_81 : decode cX6_gameOne 81 = .ok (.iconst 1, 1) := by decide +kernel
theorem dX6_gameOne_82 : decode cX6_gameOne 82 = .ok (.iand, 1) := by decide +kernel
theorem dX6_gameOne_83 : decode cX6_gameOne 83 = .ok (.iadd, 1) := by decide +kernel
theorem dX6_gameOne_84 : decode cX6_gameOne 84 = .ok (.iastore, 1) := by decide +kernel
theorem dX6_gameOne_85 : decode cX6_gameOne 85 = .ok (.iinc 6 1, 3) := by decide +kernel
theorem dX6_gameOne_88 : decode cX6_gameOne 88 = .ok (.goto (-31), 3) := by decide +kernel
theorem dX6_gameOne_91 : decode cX6_gameOne 91 = .ok (.iinc 5 1, 3) := by decide +kernel
theorem dX6_gameOne_94 : decode cX6_gameOne 94 = .ok (.goto (-55), 3) := by decide +kernel
theorem dX6_gameOne_97 : decode cX6_gameOne 97 = .ok (.aload_n 0, 1) := by decide +kernel
theorem dX6_gameOne_98 : decode cX6_gameOne 98 = .ok (.aload_n 0, 1) := by decide +kernel
theorem dX6_gameOne_99 : decode cX6_gameOne 99 = .ok (.getfield 50, 3) := by decide +kernel
theorem dX6_gameOne_102 : decode cX6_gameOne 102 = .ok (.iload_n 1, 1) := by decide +kernel
theorem dX6_gameOne_103 : decode cX6_gameOne 103 = .ok (.iload_n 3, 1) := by decide +kernel
theorem dX6_gameOne_104 : decode cX6_gameOne 104 = .ok (.invokevirtual 268, 3) := by decide +kernel
theorem dX6_gameOne_107 : decode cX6_gameOne 107 = .ok (.istore 5, 2) := by decide +kernel
theorem dX6_gameOne_109 : decode cX6_gameOne 109 = .ok (.iload_n 3, 1) := by decide +kernel
theorem dX6_gameOne_110 : decode cX6_gameOne 110 = .ok (.iconst 1, 1) := by decide +kernel
theorem dX6_gameOne_111 : decode cX6_gameOne 111 = .ok (.iload 5, 2) := by decide +kernel
theorem dX6_gameOne_113 : decode cX6_gameOne 113 = .ok (.ishl, 1) := by decide +kernel
theorem dX6_gameOne_114 : decode cX6_gameOne 114 = .ok (.ior, 1) := by decide +kernel
theorem dX6_gameOne_115 : decode cX6_gameOne 115 = .ok (.istore_n 3, 1) := by decide +kernel
theorem dX6_gameOne_116 : decode cX6_gameOne 116 = .ok (.iinc 4 1, 3) := by decide +kernel
theorem dX6_gameOne_119 : decode cX6_gameOne 119 = .ok (.iconst 0, 1) := by decide +kernel
theorem dX6_gameOne_120 : decode cX6_gameOne 120 = .ok (.istore 6, 2) := by decide +kernel
theorem dX6_gameOne_122 : decode cX6_gameOne 122 = .ok (.iconst 0, 1) := by decide +kernel
theorem dX6_gameOne_123 : decode cX6_gameOne 123 = .ok (.istore 7, 2) := by decide +kernel
theorem dX6_gameOne_125 : decode cX6_gameOne 125 = .ok (.iload 7, 2) := by decide +kernel
theorem dX6_gameOne_127 : decode cX6_gameOne 127 = .ok (.iload_n 1, 1) := by decide +kernel
theorem dX6_gameOne_128 : decode cX6_gameOne 128 = .ok (.if_icmp .ge 43, 3) := by decide +kernel
theorem dX6_gameOne_131 : decode cX6_gameOne 131 = .ok (.aload_n 0, 1) := by decide +kernel
theorem dX6_gameOne_132 : decode cX6_gameOne 132 = .ok (.getfield 47, 3) := by decide +kernel
theorem dX6_gameOne_135 : decode cX6_gameOne 135 = .ok (.iload 7, 2) := by decide +kernel
theorem dX6_gameOne_137 : decode cX6_gameOne 137 = .ok (.iaload, 1) := by decide +kernel
theorem dX6_gameOne_138 : decode cX6_gameOne 138 = .ok (.iload_n 2, 1) := by decide +kernel
theorem dX6_gameOne_139 : decode cX6_gameOne 139 = .ok (.ixor, 1) := by decide +kernel
theorem dX6_gameOne_140 : decode cX6_gameOne 140 = .ok (.iload 5, 2) := by decide +kernel
theorem dX6_gameOne_142 : decode cX6_gameOne 142 = .ok (.ishr, 1) := by decide +kernel
theorem dX6_gameOne_143 : decode cX6_gameOne 143 = .ok (.iconst 1, 1) := by decide +kernel
theorem dX6_gameOne_144 : decode cX6_gameOne 144 = .ok (.iand, 1) := by decide +kernel
theorem dX6_gameOne_145 : decode cX6_gameOne 145 = .ok (.ifCond .ne 20, 3) := by decide +kernel
theorem dX6_gameOne_148 : decode cX6_gameOne 148 = .ok (.aload_n 0, 1) := by decide +kernel
theorem dX6_gameOne_149 : decode cX6_gameOne 149 = .ok (.getfield 47, 3) := by decide +kernel
theorem dX6_gameOne_152 : decode cX6_gameOne 152 = .ok (.iload 6, 2) := by decide +kernel
theorem dX6_gameOne_154 : decode cX6_gameOne 154 = .ok (.aload_n 0, 1) := by decide +kernel
theorem dX6_gameOne_155 : decode cX6_gameOne 155 = .ok (.getfield 47, 3) := by decide +kernel
theorem dX6_gameOne_158 : decode cX6_gameOne 158 = .ok (.iload 7, 2) := by decide +kernel
theorem dX6_gameOne_160 : decode cX6_gameOne 160 = .ok (.iaload, 1) := by decide +kernel
theorem dX6_gameOne_161 : decode cX6_gameOne 161 = .ok (.iastore, 1) := by decide +kernel
theorem dX6_gameOne_162 : decode cX6_gameOne 162 = .ok (.iinc 6 1, 3) := by decide +kernel
theorem dX6_gameOne_165 : decode cX6_gameOne 165 = .ok (.iinc 7 1, 3) := by decide +kernel
theorem dX6_gameOne_168 : decode cX6_gameOne 168 = .ok (.goto (-43), 3) := by decide +kernel
theorem dX6_gameOne_171 : decode cX6_gameOne 171 = .ok (.iload 6, 2) := by decide +kernel
theorem dX6_gameOne_173 : decode cX6_gameOne 173 = .ok (.istore_n 1, 1) := by decide +kernel
theorem dX6_gameOne_174 : decode cX6_gameOne 174 = .ok (.goto (-143), 3) := by decide +kernel
theorem dX6_gameOne_177 : decode cX6_gameOne 177 = .ok (.iload 4, 2) := by decide +kernel
theorem dX6_gameOne_179 : decode cX6_gameOne 179 = .ok (.ireturn, 1) := by decide +kernel
theorem dX6_games_0 : decode cX6_games 0 = .ok (.iload_n 1, 1) := by decide +kernel
theorem dX6_games_1 : decode cX6_games 1 = .ok (.i2l, 1) := by decide +kernel
theorem dX6_games_2 : decode cX6_games 2 = .ok (.lconst 1, 1) := by decide +kernel
theorem dX6_games_3 : decode cX6_games 3 = .ok (.ldc2_w 325, 3) := by decide +kernel
theorem dX6_games_6 : decode cX6_games 6 = .ok (.invokestatic 78, 3) := by decide +kernel
theorem dX6_games_9 : decode cX6_games 9 = .ok (.ifCond .eq 19, 3) := by decide +kernel
theorem dX6_games_12 : decode cX6_games 12 = .ok (.iload_n 2, 1) := by decide +kernel
theorem dX6_games_13 : decode cX6_games 13 = .ok (.ifCond .lt 15, 3) := by decide +kernel
theorem dX6_games_16 : decode cX6_games 16 = .ok (.iload_n 3, 1) := by decide +kernel
theorem dX6_games_17 : decode cX6_games 17 = .ok (.i2l, 1) := by decide +kernel
theorem dX6_games_18 : decode cX6_games 18 = .ok (.lconst 0, 1) := by decide +kernel
theorem dX6_games_19 : decode cX6_games 19 = .ok (.ldc2_w 262, 3) := by decide +kernel
theorem dX6_games_22 : decode cX6_games 22 = .ok (.invokestatic 78, 3) := by decide +kernel
theorem dX6_games_25 : decode cX6_games 25 = .ok (.ifCond .ne 6, 3) := by decide +kernel
theorem dX6_games_28 : decode cX6_games 28 = .ok (.bipush (-102), 2) := by decide +kernel
theorem dX6_games_30 : decode cX6_games 30 = .ok (.ireturn, 1) := by decide +kernel
theorem dX6_games_31 : decode cX6_games 31 = .ok (.aload_n 0, 1) := by decide +kernel
theorem dX6_games_32 : decode cX6_games 32 = .ok (.invokevirtual 223, 3) := by decide +kernel
theorem dX6_games_35 : decode cX6_games 35 = .ok (.ifCond .ne 18, 3) := by decide +kernel
theorem dX6_games_38 : decode cX6_games 38 = .ok (.aload_n 0, 1) := by decide +kernel
theorem dX6_games_39 : decode cX6_games 39 = .ok (.invokevirtual 227, 3) := by decide +kernel
theorem dX6_games_42 : decode cX6_games 42 = .ok (.i2l, 1) := by decide +kernel
theorem dX6_games_43 : decode cX6_games 43 = .ok (.lconst 1, 1) := by decide +kernel
theorem dX6_games_44 : decode cX6_games 44 = .ok (.ldc2_w 327, 3) := by decide +kernel
theorem dX6_games_47 : decode cX6_games 47 = .ok (.invokestatic 78, 3) := by decide +kernel
theorem dX6_games_50 : decode cX6_games 50 = .ok (.ifCond .ne 6, 3) := by decide +kernel
theorem dX6_games_53 : decode cX6_games 53 = .ok (.bipush (-103), 2) := by decide +kernel
theorem dX6_games_55 : decode cX6_games 55 = .ok (.ireturn, 1) := by decide +kernel
theorem dX6_games_56 : decode cX6_games 56 = .ok (.aload_n 0, 1) := by decide +kernel
theorem dX6_games_57 : decode cX6_games 57 = .ok (.iload_n 2, 1) := by decide +kernel
theorem dX6_games_58 : decode cX6_games 58 = .ok (.putfield 311, 3) := by decide +kernel
theorem dX6_games_61 : decode cX6_games 61 = .ok (.iconst 0, 1) := by decide +kernel
theorem dX6_games_62 : decode cX6_games 62 = .ok (.istore 4, 2) := by decide +kernel
theorem dX6_games_64 : decode cX6_games 64 = .ok (.iconst 0, 1) := by decide +kernel
theorem dX6_games_65 : decode cX6_games 65 = .ok (.istore 5, 2) := by decide +kernel
theorem dX6_games_67 : decode cX6_games 67 = .ok (.iconst 0, 1) := by decide +kernel
theorem dX6_games_68 : decode cX6_games 68 = .ok (.istore 6, 2) := by decide +kernel
theorem dX6_games_70 : decode cX6_games 70 = .ok (.iload 6, 2) := by decide +kernel
theorem dX6_games_72 : decode cX6_games 72 = .ok (.iload_n 1, 1) := by decide +kernel
theorem dX6_games_73 : decode cX6_games 73 = .ok (.if_icmp .ge 38, 3) := by decide +kernel
theorem dX6_games_76 : decode cX6_games 76 = .ok (.aload_n 0, 1) := by decide +kernel
theorem dX6_games_77 : decode cX6_games 77 = .ok (.invokevirtual 329, 3) := by decide +kernel
theorem dX6_games_80 : decode cX6_games 80 = .ok (.istore 7, 2) := by decide +kernel
theorem dX6_games_82 : decode cX6_games 82 = .ok (.iload 4, 2) := by decide +kernel
theorem dX6_games_84 : decode cX6_games 84 = .ok (.iload 7, 2) := by decide +kernel
theorem dX6_games_86 : decode cX6_games 86 = .ok (.iadd, 1) := by decide +kernel
theorem dX6_games_87 : decode cX6_games 87 = .ok (.istore 4, 2) := by decide +kernel
theorem dX6_games_89 : decode cX6_games 89 = .ok (.iload 5, 2) := by decide +kernel
theorem dX6_games_91 : decode cX6_games 91 = .ok (.iload 7, 2) := by decide +kernel
theorem dX6_games_93 : decode cX6_games 93 = .ok (.iconst 3, 1) := by decide +kernel
theorem dX6_games_94 : decode cX6_games 94 = .ok (.if_icmp .ge 7, 3) := by decide +kernel
theorem dX6_games_97 : decode cX6_games 97 = .ok (.iconst 1, 1) := by decide +kernel
theorem dX6_games_98 : decode cX6_games 98 = .ok (.goto 4, 3) := by decide +kernel
theorem dX6_games_101 : decode cX6_games 101 = .ok (.iconst 0, 1) := by decide +kernel
theorem dX6_games_102 : decode cX6_games 102 = .ok (.iadd, 1) := by decide +kernel
theorem dX6_games_103 : decode cX6_games 103 = .ok (.istore 5, 2) := by decide +kernel
theorem dX6_games_105 : decode cX6_games 105 = .ok (.iinc 6 1, 3) := by decide +kernel
theorem dX6_games_108 : decode cX6_games 108 = .ok (.goto (-38), 3) := by decide +kernel
theorem dX6_games_111 : decode cX6_games 111 = .ok (.iload_n 3, 1) := by decide +kernel
theorem dX6_games_112 : decode cX6_games 112 = .ok (.ifCond .ne 8, 3) := by decide +kernel
theorem dX6_games_115 : decode cX6_games 115 = .ok (.iload 4, 2) := by decide +kernel
theorem dX6_games_117 : decode cX6_games 117 = .ok (.goto 17, 3) := by decide +kernel
theorem dX6_games_120 : decode cX6_games 120 = .ok (.iload_n 3, 1) := by decide +kernel
theorem dX6_games_121 : decode cX6_games 121 = .ok (.iconst 1, 1) := by decide +kernel
theorem dX6_games_122 : decode cX6_games 122 = .ok (.if_icmp .ne 8, 3) := by decide +kernel
theorem dX6_games_125 : decode cX6_games 125 = .ok (.iload 5, 2) := by decide +kernel
theorem dX6_games_127 : decode cX6_games 127 = .ok (.goto 7, 3) := by decide +kernel
theorem dX6_games_130 : decode cX6_games 130 = .ok (.aload_n 0, 1) := by decide +kernel
theorem dX6_games_131 : decode cX6_games 131 = .ok (.getfield 311, 3) := by decide +kernel
theorem dX6_games_134 : decode cX6_games 134 = .ok (.ireturn, 1) := by decide +kernel
theorem dX6_image_0 : decode cX6_image 0 = .ok (.aload_n 0, 1) := by decide +kernel
theorem dX6_image_1 : decode cX6_image 1 = .ok (.invokevirtual 223, 3) := by decide +kernel
theorem dX6_image_4 : decode cX6_image 4 = .ok (.ifCond .eq 6, 3) := by decide +kernel
theorem dX6_image_7 : decode cX6_image 7 = .ok (.bipush (-103), 2) := by decide +kernel
theorem dX6_image_9 : decode cX6_image 9 = .ok (.ireturn, 1) := by decide +kernel
theorem dX6_image_10 : decode cX6_image 10 = .ok (.aload_n 0, 1) := by decide +kernel
theorem dX6_image_11 : decode cX6_image 11 = .ok (.getfield 22, 3) := by decide +kernel
theorem dX6_image_14 : decode cX6_image 14 = .ok (.aload_n 0, 1) := by decide +kernel
theorem dX6_image_15 : decode cX6_image 15 = .ok (.getfield 53, 3) := by decide +kernel
theorem dX6_image_18 : decode cX6_image 18 = .ok (.invokestatic 147, 3) := by decide +kernel
theorem dX6_image_21 : decode cX6_image 21 = .ok (.aload_n 0, 1) := by decide +kernel
theorem dX6_image_22 : decode cX6_image 22 = .ok (.getfield 25, 3) := by decide +kernel
theorem dX6_image_25 : decode cX6_image 25 = .ok (.aload_n 0, 1) := by decide +kernel
theorem dX6_image_26 : decode cX6_image 26 = .ok (.getfield 56, 3) := by decide +kernel
theorem dX6_image_29 : decode cX6_image 29 = .ok (.invokestatic 147, 3) := by decide +kernel
theorem dX6_image_32 : decode cX6_image 32 = .ok (.aload_n 0, 1) := by decide +kernel
theorem dX6_image_33 : decode cX6_image 33 = .ok (.getfield 28, 3) := by decide +kernel
theorem dX6_image_36 : decode cX6_image 36 = .ok (.aload_n 0, 1) := by decide +kernel
theorem dX6_image_37 : decode cX6_image 37 = .ok (.getfield 59, 3) := by decide +kernel
theorem dX6_image_40 : decode cX6_image 40 = .ok (.invokestatic 147, 3) := by decide +kernel
theorem dX6_image_43 : decode cX6_image 43 = .ok (.aload_n 0, 1) := by decide +kernel
theorem dX6_image_44 : decode cX6_image 44 = .ok (.getfield 31, 3) := by decide +kernel
theorem dX6_image_47 : decode cX6_image 47 = .ok (.aload_n 0, 1) := by decide +kernel
theorem dX6_image_48 : decode cX6_image 48 = .ok (.getfield 62, 3) := by decide +kernel
theorem dX6_image_51 : decode cX6_image 51 = .ok (.invokestatic 147, 3) := by decide +kernel
theorem dX6_image_54 : decode cX6_image 54 = .ok (.aload_n 0, 1) := by decide +kernel
theorem dX6_image_55 : decode cX6_image 55 = .ok (.getfield 44, 3) := by decide +kernel
theorem dX6_image_58 : decode cX6_image 58 = .ok (.aload_n 0, 1) := by decide +kernel
theorem dX6_image_59 : decode cX6_image 59 = .ok (.getfield 65, 3) := by decide +kernel
theorem dX6_image_62 : decode cX6_image 62 = .ok (.invokestatic 147, 3) := by decide +kernel
theorem dX6_image_65 : decode cX6_image 65 = .ok (.aload_n 0, 1) := by decide +kernel
theorem dX6_image_66 : decode cX6_image 66 = .ok (.aload_n 0, 1) := by decide +kernel
theorem dX6_image_67 : decode cX6_image 67 = .ok (.getfield 151, 3) := by decide +kernel
theorem dX6_image_70 : decode cX6_image 70 = .ok (.putfield 332, 3) := by decide +kernel
theorem dX6_image_73 : decode cX6_image 73 = .ok (.aload_n 0, 1) := by decide +kernel
theorem dX6_image_74 : decode cX6_image 74 = .ok (.aload_n 0, 1) := by decide +kernel
theorem dX6_image_75 : decode cX6_image 75 = .ok (.getfield 154, 3) := by decide +kernel
theorem dX6_image_78 : decode cX6_image 78 = .ok (.putfield 68, 3) := by decide +kernel
theorem dX6_image_81 : decode cX6_image 81 = .ok (.aload_n 0, 1) := by decide +kernel
theorem dX6_image_82 : decode cX6_image 82 = .ok (.invokevirtual 264, 3) := by decide +kernel
theorem dX6_image_85 : decode cX6_image 85 = .ok (.ireturn, 1) := by decide +kernel
theorem dX6_restore_0 : decode cX6_restore 0 = .ok (.aload_n 0, 1) := by decide +kernel
theorem dX6_restore_1 : decode cX6_restore 1 = .ok (.getfield 68, 3) := by decide +kernel
theorem dX6_restore_4 : decode cX6_restore 4 = .ok (.aload_n 0, 1) := by decide +kernel
theorem dX6_restore_5 : decode cX6_restore 5 = .ok (.getfield 154, 3) := by decide +kernel
theorem dX6_restore_8 : decode cX6_restore 8 = .ok (.if_icmp .eq 6, 3) := by decide +kernel
theorem dX6_restore_11 : decode cX6_restore 11 = .ok (.bipush (-103), 2) := by decide +kernel
theorem dX6_restore_13 : decode cX6_restore 13 = .ok (.ireturn, 1) := by decide +kernel
theorem dX6_restore_14 : decode cX6_restore 14 = .ok (.aload_n 0, 1) := by decide +kernel
theorem dX6_restore_15 : decode cX6_restore 15 = .ok (.getfield 53, 3) := by decide +kernel
theorem dX6_restore_18 : decode cX6_restore 18 = .ok (.aload_n 0, 1) := by decide +kernel
theorem dX6_restore_19 : decode cX6_restore 19 = .ok (.getfield 22, 3) := by decide +kernel
theorem dX6_restore_22 : decode cX6_restore 22 = .ok (.invokestatic 147, 3) := by decide +kernel
theorem dX6_restore_25 : decode cX6_restore 25 = .ok (.aload_n 0, 1) := by decide +kernel
theorem dX6_restore_26 : decode cX6_restore 26 = .ok (.getfield 56, 3) := by decide +kernel
theorem dX6_restore_29 : decode cX6_restore 29 = .ok (.aload_n 0, 1) := by decide +kernel
theorem dX6_restore_30 : decode cX6_restore 30 = .ok (.getfield 25, 3) := by decide +kernel
theorem dX6_restore_33 : decode cX6_restore 33 = .ok (.invokestatic 147, 3) := by decide +kernel
theorem dX6_restore_36 : decode cX6_restore 36 = .ok (.aload_n 0, 1) := by decide +kernel
theorem dX6_restore_37 : decode cX6_restore 37 = .ok (.getfield 59, 3) := by decide +kernel
theorem dX6_restore_40 : decode cX6_restore 40 = .ok (.aload_n 0, 1) := by decide +kernel
theorem dX6_restore_41 : decode cX6_restore 41 = .ok (.getfield 28, 3) := by decide +kernel
theorem dX6_restore_44 : decode cX6_restore 44 = .ok (.invokestatic 147, 3) := by decide +kernel
theorem dX6_restore_47 : decode cX6_restore 47 = .ok (.aload_n 0, 1) := by decide +kernel
theorem dX6_restore_48 : decode cX6_restore 48 = .ok (.getfield 62, 3) := by decide +kernel
theorem dX6_restore_51 : decode cX6_restore 51 = .ok (.aload_n 0, 1) := by decide +kernel
theorem dX6_restore_52 : decode cX6_restore 52 = .ok (.getfield 31, 3) := by decide +kernel
theorem dX6_restore_55 : decode cX6_restore 55 = .ok (.invokestatic 147, 3) := by decide +kernel
theorem dX6_restore_58 : decode cX6_restore 58 = .ok (.aload_n 0, 1) := by decide +kernel
theorem dX6_restore_59 : decode cX6_restore 59 = .ok (.getfield 65, 3) := by decide +kernel
theorem dX6_restore_62 : decode cX6_restore 62 = .ok (.aload_n 0, 1) := by decide +kernel
theorem dX6_restore_63 : decode cX6_restore 63 = .ok (.getfield 44, 3) := by decide +kernel
theorem dX6_restore_66 : decode cX6_restore 66 = .ok (.invokestatic 147, 3) := by decide +kernel
theorem dX6_restore_69 : decode cX6_restore 69 = .ok (.aload_n 0, 1) := by decide +kernel
theorem dX6_restore_70 : decode cX6_restore 70 = .ok (.aload_n 0, 1) := by decide +kernel
theorem dX6_restore_71 : decode cX6_restore 71 = .ok (.getfield 332, 3) := by decide +kernel
theorem dX6_restore_74 : decode cX6_restore 74 = .ok (.putfield 151, 3) := by decide +kernel
theorem dX6_restore_77 : decode cX6_restore 77 = .ok (.aload_n 0, 1) := by decide +kernel
theorem dX6_restore_78 : decode cX6_restore 78 = .ok (.iconst 1, 1) := by decide +kernel
theorem dX6_restore_79 : decode cX6_restore 79 = .ok (.putfield 72, 3) := by decide +kernel
theorem dX6_restore_82 : decode cX6_restore 82 = .ok (.aload_n 0, 1) := by decide +kernel
theorem dX6_restore_83 : decode cX6_restore 83 = .ok (.invokevirtual 264, 3) := by decide +kernel
theorem dX6_restore_86 : decode cX6_restore 86 = .ok (.ireturn, 1) := by decide +kernel
theorem dX6_sureMany_0 : decode cX6_sureMany 0 = .ok (.iconst 0, 1) := by decide +kernel
theorem dX6_sureMany_1 : decode cX6_sureMany 1 = .ok (.istore_n 1, 1) := by decide +kernel
theorem dX6_sureMany_2 : decode cX6_sureMany 2 = .ok (.iconst 0, 1) := by decide +kernel
theorem dX6_sureMany_3 : decode cX6_sureMany 3 = .ok (.istore_n 2, 1) := by decide +kernel
theorem dX6_sureMany_4 : decode cX6_sureMany 4 = .ok (.iload_n 2, 1) := by decide +kernel
theorem dX6_sureMany_5 : decode cX6_sureMany 5 = .ok (.aload_n 0, 1) := by decide +kernel
theorem dX6_sureMany_6 : decode cX6_sureMany 6 = .ok (.getfield 141, 3) := by decide +kernel
theorem dX6_sureMany_9 : decode cX6_sureMany 9 = .ok (.aload_n 0, 1) := by decide +kernel
theorem dX6_sureMany_10 : decode cX6_sureMany 10 = .ok (.getfield 144, 3) := by decide +kernel
theorem dX6_sureMany_13 : decode cX6_sureMany 13 = .ok (.imul, 1) := by decide +kernel
theorem dX6_sureMany_14 : decode cX6_sureMany 14 = .ok (.if_icmp .ge 26, 3) := by decide +kernel
theorem dX6_sureMany_17 : decode cX6_sureMany 17 = .ok (.iload_n 1, 1) := by decide +kernel
theorem dX6_sureMany_18 : decode cX6_sureMany 18 = .ok (.aload_n 0, 1) := by decide +kernel
theorem dX6_sureMany_19 : decode cX6_sureMany 19 = .ok (.iload_n 2, 1) := by decide +kernel
theorem dX6_sureMany_20 : decode cX6_sureMany 20 = .ok (.invokevirtual 239, 3) := by decide +kernel
theorem dX6_sureMany_23 : decode cX6_sureMany 23 = .ok (.iconst (-1), 1) := by decide +kernel
theorem dX6_sureMany_24 : decode cX6_sureMany 24 = .ok (.if_icmp .ne 7, 3) := by decide +kernel
theorem dX6_sureMany_27 : decode cX6_sureMany 27 = .ok (.iconst 0, 1) := by decide +kernel
theorem dX6_sureMany_28 : decode cX6_sureMany 28 = .ok (.goto 4, 3) := by decide +kernel
theorem dX6_sureMany_31 : decode cX6_sureMany 31 = .ok (.iconst 1, 1) := by decide +kernel
theorem dX6_sureMany_32 : decode cX6_sureMany 32 = .ok (.iadd, 1) := by decide +kernel
theorem dX6_sureMany_33 : decode cX6_sureMany 33 = .ok (.istore_n 1, 1) := by decide +kernel
theorem dX6_sureMany_34 : decode cX6_sureMany 34 = .ok (.iinc 2 1, 3) := by decide +kernel
theorem dX6_sureMany_37 : decode cX6_sureMany 37 = .ok (.goto (-33), 3) := by decide +kernel
theorem dX6_sureMany_40 : decode cX6_sureMany 40 = .ok (.iload_n 1, 1) := by decide +kernel
theorem dX6_sureMany_41 : decode cX6_sureMany 41 = .ok (.ireturn, 1) := by decide +kernel
theorem dX6_countOf_0 : decode cX6_countOf 0 = .ok (.iload_n 1, 1) := by decide +kernel
theorem dX6_countOf_1 : decode cX6_countOf 1 = .ok (.tableswitch 120 0 10 #[59, 64, 69, 79, 79, 90, 95, 100, 105, 110, 115], 59) := by decide +kernel
theorem dX6_countOf_60 : decode cX6_countOf 60 = .ok (.aload_n 0, 1) := by decide +kernel
theorem dX6_countOf_61 : decode cX6_countOf 61 = .ok (.getfield 141, 3) := by decide +kernel
theorem dX6_countOf_64 : decode cX6_countOf 64 = .ok (.ireturn, 1) := by decide +kernel
theorem dX6_countOf_65 : decode cX6_countOf 65 = .ok (.aload_n 0, 1) := by decide +kernel
theorem dX6_countOf_66 : decode cX6_countOf 66 = .ok (.getfield 144, 3) := by decide +kernel
theorem dX6_countOf_69 : decode cX6_countOf 69 = .ok (.ireturn, 1) := by decide +kernel
theorem dX6_countOf_70 : decode cX6_countOf 70 = .ok (.aload_n 0, 1) := by decide +kernel
theorem dX6_countOf_71 : decode cX6_countOf 71 = .ok (.getfield 141, 3) := by decide +kernel
theorem dX6_countOf_74 : decode cX6_countOf 74 = .ok (.aload_n 0, 1) := by decide +kernel
theorem dX6_countOf_75 : decode cX6_countOf 75 = .ok (.getfield 144, 3) := by decide +kernel
theorem dX6_countOf_78 : decode cX6_countOf 78 = .ok (.iadd, 1) := by decide +kernel
theorem dX6_countOf_79 : decode cX6_countOf 79 = .ok (.ireturn, 1) := by decide +kernel
theorem dX6_countOf_80 : decode cX6_countOf 80 = .ok (.aload_n 0, 1) := by decide +kernel
theorem dX6_countOf_81 : decode cX6_countOf 81 = .ok (.iload_n 1, 1) := by decide +kernel
theorem dX6_countOf_82 : decode cX6_countOf 82 = .ok (.iconst 2, 1) := by decide +kernel
theorem dX6_countOf_83 : decode cX6_countOf 83 = .ok (.isub, 1) := by decide +kernel
theorem dX6_countOf_84 : decode cX6_countOf 84 = .ok (.invokevirtual 204, 3) := by decide +kernel
theorem dX6_countOf_87 : decode cX6_countOf 87 = .ok (.invokestatic 173, 3) := by decide +kernel
theorem dX6_countOf_90 : decode cX6_countOf 90 = .ok (.ireturn, 1) := by decide +kernel
theorem dX6_countOf_91 : decode cX6_countOf 91 = .ok (.aload_n 0, 1) := by decide +kernel
theorem dX6_countOf_92 : decode cX6_countOf 92 = .ok (.invokevirtual 335, 3) := by decide +kernel
theorem dX6_countOf_95 : decode cX6_countOf 95 = .ok (.ireturn, 1) := by decide +kernel
theorem dX6_countOf_96 : decode cX6_countOf 96 = .ok (.aload_n 0, 1) := by decide +kernel
theorem dX6_countOf_97 : decode cX6_countOf 97 = .ok (.getfield 151, 3) := by decide +kernel
theorem dX6_countOf_100 : decode cX6_countOf 100 = .ok (.ireturn, 1) := by decide +kernel
theorem dX6_countOf_101 : decode cX6_countOf 101 = .ok (.aload_n 0, 1) := by decide +kernel
theorem dX6_countOf_102 : decode cX6_countOf 102 = .ok (.getfield 82, 3) := by decide +kernel
theorem dX6_countOf_105 : decode cX6_countOf 105 = .ok (.ireturn, 1) := by decide +kernel
theorem dX6_countOf_106 : decode cX6_countOf 106 = .ok (.aload_n 0, 1) := by decide +kernel
theorem dX6_countOf_107 : decode cX6_countOf 107 = .ok (.getfield 154, 3) := by decide +kernel
theorem dX6_countOf_110 : decode cX6_countOf 110 = .ok (.ireturn, 1) := by decide +kernel
theorem dX6_countOf_111 : decode cX6_countOf 111 = .ok (.aload_n 0, 1) := by decide +kernel
theorem dX6_countOf_112 : decode cX6_countOf 112 = .ok (.getfield 288, 3) := by decide +kernel
theorem dX6_countOf_115 : decode cX6_countOf 115 = .ok (.ireturn, 1) := by decide +kernel
theorem dX6_countOf_116 : decode cX6_countOf 116 = .ok (.aload_n 0, 1) := by decide +kernel
theorem dX6_countOf_117 : decode cX6_countOf 117 = .ok (.getfield 300, 3) := by decide +kernel
theorem dX6_countOf_120 : decode cX6_countOf 120 = .ok (.ireturn, 1) := by decide +kernel
theorem dX6_countOf_121 : decode cX6_countOf 121 = .ok (.bipush (-102), 2) := by decide +kernel
theorem dX6_countOf_123 : decode cX6_countOf 123 = .ok (.ireturn, 1) := by decide +kernel
theorem dX6_count_0 : decode cX6_count 0 = .ok (.aload_n 0, 1) := by decide +kernel
theorem dX6_count_1 : decode cX6_count 1 = .ok (.iload_n 1, 1) := by decide +kernel
theorem dX6_count_2 : decode cX6_count 2 = .ok (.invokevirtual 338, 3) := by decide +kernel
theorem dX6_count_5 : decode cX6_count 5 = .ok (.ireturn, 1) := by decide +kernel
theorem dX6_say_0 : decode cX6_say 0 = .ok (.aload_n 0, 1) := by decide +kernel
theorem dX6_say_1 : decode cX6_say 1 = .ok (.ldc2_w 341, 3) := by decide +kernel
theorem dX6_say_4 : decode cX6_say 4 = .ok (.aload_n 0, 1) := by decide +kernel
theorem dX6_say_5 : decode cX6_say 5 = .ok (.getfield 343, 3) := by decide +kernel
theorem dX6_say_8 : decode cX6_say 8 = .ok (.lmul, 1) := by decide +kernel
theorem dX6_say_9 : decode cX6_say 9 = .ok (.lload_n 1, 1) := by decide +kernel
theorem dX6_say_10 : decode cX6_say 10 = .ok (.ladd, 1) := by decide +kernel
theorem dX6_say_11 : decode cX6_say 11 = .ok (.putfield 343, 3) := by decide +kernel
theorem dX6_say_14 : decode cX6_say 14 = .ok (.return_, 1) := by decide +kernel
theorem dX6_sayLine_0 : decode cX6_sayLine 0 = .ok (.iconst 0, 1) := by decide +kernel
theorem dX6_sayLine_1 : decode cX6_sayLine 1 = .ok (.istore_n 2, 1) := by decide +kernel
theorem dX6_sayLine_2 : decode cX6_sayLine 2 = .ok (.iload_n 2, 1) := by decide +kernel
theorem dX6_sayLine_3 : decode cX6_sayLine 3 = .ok (.bipush 7, 2) := by decide +kernel
theorem dX6_sayLine_5 : decode cX6_sayLine 5 = .ok (.if_icmp .ge 25, 3) := by decide +kernel
theorem dX6_sayLine_8 : decode cX6_sayLine 8 = .ok (.iload_n 2, 1) := by decide +kernel
theorem dX6_sayLine_9 : decode cX6_sayLine 9 = .ok (.iconst 4, 1) := by decide +kernel
theorem dX6_sayLine_10 : decode cX6_sayLine 10 = .ok (.if_icmp .eq 14, 3) := by decide +kernel
theorem dX6_sayLine_13 : decode cX6_sayLine 13 = .ok (.aload_n 0, 1) := by decide +kernel
theorem dX6_sayLine_14 : decode cX6_sayLine 14 = .ok (.aload_n 0, 1) := by decide +kernel
theorem dX6_sayLine_15 : decode cX6_sayLine 15 = .ok (.iload_n 1, 1) := by decide +kernel
theorem dX6_sayLine_16 : decode cX6_sayLine 16 = .ok (.iload_n 2, 1) := by decide +kernel
theorem dX6_sayLine_17 : decode cX6_sayLine 17 = .ok (.invokevirtual 257, 3) := by decide +kernel
theorem dX6_sayLine_20 : decode cX6_sayLine 20 = .ok (.i2l, 1) := by decide +kernel
theorem dX6_sayLine_21 : decode cX6_sayLine 21 = .ok (.invokevirtual 347, 3) := by decide +kernel
theorem dX6_sayLine_24 : decode cX6_sayLine 24 = .ok (.iinc 2 1, 3) := by decide +kernel
theorem dX6_sayLine_27 : decode cX6_sayLine 27 = .ok (.goto (-25), 3) := by decide +kernel
theorem dX6_sayLine_30 : decode cX6_sayLine 30 = .ok (.return_, 1) := by decide +kernel
theorem dX6_digest_0 : decode cX6_digest 0 = .ok (.aload_n 0, 1) := by decide +kernel
theorem dX6_digest_1 : decode cX6_digest 1 = .ok (.ldc2_w 351, 3) := by decide +kernel
theorem dX6_digest_4 : decode cX6_digest 4 = .ok (.putfield 343, 3) := by decide +kernel
theorem dX6_digest_7 : decode cX6_digest 7 = .ok (.iconst 0, 1) := by decide +kernel
theorem dX6_digest_8 : decode cX6_digest 8 = .ok (.istore_n 1, 1) := by decide +kernel
theorem dX6_digest_9 : decode cX6_digest 9 = .ok (.iload_n 1, 1) := by decide +kernel
theorem dX6_digest_10 : decode cX6_digest 10 = .ok (.aload_n 0, 1) := by decide +kernel
theorem dX6_digest_11 : decode cX6_digest 11 = .ok (.getfield 141, 3) := by decide +kernel
theorem dX6_digest_14 : decode cX6_digest 14 = .ok (.aload_n 0, 1) := by decide +kernel
theorem dX6_digest_15 : decode cX6_digest 15 = .ok (.getfield 144, 3) := by decide +kernel
theorem dX6_digest_18 : decode cX6_digest 18 = .ok (.iadd, 1) := by decide +kernel
theorem dX6_digest_19 : decode cX6_digest 19 = .ok (.if_icmp .ge 14, 3) := by decide +kernel
theorem dX6_digest_22 : decode cX6_digest 22 = .ok (.aload_n 0, 1) := by decide +kernel
theorem dX6_digest_23 : decode cX6_digest 23 = .ok (.iload_n 1, 1) := by decide +kernel
theorem dX6_digest_24 : decode cX6_digest 24 = .ok (.invokevirtual 353, 3) := by decide +kernel
theorem dX6_digest_27 : decode cX6_digest 27 = .ok (.iinc 1 1, 3) := by decide +kernel
theorem dX6_digest_30 : decode cX6_digest 30 = .ok (.goto (-21), 3) := by decide +kernel
theorem dX6_digest_33 : decode cX6_digest 33 = .ok (.iconst 0, 1) := by decide +kernel
theorem dX6_digest_34 : decode cX6_digest 34 = .ok (.istore_n 1, 1) := by decide +kernel
theorem dX6_digest_35 : decode cX6_digest 35 = .ok (.iload_n 1, 1) := by decide +kernel
theorem dX6_digest_36 : decode cX6_digest 36 = .ok (.aload_n 0, 1) := by decide +kernel
theorem dX6_digest_37 : decode cX6_digest 37 = .ok (.getfield 141, 3) := by decide +kernel
theorem dX6_digest_40 : decode cX6_digest 40 = .ok (.aload_n 0, 1) := by decide +kernel
theorem dX6_digest_41 : decode cX6_digest 41 = .ok (.getfield 144, 3) := by decide +kernel
theorem dX6_digest_44 : decode cX6_digest 44 = .ok (.imul, 1) := by decide +kernel
theorem dX6_digest_45 : decode cX6_digest 45 = .ok (.if_icmp .ge 40, 3) := by decide +kernel
theorem dX6_digest_48 : decode cX6_digest 48 = .ok (.aload_n 0, 1) := by decide +kernel
theorem dX6_digest_49 : decode cX6_digest 49 = .ok (.aload_n 0, 1) := by decide +kernel
theorem dX6_digest_50 : decode cX6_digest 50 = .ok (.getfield 31, 3) := by decide +kernel
theorem dX6_digest_53 : decode cX6_digest 53 = .ok (.iload_n 1, 1) := by decide +kernel
theorem dX6_digest_54 : decode cX6_digest 54 = .ok (.iaload, 1) := by decide +kernel
theorem dX6_digest_55 : decode cX6_digest 55 = .ok (.i2l, 1) := by decide +kernel
theorem dX6_digest_56 : decode cX6_digest 56 = .ok (.invokevirtual 347, 3) := by decide +kernel
theorem dX6_digest_59 : decode cX6_digest 59 = .ok (.aload_n 0, 1) := by decide +kernel
theorem dX6_digest_60 : decode cX6_digest 60 = .ok (.aload_n 0, 1) := by decide +kernel
theorem dX6_digest_61 : decode cX6_digest 61 = .ok (.iload_n 1, 1) := by decide +kernel
theorem dX6_digest_62 : decode cX6_digest 62 = .ok (.invokevirtual 236, 3) := by decide +kernel
theorem dX6_digest_65 : decode cX6_digest 65 = .ok (.i2l, 1) := by decide +kernel
theorem dX6_digest_66 : decode cX6_digest 66 = .ok (.invokevirtual 347, 3) := by decide +kernel
theorem dX6_digest_69 : decode cX6_digest 69 = .ok (.aload_n 0, 1) := by decide +kernel
theorem dX6_digest_70 : decode cX6_digest 70 = .ok (.aload_n 0, 1) := by decide +kernel
theorem dX6_digest_71 : decode cX6_digest 71 = .ok (.iload_n 1, 1) := by decide +kernel
theorem dX6_digest_72 : decode cX6_digest 72 = .ok (.invokevirtual 239, 3) := by decide +kernel
theorem dX6_digest_75 : decode cX6_digest 75 = .ok (.i2l, 1) := by decide +kernel
theorem dX6_digest_76 : decode cX6_digest 76 = .ok (.invokevirtual 347, 3) := by decide +kernel
theorem dX6_digest_79 : decode cX6_digest 79 = .ok (.iinc 1 1, 3) := by decide +kernel
theorem dX6_digest_82 : decode cX6_digest 82 = .ok (.goto (-47), 3) := by decide +kernel
theorem dX6_digest_85 : decode cX6_digest 85 = .ok (.aload_n 0, 1) := by decide +kernel
theorem dX6_digest_86 : decode cX6_digest 86 = .ok (.invokevirtual 223, 3) := by decide +kernel
theorem dX6_digest_89 : decode cX6_digest 89 = .ok (.ifCond .ne 31, 3) := by decide +kernel
theorem dX6_digest_92 : decode cX6_digest 92 = .ok (.aload_n 0, 1) := by decide +kernel
theorem dX6_digest_93 : decode cX6_digest 93 = .ok (.aload_n 0, 1) := by decide +kernel
theorem dX6_digest_94 : decode cX6_digest 94 = .ok (.invokevirtual 227, 3) := by decide +kernel
theorem dX6_digest_97 : decode cX6_digest 97 = .ok (.i2l, 1) := by decide +kernel
theorem dX6_digest_98 : decode cX6_digest 98 = .ok (.invokevirtual 347, 3) := by decide +kernel
theorem dX6_digest_101 : decode cX6_digest 101 = .ok (.aload_n 0, 1) := by decide +kernel
theorem dX6_digest_102 : decode cX6_digest 102 = .ok (.aload_n 0, 1) := by decide +kernel
theorem dX6_digest_103 : decode cX6_digest 103 = .ok (.iconst 0, 1) := by decide +kernel
theorem dX6_digest_104 : decode cX6_digest 104 = .ok (.invokevirtual 233, 3) := by decide +kernel
theorem dX6_digest_107 : decode cX6_digest 107 = .ok (.i2l, 1) := by decide +kernel
theorem dX6_digest_108 : decode cX6_digest 108 = .ok (.invokevirtual 347, 3) := by decide +kernel
theorem dX6_digest_111 : decode cX6_digest 111 = .ok (.aload_n 0, 1) := by decide +kernel
theorem dX6_digest_112 : decode cX6_digest 112 = .ok (.aload_n 0, 1) := by decide +kernel
theorem dX6_digest_113 : decode cX6_digest 113 = .ok (.invokevirtual 272, 3) := by decide +kernel
theorem dX6_digest_116 : decode cX6_digest 116 = .ok (.i2l, 1) := by decide +kernel
theorem dX6_digest_117 : decode cX6_digest 117 = .ok (.invokevirtual 347, 3) := by decide +kernel
theorem dX6_digest_120 : decode cX6_digest 120 = .ok (.iconst 0, 1) := by decide +kernel
theorem dX6_digest_121 : decode cX6_digest 121 = .ok (.istore_n 1, 1) := by decide +kernel
theorem dX6_digest_122 : decode cX6_digest 122 = .ok (.iload_n 1, 1) := by decide +kernel
theorem dX6_digest_123 : decode cX6_digest 123 = .ok (.aload_n 0, 1) := by decide +kernel
theorem dX6_digest_124 : decode cX6_digest 124 = .ok (.getfield 82, 3) := by decide +kernel
theorem dX6_digest_127 : decode cX6_digest 127 = .ok (.if_icmp .ge 20, 3) := by decide +kernel
theorem dX6_digest_130 : decode cX6_digest 130 = .ok (.aload_n 0, 1) := by decide +kernel
theorem dX6_digest_131 : decode cX6_digest 131 = .ok (.aload_n 0, 1) := by decide +kernel
theorem dX6_digest_132 : decode cX6_digest 132 = .ok (.getfield 7, 3) := by decide +kernel
theorem dX6_digest_135 : decode cX6_digest 135 = .ok (.iload_n 1, 1) := by decide +kernel
theorem dX6_digest_136 : decode cX6_digest 136 = .ok (.iaload, 1) := by decide +kernel
theorem dX6_digest_137 : decode cX6_digest 137 = .ok (.i2l, 1) := by decide +kernel
theorem dX6_digest_138 : decode cX6_digest 138 = .ok (.invokevirtual 347, 3) := by decide +kernel
theorem dX6_digest_141 : decode cX6_digest 141 = .ok (.iinc 1 1, 3) := by decide +kernel
theorem dX6_digest_144 : decode cX6_digest 144 = .ok (.goto (-22), 3) := by decide +kernel
theorem dX6_digest_147 : decode cX6_digest 147 = .ok (.iconst 0, 1) := by decide +kernel
theorem dX6_digest_148 : decode cX6_digest 148 = .ok (.istore_n 1, 1) := by decide +kernel
theorem dX6_digest_149 : decode cX6_digest 149 = .ok (.iload_n 1, 1) := by decide +kernel
theorem dX6_digest_150 : decode cX6_digest 150 = .ok (.bipush 11, 2) := by decide +kernel
theorem dX6_digest_152 : decode cX6_digest 152 = .ok (.if_icmp .ge 19, 3) := by decide +kernel
theorem dX6_digest_155 : decode cX6_digest 155 = .ok (.aload_n 0, 1) := by decide +kernel
theorem dX6_digest_156 : decode cX6_digest 156 = .ok (.aload_n 0, 1) := by decide +kernel
theorem dX6_digest_157 : decode cX6_digest 157 = .ok (.iload_n 1, 1) := by decide +kernel
theorem dX6_digest_158 : decode cX6_digest 158 = .ok (.invokevirtual 338, 3) := by decide +kernel
theorem dX6_digest_161 : decode cX6_digest 161 = .ok (.i2l, 1) := by decide +kernel
theorem dX6_digest_162 : decode cX6_digest 162 = .ok (.invokevirtual 347, 3) := by decide +kernel
theorem dX6_digest_165 : decode cX6_digest 165 = .ok (.iinc 1 1, 3) := by decide +kernel
theorem dX6_digest_168 : decode cX6_digest 168 = .ok (.goto (-19), 3) := by decide +kernel
theorem dX6_digest_171 : decode cX6_digest 171 = .ok (.aload_n 0, 1) := by decide +kernel
theorem dX6_digest_172 : decode cX6_digest 172 = .ok (.getfield 343, 3) := by decide +kernel
theorem dX6_digest_175 : decode cX6_digest 175 = .ok (.lreturn, 1) := by decide +kernel
end
section
theorem dL_law_0 : decode cL_law 0 = .ok (.new 7, 3) := by decide +kernel
theorem dL_law_3 : decode cL_law 3 = .ok (.dup, 1) := by decide +kernel
theorem dL_law_4 : decode cL_law 4 = .ok (.invokespecial 9, 3) := by decide +kernel
theorem dL_law_7 : decode cL_law 7 = .ok (.astore_n 1, 1) := by decide +kernel
theorem dL_law_8 : decode cL_law 8 = .ok (.new 10, 3) := by decide +kernel
theorem dL_law_11 : decode cL_law 11 = .ok (.dup, 1) := by decide +kernel
theorem dL_law_12 : decode cL_law 12 = .ok (.invokespecial 12, 3) := by decide +kernel
theorem dL_law_15 : decode cL_law 15 = .ok (.astore_n 2, 1) := by decide +kernel
theorem dL_law_16 : decode cL_law 16 = .ok (.iconst 0, 1) := by decide +kernel
theorem dL_law_17 : decode cL_law 17 = .ok (.istore_n 3, 1) := by decide +kernel
theorem dL_law_18 : decode cL_law 18 = .ok (.iload_n 3, 1) := by decide +kernel
theorem dL_law_19 : decode cL_law 19 = .ok (.aload_n 0, 1) := by decide +kernel
theorem dL_law_20 : decode cL_law 20 = .ok (.arraylength, 1) := by decide +kernel
theorem dL_law_21 : decode cL_law 21 = .ok (.iconst 5, 1) := by decide +kernel
theorem dL_law_22 : decode cL_law 22 = .ok (.isub, 1) := by decide +kernel
theorem dL_law_23 : decode cL_law 23 = .ok (.if_icmp .gt 726, 3) := by decide +kernel
theorem dL_law_26 : decode cL_law 26 = .ok (.aload_n 0, 1) := by decide +kernel
theorem dL_law_27 : decode cL_law 27 = .ok (.iload_n 3, 1) := by decide +kernel
theorem dL_law_28 : decode cL_law 28 = .ok (.iaload, 1) := by decide +kernel
theorem dL_law_29 : decode cL_law 29 = .ok (.bipush 31, 2) := by decide +kernel
theorem dL_law_31 : decode cL_law 31 = .ok (.iand, 1) := by decide +kernel
theorem dL_law_32 : decode cL_law 32 = .ok (.tableswitch 711 0 23 #[112, 135, 148, 161, 174, 207, 240, 273, 306, 339, 352, 405, 418, 441, 454, 487, 520, 533, 592, 605, 648, 661, 674, 697], 112) := by decide +kernel
theorem dL_law_144 : decode cL_law 144 = .ok (.aload_n 1, 1) := by decide +kernel
theorem dL_law_145 : decode cL_law 145 = .ok (.aload_n 0, 1) := by decide +kernel
theorem dL_law_146 : decode cL_law 146 = .ok (.iload_n 3, 1) := by decide +kernel
theorem dL_law_147 : decode cL_law 147 = .ok (.iconst 1, 1) := by decide +kernel
theorem dL_law_148 : decode cL_law 148 = .ok (.iadd, 1) := by decide +kernel
theorem dL_law_149 : decode cL_law 149 = .ok (.iaload, 1) := by decide +kernel
theorem dL_law_150 : decode cL_law 150 = .ok (.invokevirtual 13, 3) := by decide +kernel
theorem dL_law_153 : decode cL_law 153 = .ok (.aload_n 2, 1) := by decide +kernel
theorem dL_law_154 : decode cL_law 154 = .ok (.aload_n 0, 1) := by decide +kernel
theorem dL_law_155 : decode cL_law 155 = .ok (.iload_n 3, 1) := by decide +kernel
theorem dL_law_156 : decode cL_law 156 = .ok (.iconst 1, 1) := by decide +kernel
theorem dL_law_157 : decode cL_law 157 = .ok (.iadd, 1) := by decide +kernel
theorem dL_law_158 : decode cL_law 158 = .ok (.iaload, 1) := by decide +kernel
theorem dL_law_159 : decode cL_law 159 = .ok (.invokevirtual 17, 3) := by decide +kernel
theorem dL_law_162 : decode cL_law 162 = .ok (.if_icmp .eq 581, 3) := by decide +kernel
theorem dL_law_165 : decode cL_law 165 = .ok (.iconst 0, 1) := by decide +kernel
theorem dL_law_166 : decode cL_law 166 = .ok (.ireturn, 1) := by decide +kernel
theorem dL_law_167 : decode cL_law 167 = .ok (.aload_n 1, 1) := by decide +kernel
theorem dL_law_168 : decode cL_law 168 = .ok (.invokevirtual 18, 3) := by decide +kernel
theorem dL_law_171 : decode cL_law 171 = .ok (.aload_n 2, 1) := by decide +kernel
theorem dL_law_172 : decode cL_law 172 = .ok (.invokevirtual 22, 3) := by decide +kernel
theorem dL_law_175 : decode cL_law 175 = .ok (.if_icmp .eq 568, 3) := by decide +kernel
theorem dL_law_178 : decode cL_law 178 = .ok (.iconst 0, 1) := by decide +kernel
theorem dL_law_179 : decode cL_law 179 = .ok (.ireturn, 1) := by decide +kernel
theorem dL_law_180 : decode cL_law 180 = .ok (.aload_n 1, 1) := by decide +kernel
theorem dL_law_181 : decode cL_law 181 = .ok (.invokevirtual 23, 3) := by decide +kernel
theorem dL_law_184 : decode cL_law 184 = .ok (.aload_n 2, 1) := by decide +kernel
theorem dL_law_185 : decode cL_law 185 = .ok (.invokevirtual 26, 3) := by decide +kernel
theorem dL_law_188 : decode cL_law 188 = .ok (.if_icmp .eq 555, 3) := by decide +kernel
theorem dL_law_191 : decode cL_law 191 = .ok (.iconst 0, 1) := by decide +kernel
theorem dL_law_192 : decode cL_law 192 = .ok (.ireturn, 1) := by decide +kernel
theorem dL_law_193 : decode cL_law 193 = .ok (.aload_n 1, 1) := by decide +kernel
theorem dL_law_194 : decode cL_law 194 = .ok (.invokevirtual 27, 3) := by decide +kernel
theorem dL_law_197 : decode cL_law 197 = .ok (.aload_n 2, 1) := by decide +kernel
theorem dL_law_198 : decode cL_law 198 = .ok (.invokevirtual 30, 3) := by decide +kernel
theorem dL_law_201 : decode cL_law 201 = .ok (.if_icmp .eq 542, 3) := by decide +kernel
theorem dL_law_204 : decode cL_law 204 = .ok (.iconst 0, 1) := by decide +kernel
theorem dL_law_205 : decode cL_law 205 = .ok (.ireturn, 1) := by decide +kernel
theorem dL_law_206 : decode cL_law 206 = .ok (.aload_n 1, 1) := by decide +kernel
theorem dL_law_207 : decode cL_law 207 = .ok (.aload_n 0, 1) := by decide +kernel
theorem dL_law_208 : decode cL_law 208 = .ok (.iload_n 3, 1) := by decide +kernel
theorem dL_law_209 : decode cL_law 209 = .ok (.iconst 1, 1) := by decide +kernel
theorem dL_law_210 : decode cL_law 210 = .ok (.iadd, 1) := by decide +kernel
theorem dL_law_211 : decode cL_law 211 = .ok (.iaload, 1) := by decide +kernel
theorem dL_law_212 : decode cL_law 212 = .ok (.aload_n 0, 1) := by decide +kernel
theorem dL_law_213 : decode cL_law 213 = .ok (.iload_n 3, 1) := by decide +kernel
theorem dL_law_214 : decode cL_law 214 = .ok (.iconst 2, 1) := by decide +kernel
theorem dL_law_215 : decode cL_law 215 = .ok (.iadd, 1) := by decide +kernel
theorem dL_law_216 : decode cL_law 216 = .ok (.iaload, 1) := by decide +kernel
theorem dL_law_217 : decode cL_law 217 = .ok (.invokevirtual 31, 3) := by decide +kernel
theorem dL_law_220 : decode cL_law 220 = .ok (.aload_n 2, 1) := by decide +kernel
theorem dL_law_221 : decode cL_law 221 = .ok (.aload_n 0, 1) := by decide +kernel
theorem dL_law_222 : decode cL_law 222 = .ok (.iload_n 3, 1) := by decide +kernel
theorem dL_law_223 : decode cL_law 223 = .ok (.iconst 1, 1) := by decide +kernel
theorem dL_law_224 : decode cL_law 224 = .ok (.iadd, 1) := by decide +kernel
theorem dL_law_225 : decode cL_law 225 = .ok (.iaload, 1) := by decide +kernel
theorem dL_law_226 : decode cL_law 226 = .ok (.aload_n 0, 1) := by decide +kernel
theorem dL_law_227 : decode cL_law 227 = .ok (.iload_n 3, 1) := by decide +kernel
theorem dL_law_228 : decode cL_law 228 = .ok (.iconst 2, 1) := by decide +kernel
theorem dL_law_229 : decode cL_law 229 = .ok (.iadd, 1) := by decide +kernel
theorem dL_law_230 : decode cL_law 230 = .ok (.iaload, 1) := by decide +kernel
theorem dL_law_231 : decode cL_law 231 = .ok (.invokevirtual 35, 3) := by decide +kernel
theorem dL_law_234 : decode cL_law 234 = .ok (.if_icmp .eq 509, 3) := by decide +kernel
theorem dL_law_237 : decode cL_law 237 = .ok (.iconst 0, 1) := by decide +kernel
theorem dL_law_238 : decode cL_law 238 = .ok (.ireturn, 1) := by decide +kernel
theorem dL_law_239 : decode cL_law 239 = .ok (.aload_n 1, 1) := by decide +kernel
theorem dL_law_240 : decode cL_law 240 = .ok (.aload_n 0, 1) := by decide +kernel
theorem dL_law_241 : decode cL_law 241 = .ok (.iload_n 3, 1) := by decide +kernel
theorem dL_law_242 : decode cL_law 242 = .ok (.iconst 1, 1) := by decide +kernel
theorem dL_law_243 : decode cL_law 243 = .ok (.iadd, 1) := by decide +kernel
theorem dL_law_244 : decode cL_law 244 = .ok (.iaload, 1) := by decide +kernel
theorem dL_law_245 : decode cL_law 245 = .ok (.aload_n 0, 1) := by decide +kernel
theorem dL_law_246 : decode cL_law 246 = .ok (.iload_n 3, 1) := by decide +kernel
theorem dL_law_247 : decode cL_law 247 = .ok (.iconst 2, 1) := by decide +kernel
theorem dL_law_248 : decode cL_law 248 = .ok (.iadd, 1) := by decide +kernel
theorem dL_law_249 : decode cL_law 249 = .ok (.iaload, 1) := by decide +kernel
theorem dL_law_250 : decode cL_law 250 = .ok (.invokevirtual 36, 3) := by decide +kernel
theorem dL_law_253 : decode cL_law 253 = .ok (.aload_n 2, 1) := by decide +kernel
theorem dL_law_254 : decode cL_law 254 = .ok (.aload_n 0, 1) := by decide +kernel
theorem dL_law_255 : decode cL_law 255 = .ok (.iload_n 3, 1) := by decide +kernel
theorem dL_law_256 : decode cL_law 256 = .ok (.iconst 1, 1) := by decide +kernel
theorem dL_law_257 : decode cL_law 257 = .ok (.iadd, 1) := by decide +kernel
theorem dL_law_258 : decode cL_law 258 = .ok (.iaload, 1) := by decide +kernel
theorem dL_law_259 : decode cL_law 259 = .ok (.aload_n 0, 1) := by decide +kernel
theorem dL_law_260 : decode cL_law 260 = .ok (.iload_n 3, 1) := by decide +kernel
theorem dL_law_261 : decode cL_law 261 = .ok (.iconst 2, 1) := by decide +kernel
theorem dL_law_262 : decode cL_law 262 = .ok (.iadd, 1) := by decide +kernel
theorem dL_law_263 : decode cL_law 263 = .ok (.iaload, 1) := by decide +kernel
theorem dL_law_264 : decode cL_law 264 = .ok (.invokevirtual 39, 3) := by decide +kernel
theorem dL_law_267 : decode cL_law 267 = .ok (.if_icmp .eq 476, 3) := by decide +kernel
theorem dL_law_270 : decode cL_law 270 = .ok (.iconst 0, 1) := by decide +kernel
theorem dL_law_271 : decode cL_law 271 = .ok (.ireturn, 1) := by decide +kernel
theorem dL_law_272 : decode cL_law 272 = .ok (.aload_n 1, 1) := by decide +kernel
theorem dL_law_273 : decode cL_law 273 = .ok (.aload_n 0, 1) := by decide +kernel
theorem dL_law_274 : decode cL_law 274 = .ok (.iload_n 3, 1) := by decide +kernel
theorem dL_law_275 : decode cL_law 275 = .ok (.iconst 1, 1) := by decide +kernel
theorem dL_law_276 : decode cL_law 276 = .ok (.iadd, 1) := by decide +kernel
theorem dL_law_277 : decode cL_law 277 = .ok (.iaload, 1) := by decide +kernel
theorem dL_law_278 : decode cL_law 278 = .ok (.aload_n 0, 1) := by decide +kernel
theorem dL_law_279 : decode cL_law 279 = .ok (.iload_n 3, 1) := by decide +kernel
theorem dL_law_280 : decode cL_law 280 = .ok (.iconst 2, 1) := by decide +kernel
theorem dL_law_281 : decode cL_law 281 = .ok (.iadd, 1) := by decide +kernel
theorem dL_law_282 : decode cL_law 282 = .ok (.iaload, 1) := by decide +kernel
theorem dL_law_283 : decode cL_law 283 = .ok (.invokevirtual 40, 3) := by decide +kernel
theorem dL_law_286 : decode cL_law 286 = .ok (.aload_n 2, 1) := by decide +kernel
theorem dL_law_287 : decode cL_law 287 = .ok (.aload_n 0, 1) := by decide +kernel
theorem dL_law_288 : decode cL_law 288 = .ok (.iload_n 3, 1) := by decide +kernel
theorem dL_law_289 : decode cL_law 289 = .ok (.iconst 1, 1) := by decide +kernel
theorem dL_law_290 : decode cL_law 290 = .ok (.iadd, 1) := by decide +kernel
theorem dL_law_291 : decode cL_law 291 = .ok (.iaload, 1) := by decide +kernel
theorem dL_law_292 : decode cL_law 292 = .ok (.aload_n 0, 1) := by decide +kernel
theorem dL_law_293 : decode cL_law 293 = .ok (.iload_n 3, 1) := by decide +kernel
theorem dL_law_294 : decode cL_law 294 = .ok (.iconst 2, 1) := by decide +kernel
theorem dL_law_295 : decode cL_law 295 = .ok (.iadd, 1) := by decide +kernel
theorem dL_law_296 : decode cL_law 296 = .ok (.iaload, 1) := by decide +kernel
theorem dL_law_297 : decode cL_law 297 = .ok (.invokevirtual 43, 3) := by decide +kernel
theorem dL_law_300 : decode cL_law 300 = .ok (.if_icmp .eq 443, 3) := by decide +kernel
theorem dL_law_303 : decode cL_law 303 = .ok (.iconst 0, 1) := by decide +kernel
theorem dL_law_304 : decode cL_law 304 = .ok (.ireturn, 1) := by decide +kernel
theorem dL_law_305 : decode cL_law 305 = .ok (.aload_n 1, 1) := by decide +kernel
theorem dL_law_306 : decode cL_law 306 = .ok (.aload_n 0, 1) := by decide +kernel
theorem dL_law_307 : decode cL_law 307 = .ok (.iload_n 3, 1) := by decide +kernel
theorem dL_law_308 : decode cL_law 308 = .ok (.iconst 1, 1) := by decide +kernel
theorem dL_law_309 : decode cL_law 309 = .ok (.iadd, 1) := by decide +kernel
theorem dL_law_310 : decode cL_law 310 = .ok (.iaload, 1) := by decide +kernel
theorem dL_law_311 : decode cL_law 311 = .ok (.aload_n 0, 1) := by decide +kernel
theorem dL_law_312 : decode cL_law 312 = .ok (.iload_n 3, 1) := by decide +kernel
theorem dL_law_313 : decode cL_law 313 = .ok (.iconst 2, 1) := by decide +kernel
theorem dL_law_314 : decode cL_law 314 = .ok (.iadd, 1) := by decide +kernel
theorem dL_law_315 : decode cL_law 315 = .ok (.iaload, 1) := by decide +kernel
theorem dL_law_316 : decode cL_law 316 = .ok (.invokevirtual 44, 3) := by decide +kernel
theorem dL_law_319 : decode cL_law 319 = .ok (.aload_n 2, 1) := by decide +kernel
theorem dL_law_320 : decode cL_law 320 = .ok (.aload_n 0, 1) := by decide +kernel
theorem dL_law_321 : decode cL_law 321 = .ok (.iload_n 3, 1) := by decide +kernel
theorem dL_law_322 : decode cL_law 322 = .ok (.iconst 1, 1) := by decide +kernel
theorem dL_law_323 : decode cL_law 323 = .ok (.iadd, 1) := by decide +kernel
theorem dL_law_324 : decode cL_law 324 = .ok (.iaload, 1) := by decide +kernel
theorem dL_law_325 : decode cL_law 325 = .ok (.aload_n 0, 1) := by decide +kernel
theorem dL_law_326 : decode cL_law 326 = .ok (.iload_n 3, 1) := by decide +kernel
theorem dL_law_327 : decode cL_law 327 = .ok (.iconst 2, 1) := by decide +kernel
theorem dL_law_328 : decode cL_law 328 = .ok (.iadd, 1) := by decide +kernel
theorem dL_law_329 : decode cL_law 329 = .ok (.iaload, 1) := by decide +kernel
theorem dL_law_330 : decode cL_law 330 = .ok (.invokevirtual 47, 3) := by decide +kernel
theorem dL_law_333 : decode cL_law 333 = .ok (.if_icmp .eq 410, 3) := by decide +kernel
theorem dL_law_336 : decode cL_law 336 = .ok (.iconst 0, 1) := by decide +kernel
theorem dL_law_337 : decode cL_law 337 = .ok (.ireturn, 1) := by decide +kernel
theorem dL_law_338 : decode cL_law 338 = .ok (.aload_n 1, 1) := by decide +kernel
theorem dL_law_339 : decode cL_law 339 = .ok (.aload_n 0, 1) := by decide +kernel
theorem dL_law_340 : decode cL_law 340 = .ok (.iload_n 3, 1) := by decide +kernel
theorem dL_law_341 : decode cL_law 341 = .ok (.iconst 1, 1) := by decide +kernel
theorem dL_law_342 : decode cL_law 342 = .ok (.iadd, 1) := by decide +kernel
theorem dL_law_343 : decode cL_law 343 = .ok (.iaload, 1) := by decide +kernel
theorem dL_law_344 : decode cL_law 344 = .ok (.aload_n 0, 1) := by decide +kernel
theorem dL_law_345 : decode cL_law 345 = .ok (.iload_n 3, 1) := by decide +kernel
theorem dL_law_346 : decode cL_law 346 = .ok (.iconst 2, 1) := by decide +kernel
theorem dL_law_347 : decode cL_law 347 = .ok (.iadd, 1) := by decide +kernel
theorem dL_law_348 : decode cL_law 348 = .ok (.iaload, 1) := by decide +kernel
theorem dL_law_349 : decode cL_law 349 = .ok (.invokevirtual 48, 3) := by decide +kernel
theorem dL_law_352 : decode cL_law 352 = .ok (.aload_n 2, 1) := by decide +kernel
theorem dL_law_353 : decode cL_law 353 = .ok (.aload_n 0, 1) := by decide +kernel
theorem dL_law_354 : decode cL_law 354 = .ok (.iload_n 3, 1) := by decide +kernel
theorem dL_law_355 : decode cL_law 355 = .ok (.iconst 1, 1) := by decide +kernel
theorem dL_law_356 : decode cL_law 356 = .ok (.iadd, 1) := by decide +kernel
theorem dL_law_357 : decode cL_law 357 = .ok (.iaload, 1) := by decide +kernel
theorem dL_law_358 : decode cL_law 358 = .ok (.aload_n 0, 1) := by decide +kernel
theorem dL_law_359 : decode cL_law 359 = .ok (.iload_n 3, 1) := by decide +kernel
theorem dL_law_360 : decode cL_law 360 = .ok (.iconst 2, 1) := by decide +kernel
theorem dL_law_361 : decode cL_law 361 = .ok (.iadd, 1) := by decide +kernel
theorem dL_law_362 : decode cL_law 362 = .ok (.iaload, 1) := by decide +kernel
theorem dL_law_363 : decode cL_law 363 = .ok (.invokevirtual 51, 3) := by decide +kernel
theorem dL_law_366 : decode cL_law 366 = .ok (.if_icmp .eq 377, 3) := by decide +kernel
theorem dL_law_369 : decode cL_law 369 = .ok (.iconst 0, 1) := by decide +kernel
theorem dL_law_370 : decode cL_law 370 = .ok (.ireturn, 1) := by decide +kernel
theorem dL_law_371 : decode cL_law 371 = .ok (.aload_n 1, 1) := by decide +kernel
theorem dL_law_372 : decode cL_law 372 = .ok (.invokevirtual 52, 3) := by decide +kernel
theorem dL_law_375 : decode cL_law 375 = .ok (.aload_n 2, 1) := by decide +kernel
theorem dL_law_376 : decode cL_law 376 = .ok (.invokevirtual 55, 3) := by decide +kernel
theorem dL_law_379 : decode cL_law 379 = .ok (.if_icmp .eq 364, 3) := by decide +kernel
theorem dL_law_382 : decode cL_law 382 = .ok (.iconst 0, 1) := by decide +kernel
theorem dL_law_383 : decode cL_law 383 = .ok (.ireturn, 1) := by decide +kernel
theorem dL_law_384 : decode cL_law 384 = .ok (.aload_n 1, 1) := by decide +kernel
theorem dL_law_385 : decode cL_law 385 = .ok (.aload_n 0, 1) := by decide +kernel
theorem dL_law_386 : decode cL_law 386 = .ok (.iload_n 3, 1) := by decide +kernel
theorem dL_law_387 : decode cL_law 387 = .ok (.iconst 1, 1) := by decide +kernel
theorem dL_law_388 : decode cL_law 388 = .ok (.iadd, 1) := by decide +kernel
theorem dL_law_389 : decode cL_law 389 = .ok (.iaload, 1) := by decide +kernel
theorem dL_law_390 : decode cL_law 390 = .ok (.aload_n 0, 1) := by decide +kernel
theorem dL_law_391 : decode cL_law 391 = .ok (.iload_n 3, 1) := by decide +kernel
theorem dL_law_392 : decode cL_law 392 = .ok (.iconst 2, 1) := by decide +kernel
theorem dL_law_393 : decode cL_law 393 = .ok (.iadd, 1) := by decide +kernel
theorem dL_law_394 : decode cL_law 394 = .ok (.iaload, 1) := by decide +kernel
theorem dL_law_395 : decode cL_law 395 = .ok (.aload_n 0, 1) := by decide +kernel
theorem dL_law_396 : decode cL_law 396 = .ok (.iload_n 3, 1) := by decide +kernel
theorem dL_law_397 : decode cL_law 397 = .ok (.iconst 3, 1) := by decide +kernel
theorem dL_law_398 : decode cL_law 398 = .ok (.iadd, 1) := by decide +kernel
theorem dL_law_399 : decode cL_law 399 = .ok (.iaload, 1) := by decide +kernel
theorem dL_law_400 : decode cL_law 400 = .ok (.aload_n 0, 1) := by decide +kernel
theorem dL_law_401 : decode cL_law 401 = .ok (.iload_n 3, 1) := by decide +kernel
theorem dL_law_402 : decode cL_law 402 = .ok (.iconst 4, 1) := by decide +kernel
theorem dL_law_403 : decode cL_law 403 = .ok (.iadd, 1) := by decide +kernel
theorem dL_law_404 : decode cL_law 404 = .ok (.iaload, 1) := by decide +kernel
theorem dL_law_405 : decode cL_law 405 = .ok (.invokevirtual 56, 3) := by decide +kernel
theorem dL_law_408 : decode cL_law 408 = .ok (.aload_n 2, 1) := by decide +kernel
theorem dL_law_409 : decode cL_law 409 = .ok (.aload_n 0, 1) := by decide +kernel
theorem dL_law_410 : decode cL_law 410 = .ok (.iload_n 3, 1) := by decide +kernel
theorem dL_law_411 : decode cL_law 411 = .ok (.iconst 1, 1) := by decide +kernel
theorem dL_law_412 : decode cL_law 412 = .ok (.iadd, 1) := by decide +kernel
theorem dL_law_413 : decode cL_law 413 = .ok (.iaload, 1) := by decide +kernel
theorem dL_law_414 : decode cL_law 414 = .ok (.aload_n 0, 1) := by decide +kernel
theorem dL_law_415 : decode cL_law 415 = .ok (.iload_n 3, 1) := by decide +kernel
theorem dL_law_416 : decode cL_law 416 = .ok (.iconst 2, 1) := by decide +kernel
theorem dL_law_417 : decode cL_law 417 = .ok (.iadd, 1) := by decide +kernel
theorem dL_law_418 : decode cL_law 418 = .ok (.iaload, 1) := by decide +kernel
theorem dL_law_419 : decode cL_law 419 = .ok (.aload_n 0, 1) := by decide +kernel
theorem dL_law_420 : decode cL_law 420 = .ok (.iload_n 3, 1) := by decide +kernel
theorem dL_law_421 : decode cL_law 421 = .ok (.iconst 3, 1) := by decide +kernel
theorem dL_law_422 : decode cL_law 422 = .ok (.iadd, 1) := by decide +kernel
theorem dL_law_423 : decode cL_law 423 = .ok (.iaload, 1) := by decide +kernel
theorem dL_law_424 : decode cL_law 424 = .ok (.aload_n 0, 1) := by decide +kernel
theorem dL_law_425 : decode cL_law 425 = .ok (.iload_n 3, 1) := by decide +kernel
theorem dL_law_426 : decode cL_law 426 = .ok (.iconst 4, 1) := by decide +kernel
theorem dL_law_427 : decode cL_law 427 = .ok (.iadd, 1) := by decide +kernel
theorem dL_law_428 : decode cL_law 428 = .ok (.iaload, 1) := by decide +kernel
theorem dL_law_429 : decode cL_law 429 = .ok (.invokevirtual 60, 3) := by decide +kernel
theorem dL_law_432 : decode cL_law 432 = .ok (.if_icmp .eq 311, 3) := by decide +kernel
theorem dL_law_435 : decode cL_law 435 = .ok (.iconst 0, 1) := by decide +kernel
theorem dL_law_436 : decode cL_law 436 = .ok (.ireturn, 1) := by decide +kernel
theorem dL_law_437 : decode cL_law 437 = .ok (.aload_n 1, 1) := by decide +kernel
theorem dL_law_438 : decode cL_law 438 = .ok (.invokevirtual 61, 3) := by decide +kernel
theorem dL_law_441 : decode cL_law 441 = .ok (.aload_n 2, 1) := by decide +kernel
theorem dL_law_442 : decode cL_law 442 = .ok (.invokevirtual 64, 3) := by decide +kernel
theorem dL_law_445 : decode cL_law 445 = .ok (.if_icmp .eq 298, 3) := by decide +kernel
theorem dL_law_448 : decode cL_law 448 = .ok (.iconst 0, 1) := by decide +kernel
theorem dL_law_449 : decode cL_law 449 = .ok (.ireturn, 1) := by decide +kernel
theorem dL_law_450 : decode cL_law 450 = .ok (.aload_n 1, 1) := by decide +kernel
theorem dL_law_451 : decode cL_law 451 = .ok (.aload_n 0, 1) := by decide +kernel
theorem dL_law_452 : decode cL_law 452 = .ok (.iload_n 3, 1) := by decide +kernel
theorem dL_law_453 : decode cL_law 453 = .ok (.iconst 1, 1) := by decide +kernel
theorem dL_law_454 : decode cL_law 454 = .ok (.iadd, 1) := by decide +kernel
theorem dL_law_455 : decode cL_law 455 = .ok (.iaload, 1) := by decide +kernel
theorem dL_law_456 : decode cL_law 456 = .ok (.invokevirtual 65, 3) := by decide +kernel
theorem dL_law_459 : decode cL_law 459 = .ok (.aload_n 2, 1) := by decide +kernel
theorem dL_law_460 : decode cL_law 460 = .ok (.aload_n 0, 1) := by decide +kernel
theorem dL_law_461 : decode cL_law 461 = .ok (.iload_n 3, 1) := by decide +kernel
theorem dL_law_462 : decode cL_law 462 = .ok (.iconst 1, 1) := by decide +kernel
theorem dL_law_463 : decode cL_law 463 = .ok (.iadd, 1) := by decide +kernel
theorem dL_law_464 : decode cL_law 464 = .ok (.iaload, 1) := by decide +kernel
theorem dL_law_465 : decode cL_law 465 = .ok (.invokevirtual 68, 3) := by decide +kernel
theorem dL_law_468 : decode cL_law 468 = .ok (.if_icmp .eq 275, 3) := by decide +kernel
theorem dL_law_471 : decode cL_law 471 = .ok (.iconst 0, 1) := by decide +kernel
theorem dL_law_472 : decode cL_law 472 = .ok (.ireturn, 1) := by decide +kernel
theorem dL_law_473 : decode cL_law 473 = .ok (.aload_n 1, 1) := by decide +kernel
theorem dL_law_474 : decode cL_law 474 = .ok (.invokevirtual 69, 3) := by decide +kernel
theorem dL_law_477 : decode cL_law 477 = .ok (.aload_n 2, 1) := by decide +kernel
theorem dL_law_478 : decode cL_law 478 = .ok (.invokevirtual 72, 3) := by decide +kernel
theorem dL_law_481 : decode cL_law 481 = .ok (.if_icmp .eq 262, 3) := by decide +kernel
theorem dL_law_484 : decode cL_law 484 = .ok (.iconst 0, 1) := by decide +kernel
theorem dL_law_485 : decode cL_law 485 = .ok (.ireturn, 1) := by decide +kernel
theorem dL_law_486 : decode cL_law 486 = .ok (.aload_n 1, 1) := by decide +kernel
theorem dL_law_487 : decode cL_law 487 = .ok (.aload_n 0, 1) := by decide +kernel
theorem dL_law_488 : decode cL_law 488 = .ok (.iload_n 3, 1) := by decide +kernel
theorem dL_law_489 : decode cL_law 489 = .ok (.iconst 1, 1) := by decide +kernel
theorem dL_law_490 : decode cL_law 490 = .ok (.iadd, 1) := by decide +kernel
theorem dL_law_491 : decode cL_law 491 = .ok (.iaload, 1) := by decide +kernel
theorem dL_law_492 : decode cL_law 492 = .ok (.aload_n 0, 1) := by decide +kernel
theorem dL_law_493 : decode cL_law 493 = .ok (.iload_n 3, 1) := by decide +kernel
theorem dL_law_494 : decode cL_law 494 = .ok (.iconst 2, 1) := by decide +kernel
theorem dL_law_495 : decode cL_law 495 = .ok (.iadd, 1) := by decide +kernel
theorem dL_law_496 : decode cL_law 496 = .ok (.iaload, 1) := by decide +kernel
theorem dL_law_497 : decode cL_law 497 = .ok (.invokevirtual 73, 3) := by decide +kernel
theorem dL_law_500 : decode cL_law 500 = .ok (.aload_n 2, 1) := by decide +kernel
theorem dL_law_501 : decode cL_law 501 = .ok (.aload_n 0, 1) := by decide +kernel
theorem dL_law_502 : decode cL_law 502 = .ok (.iload_n 3, 1) := by decide +kernel
theorem dL_law_503 : decode cL_law 503 = .ok (.iconst 1, 1) := by decide +kernel
theorem dL_law_504 : decode cL_law 504 = .ok (.iadd, 1) := by decide +kernel
theorem dL_law_505 : decode cL_law 505 = .ok (.iaload, 1) := by decide +kernel
theorem dL_law_506 : decode cL_law 506 = .ok (.aload_n 0, 1) := by decide +kernel
theorem dL_law_507 : decode cL_law 507 = .ok (.iload_n 3, 1) := by decide +kernel
theorem dL_law_508 : decode cL_law 508 = .ok (.iconst 2, 1) := by decide +kernel
theorem dL_law_509 : decode cL_law 509 = .ok (.iadd, 1) := by decide +kernel
theorem dL_law_510 : decode cL_law 510 = .ok (.iaload, 1) := by decide +kernel
theorem dL_law_511 : decode cL_law 511 = .ok (.invokevirtual 76, 3) := by decide +kernel
theorem dL_law_514 : decode cL_law 514 = .ok (.if_icmp .eq 229, 3) := by decide +kernel
theorem dL_law_517 : decode cL_law 517 = .ok (.iconst 0, 1) := by decide +kernel
theorem dL_law_518 : decode cL_law 518 = .ok (.ireturn, 1) := by decide +kernel
theorem dL_law_519 : decode cL_law 519 = .ok (.aload_n 1, 1) := by decide +kernel
theorem dL_law_520 : decode cL_law 520 = .ok (.aload_n 0, 1) := by decide +kernel
theorem dL_law_521 : decode cL_law 521 = .ok (.iload_n 3, 1) := by decide +kernel
theorem dL_law_522 : decode cL_law 522 = .ok (.iconst 1, 1) := by decide +kernel
theorem dL_law_523 : decode cL_law 523 = .ok (.iadd, 1) := by decide +kernel
theorem dL_law_524 : decode cL_law 524 = .ok (.iaload, 1) := by decide +kernel
theorem dL_law_525 : decode cL_law 525 = .ok (.aload_n 0, 1) := by decide +kernel
theorem dL_law_526 : decode cL_law 526 = .ok (.iload_n 3, 1) := by decide +kernel
theorem dL_law_527 : decode cL_law 527 = .ok (.iconst 2, 1) := by decide +kernel
theorem dL_law_528 : decode cL_law 528 = .ok (.iadd, 1) := by decide +kernel
theorem dL_law_529 : decode cL_law 529 = .ok (.iaload, 1) := by decide +kernel
theorem dL_law_530 : decode cL_law 530 = .ok (.invokevirtual 77, 3) := by decide +kernel
theorem dL_law_533 : decode cL_law 533 = .ok (.aload_n 2, 1) := by decide +kernel
theorem dL_law_534 : decode cL_law 534 = .ok (.aload_n 0, 1) := by decide +kernel
theorem dL_law_535 : decode cL_law 535 = .ok (.iload_n 3, 1) := by decide +kernel
theorem dL_law_536 : decode cL_law 536 = .ok (.iconst 1, 1) := by decide +kernel
theorem dL_law_537 : decode cL_law 537 = .ok (.iadd, 1) := by decide +kernel
theorem dL_law_538 : decode cL_law 538 = .ok (.iaload, 1) := by decide +kernel
theorem dL_law_539 : decode cL_law 539 = .ok (.aload_n 0, 1) := by decide +kernel
theorem dL_law_540 : decode cL_law 540 = .ok (.iload_n 3, 1) := by decide +kernel
theorem dL_law_541 : decode cL_law 541 = .ok (.iconst 2, 1) := by decide +kernel
theorem dL_law_542 : decode cL_law 542 = .ok (.iadd, 1) := by decide +kernel
theorem dL_law_543 : decode cL_law 543 = .ok (.iaload, 1) := by decide +kernel
theorem dL_law_544 : decode cL_law 544 = .ok (.invokevirtual 80, 3) := by decide +kernel
theorem dL_law_547 : decode cL_law 547 = .ok (.if_icmp .eq 196, 3) := by decide +kernel
theorem dL_law_550 : decode cL_law 550 = .ok (.iconst 0, 1) := by decide +kernel
theorem dL_law_551 : decode cL_law 551 = .ok (.ireturn, 1) := by decide +kernel
theorem dL_law_552 : decode cL_law 552 = .ok (.aload_n 1, 1) := by decide +kernel
theorem dL_law_553 : decode cL_law 553 = .ok (.invokevirtual 81, 3) := by decide +kernel
theorem dL_law_556 : decode cL_law 556 = .ok (.aload_n 2, 1) := by decide +kernel
theorem dL_law_557 : decode cL_law 557 = .ok (.invokevirtual 84, 3) := by decide +kernel
theorem dL_law_560 : decode cL_law 560 = .ok (.if_icmp .eq 183, 3) := by decide +kernel
theorem dL_law_563 : decode cL_law 563 = .ok (.iconst 0, 1) := by decide +kernel
theorem dL_law_564 : decode cL_law 564 = .ok (.ireturn, 1) := by decide +kernel
theorem dL_law_565 : decode cL_law 565 = .ok (.aload_n 1, 1) := by decide +kernel
theorem dL_law_566 : decode cL_law 566 = .ok (.aload_n 0, 1) := by decide +kernel
theorem dL_law_567 : decode cL_law 567 = .ok (.iload_n 3, 1) := by decide +kernel
theorem dL_law_568 : decode cL_law 568 = .ok (.iconst 1, 1) := by decide +kernel
theorem dL_law_569 : decode cL_law 569 = .ok (.iadd, 1) := by decide +kernel
theorem dL_law_570 : decode cL_law 570 = .ok (.iaload, 1) := by decide +kernel
theorem dL_law_571 : decode cL_law 571 = .ok (.aload_n 0, 1) := by decide +kernel
theorem dL_law_572 : decode cL_law 572 = .ok (.iload_n 3, 1) := by decide +kernel
theorem dL_law_573 : decode cL_law 573 = .ok (.iconst 2, 1) := by decide +kernel
theorem dL_law_574 : decode cL_law 574 = .ok (.iadd, 1) := by decide +kernel
theorem dL_law_575 : decode cL_law 575 = .ok (.iaload, 1) := by decide +kernel
theorem dL_law_576 : decode cL_law 576 = .ok (.aload_n 0, 1) := by decide +kernel
theorem dL_law_577 : decode cL_law 577 = .ok (.iload_n 3, 1) := by decide +kernel
theorem dL_law_578 : decode cL_law 578 = .ok (.iconst 3, 1) := by decide +kernel
theorem dL_law_579 : decode cL_law 579 = .ok (.iadd, 1) := by decide +kernel
theorem dL_law_580 : decode cL_law 580 = .ok (.iaload, 1) := by decide +kernel
theorem dL_law_581 : decode cL_law 581 = .ok (.ifCond .eq 7, 3) := by decide +kernel
theorem dL_law_584 : decode cL_law 584 = .ok (.iconst 1, 1) := by decide +kernel
theorem dL_law_585 : decode cL_law 585 = .ok (.goto 4, 3) := by decide +kernel
theorem dL_law_588 : decode cL_law 588 = .ok (.iconst 0, 1) := by decide +kernel
theorem dL_law_589 : decode cL_law 589 = .ok (.invokevirtual 85, 3) := by decide +kernel
theorem dL_law_592 : decode cL_law 592 = .ok (.aload_n 2, 1) := by decide +kernel
theorem dL_law_593 : decode cL_law 593 = .ok (.aload_n 0, 1) := by decide +kernel
theorem dL_law_594 : decode cL_law 594 = .ok (.iload_n 3, 1) := by decide +kernel
theorem dL_law_595 : decode cL_law 595 = .ok (.iconst 1, 1) := by decide +kernel
theorem dL_law_596 : decode cL_law 596 = .ok (.iadd, 1) := by decide +kernel
theorem dL_law_597 : decode cL_law 597 = .ok (.iaload, 1) := by decide +kernel
theorem dL_law_598 : decode cL_law 598 = .ok (.aload_n 0, 1) := by decide +kernel
theorem dL_law_599 : decode cL_law 599 = .ok (.iload_n 3, 1) := by decide +kernel
theorem dL_law_600 : decode cL_law 600 = .ok (.iconst 2, 1) := by decide +kernel
theorem dL_law_601 : decode cL_law 601 = .ok (.iadd, 1) := by decide +kernel
theorem dL_law_602 : decode cL_law 602 = .ok (.iaload, 1) := by decide +kernel
theorem dL_law_603 : decode cL_law 603 = .ok (.aload_n 0, 1) := by decide +kernel
theorem dL_law_604 : decode cL_law 604 = .ok (.iload_n 3, 1) := by decide +kernel
theorem dL_law_605 : decode cL_law 605 = .ok (.iconst 3, 1) := by decide +kernel
theorem dL_law_606 : decode cL_law 606 = .ok (.iadd, 1) := by decide +kernel
theorem dL_law_607 : decode cL_law 607 = .ok (.iaload, 1) := by decide +kernel
theorem dL_law_608 : decode cL_law 608 = .ok (.ifCond .eq 7, 3) := by decide +kernel
theorem dL_law_611 : decode cL_law 611 = .ok (.iconst 1, 1) := by decide +kernel
theorem dL_law_612 : decode cL_law 612 = .ok (.goto 4, 3) := by decide +kernel
theorem dL_law_615 : decode cL_law 615 = .ok (.iconst 0, 1) := by decide +kernel
theorem dL_law_616 : decode cL_law 616 = .ok (.invokevirtual 89, 3) := by decide +kernel
theorem dL_law_619 : decode cL_law 619 = .ok (.if_icmp .eq 124, 3) := by decide +kernel
theorem dL_law_622 : decode cL_law 622 = .ok (.iconst 0, 1) := by decide +kernel
theorem dL_law_623 : decode cL_law 623 = .ok (.ireturn, 1) := by decide +kernel
theorem dL_law_624 : decode cL_law 624 = .ok (.aload_n 1, 1) := by decide +kernel
theorem dL_law_625 : decode cL_law 625 = .ok (.invokevirtual 90, 3) := by decide +kernel
theorem dL_law_628 : decode cL_law 628 = .ok (.aload_n 2, 1) := by decide +kernel
theorem dL_law_629 : decode cL_law 629 = .ok (.invokevirtual 93, 3) := by decide +kernel
theorem dL_law_632 : decode cL_law 632 = .ok (.if_icmp .eq 111, 3) := by decide +kernel
theorem dL_law_635 : decode cL_law 635 = .ok (.iconst 0, 1) := by decide +kernel
theorem dL_law_636 : decode cL_law 636 = .ok (.ireturn, 1) := by decide +kernel
theorem dL_law_637 : decode cL_law 637 = .ok (.aload_n 1, 1) := by decide +kernel
theorem dL_law_638 : decode cL_law 638 = .ok (.aload_n 0, 1) := by decide +kernel
theorem dL_law_639 : decode cL_law 639 = .ok (.iload_n 3, 1) := by decide +kernel
theorem dL_law_640 : decode cL_law 640 = .ok (.iconst 1, 1) := by decide +kernel
theorem dL_law_641 : decode cL_law 641 = .ok (.iadd, 1) := by decide +kernel
theorem dL_law_642 : decode cL_law 642 = .ok (.iaload, 1) := by decide +kernel
theorem dL_law_643 : decode cL_law 643 = .ok (.aload_n 0, 1) := by decide +kernel
theorem dL_law_644 : decode cL_law 644 = .ok (.iload_n 3, 1) := by decide +kernel
theorem dL_law_645 : decode cL_law 645 = .ok (.iconst 2, 1) := by decide +kernel
theorem dL_law_646 : decode cL_law 646 = .ok (.iadd, 1) := by decide +kernel
theorem dL_law_647 : decode cL_law 647 = .ok (.iaload, 1) := by decide +kernel
theorem dL_law_648 : decode cL_law 648 = .ok (.aload_n 0, 1) := by decide +kernel
theorem dL_law_649 : decode cL_law 649 = .ok (.iload_n 3, 1) := by decide +kernel
theorem dL_law_650 : decode cL_law 650 = .ok (.iconst 3, 1) := by decide +kernel
theorem dL_law_651 : decode cL_law 651 = .ok (.iadd, 1) := by decide +kernel
theorem dL_law_652 : decode cL_law 652 = .ok (.iaload, 1) := by decide +kernel
theorem dL_law_653 : decode cL_law 653 = .ok (.invokevirtual 94, 3) := by decide +kernel
theorem dL_law_656 : decode cL_law 656 = .ok (.aload_n 2, 1) := by decide +kernel
theorem dL_law_657 : decode cL_law 657 = .ok (.aload_n 0, 1) := by decide +kernel
theorem dL_law_658 : decode cL_law 658 = .ok (.iload_n 3, 1) := by decide +kernel
theorem dL_law_659 : decode cL_law 659 = .ok (.iconst 1, 1) := by decide +kernel
theorem dL_law_660 : decode cL_law 660 = .ok (.iadd, 1) := by decide +kernel
theorem dL_law_661 : decode cL_law 661 = .ok (.iaload, 1) := by decide +kernel
theorem dL_law_662 : decode cL_law 662 = .ok (.aload_n 0, 1) := by decide +kernel
theorem dL_law_663 : decode cL_law 663 = .ok (.iload_n 3, 1) := by decide +kernel
theorem dL_law_664 : decode cL_law 664 = .ok (.iconst 2, 1) := by decide +kernel
theorem dL_law_665 : decode cL_law 665 = .ok (.iadd, 1) := by decide +kernel
theorem dL_law_666 : decode cL_law 666 = .ok (.iaload, 1) := by decide +kernel
theorem dL_law_667 : decode cL_law 667 = .ok (.aload_n 0, 1) := by decide +kernel
theorem dL_law_668 : decode cL_law 668 = .ok (.iload_n 3, 1) := by decide +kernel
theorem dL_law_669 : decode cL_law 669 = .ok (.iconst 3, 1) := by decide +kernel
theorem dL_law_670 : decode cL_law 670 = .ok (.iadd, 1) := by decide +kernel
theorem dL_law_671 : decode cL_law 671 = .ok (.iaload, 1) := by decide +kernel
theorem dL_law_672 : decode cL_law 672 = .ok (.invokevirtual 98, 3) := by decide +kernel
theorem dL_law_675 : decode cL_law 675 = .ok (.if_icmp .eq 68, 3) := by decide +kernel
theorem dL_law_678 : decode cL_law 678 = .ok (.iconst 0, 1) := by decide +kernel
theorem dL_law_679 : decode cL_law 679 = .ok (.ireturn, 1) := by decide +kernel
theorem dL_law_680 : decode cL_law 680 = .ok (.aload_n 1, 1) := by decide +kernel
theorem dL_law_681 : decode cL_law 681 = .ok (.invokevirtual 99, 3) := by decide +kernel
theorem dL_law_684 : decode cL_law 684 = .ok (.aload_n 2, 1) := by decide +kernel
theorem dL_law_685 : decode cL_law 685 = .ok (.invokevirtual 102, 3) := by decide +kernel
theorem dL_law_688 : decode cL_law 688 = .ok (.if_icmp .eq 55, 3) := by decide +kernel
theorem dL_law_691 : decode cL_law 691 = .ok (.iconst 0, 1) := by decide +kernel
theorem dL_law_692 : decode cL_law 692 = .ok (.ireturn, 1) := by decide +kernel
theorem dL_law_693 : decode cL_law 693 = .ok (.aload_n 1, 1) := by decide +kernel
theorem dL_law_694 : decode cL_law 694 = .ok (.invokevirtual 103, 3) := by decide +kernel
theorem dL_law_697 : decode cL_law 697 = .ok (.aload_n 2, 1) := by decide +kernel
theorem dL_law_698 : decode cL_law 698 = .ok (.invokevirtual 106, 3) := by decide +kernel
theorem dL_law_701 : decode cL_law 701 = .ok (.if_icmp .eq 42, 3) := by decide +kernel
theorem dL_law_704 : decode cL_law 704 = .ok (.iconst 0, 1) := by decide +kernel
theorem dL_law_705 : decode cL_law 705 = .ok (.ireturn, 1) := by decide +kernel
theorem dL_law_706 : decode cL_law 706 = .ok (.aload_n 1, 1) := by decide +kernel
theorem dL_law_707 : decode cL_law 707 = .ok (.aload_n 0, 1) := by decide +kernel
theorem dL_law_708 : decode cL_law 708 = .ok (.iload_n 3, 1) := by decide +kernel
theorem dL_law_709 : decode cL_law 709 = .ok (.iconst 1, 1) := by decide +kernel
theorem dL_law_710 : decode cL_law 710 = .ok (.iadd, 1) := by decide +kernel
theorem dL_law_711 : decode cL_law 711 = .ok (.iaload, 1) := by decide +kernel
theorem dL_law_712 : decode cL_law 712 = .ok (.invokevirtual 107, 3) := by decide +kernel
theorem dL_law_715 : decode cL_law 715 = .ok (.aload_n 2, 1) := by decide +kernel
theorem dL_law_716 : decode cL_law 716 = .ok (.aload_n 0, 1) := by decide +kernel
theorem dL_law_717 : decode cL_law 717 = .ok (.iload_n 3, 1) := by decide +kernel
theorem dL_law_718 : decode cL_law 718 = .ok (.iconst 1, 1) := by decide +kernel
theorem dL_law_719 : decode cL_law 719 = .ok (.iadd, 1) := by decide +kernel
theorem dL_law_720 : decode cL_law 720 = .ok (.iaload, 1) := by decide +kernel
theorem dL_law_721 : decode cL_law 721 = .ok (.invokevirtual 110, 3) := by decide +kernel
theorem dL_law_724 : decode cL_law 724 = .ok (.if_icmp .eq 19, 3) := by decide +kernel
theorem dL_law_727 : decode cL_law 727 = .ok (.iconst 0, 1) := by decide +kernel
theorem dL_law_728 : decode cL_law 728 = .ok (.ireturn, 1) := by decide +kernel
theorem dL_law_729 : decode cL_law 729 = .ok (.aload_n 1, 1) := by decide +kernel
theorem dL_law_730 : decode cL_law 730 = .ok (.invokevirtual 111, 3) := by decide +kernel
theorem dL_law_733 : decode cL_law 733 = .ok (.aload_n 2, 1) := by decide +kernel
theorem dL_law_734 : decode cL_law 734 = .ok (.invokevirtual 115, 3) := by decide +kernel
theorem dL_law_737 : decode cL_law 737 = .ok (.lcmp, 1) := by decide +kernel
theorem dL_law_738 : decode cL_law 738 = .ok (.ifCond .eq 5, 3) := by decide +kernel
theorem dL_law_741 : decode cL_law 741 = .ok (.iconst 0, 1) := by decide +kernel
theorem dL_law_742 : decode cL_law 742 = .ok (.ireturn, 1) := by decide +kernel
theorem dL_law_743 : decode cL_law 743 = .ok (.iinc 3 5, 3) := by decide +kernel
theorem dL_law_746 : decode cL_law 746 = .ok (.goto (-728), 3) := by decide +kernel
theorem dL_law_749 : decode cL_law 749 = .ok (.iconst 1, 1) := by decide +kernel
theorem dL_law_750 : decode cL_law 750 = .ok (.ireturn, 1) := by decide +kernel
end
section
/-! the judgement gG: heap and locals hidden, a state of the walk is (pc, locals, stack, world) -/
abbrev Ob : Type := (Nat → Int32) × (Nat → Nat → Int32)
abbrev OE : Type := (Nat → Int32) × (Nat → Ob)
abbrev OM : Type := (Nat → Int32) × (Nat → Nat → Int32) × Int64 × (Nat → Int64)
def okI (i : Int32) (n : Nat) : Bool := decide (0 ≤ i.toInt ∧ i.toInt < (n : Int))
theorem okI_in {i : Int32} {n : Nat} (h : okI i n = true) : vp_in i n := vp_in_iff.mpr (of_decide_eq_true h)
def wh {σ ρ : Type} (body : σ → Option (σ ⊕ ρ)) : Nat → σ → Option ρ
  | 0, _ => none
  | n + 1, s => (body s).bind (fun x => match x with
    | .inl s' => wh body n s'
    | .inr r => some r)
def wk {σ ρ : Type} (body : σ → Option (σ ⊕ ρ)) (n : Nat) (x : σ ⊕ ρ) : Option ρ := match x with
  | .inl s' => wh body n s'
  | .inr r => some r
theorem wh_0 {σ ρ : Type} {body : σ → Option (σ ⊕ ρ)} {s : σ} {X : ρ} (h : wh body 0 s = some X) : False := by cases h
theorem wh_s {σ ρ : Type} {body : σ → Option (σ ⊕ ρ)} {n : Nat} {s : σ} {X : ρ} (h : wh body (n + 1) s = some X) : ∃ x, body s = some x ∧ wk body n x = some X := Option.bind_eq_some_iff.mp h
def okZ (r : Int32) : Bool := decide (r = 0 ∨ r = 1)
theorem okZ_n {r : Int32} (h : okZ r = true) : narrow .boolean (.int r) = .int r := by
  rcases of_decide_eq_true h with h | h <;> (subst h; rfl)
theorem sel {α β γ : Type} {f : α → γ} {g : β → γ} {e : α} {x : γ} (h : Sum.elim f g (Sum.inl e) = x) : f e = x := h
theorem ser {α β γ : Type} {f : α → γ} {g : β → γ} {e : β} {x : γ} (h : Sum.elim f g (Sum.inr e) = x) : g e = x := h
def gR (h : Nat) : Room := { frames := h + 1, cells := 0, slots := 0, locals := 40 * (h + 1) }
abbrev tysG (cC cI cJ cZ : ClassId) : List (ClassId × FieldType) := [(cI, .int), (cC, .char), (cZ, .boolean), (cJ, .long)]
def gT : List Cond := lw_tbl.filter goodWord
theorem gT_in {w : Cond} (i : Nat) (h : tables_1[i]? = some w) (g : goodWord w = true) : w ∈ gT := List.mem_filter.mpr ⟨List.mem_append_right _ (List.mem_of_getElem? h), g⟩
theorem gT_sel {q : MethodName × Nat} (i : Nat) (h : lw_privs[i]? = some q) (g : goodWord (Cond.selects q.1.cls q.1 q.1) = true) : Cond.selects q.1.cls q.1 q.1 ∈ gT := List.mem_filter.mpr ⟨List.mem_append_left _ (List.mem_map.mpr ⟨q, List.mem_of_getElem? h, rfl⟩), g⟩
theorem gT_gi {ws : List Cond} (h : ∀ w ∈ ws, w ∈ gT) : GoodIn gT ws := fun w hw => ⟨h w hw, good_of_word (List.mem_filter.mp (h w hw)).2⟩
theorem gT_sub {c : Cond} : ∀ w ∈ gT, w ∈ c :: gT := fun _ h => List.mem_cons_of_mem _ h
theorem ifp {c : Prop} [Decidable c] {α : Type} {a b x : α} (h : (if c then a else b) = x) (hc : c) : a = x := by rw [if_pos hc] at h; exact h
theorem ifn {c : Prop} [Decidable c] {α : Type} {a b x : α} (h : (if c then a else b) = x) (hc : ¬ c) : b = x := by rw [if_neg hc] at h; exact h
theorem ifg {c : Prop} [Decidable c] {α : Type} {a : Option α} {x : α} (h : (if c then a else none) = some x) : c ∧ a = some x := by
  by_cases hc : c
  · rw [if_pos hc] at h; exact ⟨hc, h⟩
  · rw [if_neg hc] at h; cases h
theorem obd {α β : Type} {a : Option α} {f : α → Option β} {x : β} (h : a.bind f = some x) : ∃ r, a = some r ∧ f r = some x := Option.bind_eq_some_iff.mp h
/-- the one String constant, and the static that its methods read: they lie outside A -/
def gK (A : Nat → Prop) (U : State) (H : Heap) : Prop := ∃ (aK aV : Nat), vk_R RX2 69 "crplt" aK U ∧ vk_S 1 [5] [[99, 114, 112, 108, 116]] (fun _ => aK) (fun _ => aV) A U H ∧ va_Z "java/lang/String" "COMPACT_STRINGS" "Z" (.int 1) A U H
theorem gK.step {A B : Nat → Prop} {s U : State} {H : Heap} {locs : List Loc} (h : gK A s s.heap) (hW : s.WarmedH U.vm) (hS : va_S A s.heap H locs) (hU : U.heap = H) (hAB : ∀ q, B q → A q) : gK B U U.heap := by
  obtain ⟨aK, aV, h1, h2, h3⟩ := h
  rw [hU]
  exact ⟨aK, aV, h1.warm hW, ((h2.kept hS.2.1).moved hW.alike).narrow hAB, ((h3.kept hS.2.1).moved hW.alike).narrow hAB⟩
def gC (p : Program) (s : State) (m : MethodId) (args : Array Value) (meth : Method) (c : Code) (cc : ByteArray) (nL : Nat) (own : String) (D : va_G) (tys : List (ClassId × FieldType)) (A : Nat → Prop) (rt : Option FieldType) : Prop :=
  p.tables.exec = Jvm.exec ∧ c.code = cc ∧ c.maxLocals = nL ∧ s.vm.findClass own = some m.cls ∧ (∀ w ∈ gT, w.before args s = true) ∧ va_K D vwCl tys s ∧ (∀ q : Nat, s.heap.size ≤ q → A q) ∧ meth.locks = false ∧ meth.sig.returnType = rt ∧ gK A s s.heap
def gG (p : Program) (l : Launch) (e : Env) (R : Room) (s : State) (m : MethodId) (args : Array Value) (below : List Frame) (meth : Method) (c : Code) (nL : Nat) (D : va_G) (A : Nat → Prop) (k n : Nat) (Q : State → Prop) (pc : Nat) (lv : List (Nat × Value)) (st : List Value) (ws : va_W) : Prop :=
  ∀ (H : Heap) (locs : List Loc) (ls : Array Slot), va_P D vwCl ws H → va_D A ws → va_S A s.heap H locs → lv_has ls nL lv → W p l e R s m args below meth c H locs k n Q (F0 m pc ls st)
def gPre (D : va_G) (tys : List (ClassId × FieldType)) (av : List Value) (w0 : va_W) (sz : Nat) : Array Value → State → Prop := va_Pc av (fun U => U.heap.size = sz ∧ va_P D vwCl w0 U.heap ∧ va_K D vwCl tys U ∧ va_D (fun _ => True) w0 ∧ gK (va_A w0 sz) U U.heap)
def gB (D : va_G) (tys : List (ClassId × FieldType)) (A : Nat → Prop) (w1 : va_W) : Unit → State → Prop := fun _ t => va_P D vwCl w1 t.heap ∧ va_K D vwCl tys t ∧ va_D A w1
def gQi (D : va_G) (tys : List (ClassId × FieldType)) (A : Nat → Prop) (r : Int32) (w1 : va_W) : Array Value → State → Outcome → State → Prop := va_Qi (fun (r' : Int32) (_ : Unit) => r' = r) (gB D tys A w1) A
def gQl (D : va_G) (tys : List (ClassId × FieldType)) (A : Nat → Prop) (r : Int64) (w1 : va_W) : Array Value → State → Outcome → State → Prop := va_Ql (fun (r' : Int64) (_ : Unit) => r' = r) (gB D tys A w1) A
def gQv (D : va_G) (tys : List (ClassId × FieldType)) (A : Nat → Prop) (w1 : va_W) : Array Value → State → Outcome → State → Prop := va_Qv (fun (_ : Unit) => True) (gB D tys A w1) A
def gQr (D : va_G) (tys : List (ClassId × FieldType)) (A : Nat → Prop) (r : Nat) (w1 : va_W) : Array Value → State → Outcome → State → Prop := va_Qr (fun (_ : Unit) => True) (fun u ra t => ra = r ∧ gB D tys A w1 u t) A
def gMi (l : Launch) (y : MethodName) (cb : ByteArray) (mL : Nat) (rt : Option FieldType) (rm : Room) (D : va_G) (tys : List (ClassId × FieldType)) (av : List Value) (w0 : va_W) (r : Int32) (w1 : va_W) : Prop := ∀ sz : Nat, Met l y (Cond.code y cb mL rt :: gT) rm (gPre D tys av w0 sz) (gQi D tys (va_A w0 sz) r w1) 0 0 (va_A w0 sz)
def gMl (l : Launch) (y : MethodName) (cb : ByteArray) (mL : Nat) (rt : Option FieldType) (rm : Room) (D : va_G) (tys : List (ClassId × FieldType)) (av : List Value) (w0 : va_W) (r : Int64) (w1 : va_W) : Prop := ∀ sz : Nat, Met l y (Cond.code y cb mL rt :: gT) rm (gPre D tys av w0 sz) (gQl D tys (va_A w0 sz) r w1) 0 0 (va_A w0 sz)
def gMv (l : Launch) (y : MethodName) (cb : ByteArray) (mL : Nat) (rt : Option FieldType) (rm : Room) (D : va_G) (tys : List (ClassId × FieldType)) (av : List Value) (w0 : va_W) (w1 : va_W) : Prop := ∀ sz : Nat, Met l y (Cond.code y cb mL rt :: gT) rm (gPre D tys av w0 sz) (gQv D tys (va_A w0 sz) w1) 0 0 (va_A w0 sz)
def gMr (l : Launch) (y : MethodName) (cb : ByteArray) (mL : Nat) (rt : Option FieldType) (rm : Room) (D : va_G) (tys : List (ClassId × FieldType)) (av : List Value) (w0 : va_W) (r : Nat) (w1 : va_W) : Prop := ∀ sz : Nat, Met l y (Cond.code y cb mL rt :: gT) rm (gPre D tys av w0 sz) (gQr D tys (va_A w0 sz) r w1) 0 0 (va_A w0 sz)
/-- a field of a kind of object, by the pool number of a class -/
def gF (own : String) (idx ci k : Nat) : Prop := ∃ (Cn : String) (T : u_T) (N : Nat), vwCl[ci]? = some (Cn, T, N) ∧ k < N ∧ (∀ w ∈ u_ws Cn T N, w ∈ gT) ∧ Cond.fieldLink own idx (T k).1 (T k).2.1 (T k).2.2.1 ∈ gT
/-- .. that may be written -/
def gFp (own : String) (idx ci k : Nat) (ty : FieldType) : Prop := ∃ (Cn : String) (T : u_T) (N : Nat) (ty0 : Nat → FieldType), vwCl[ci]? = some (Cn, T, N) ∧ k < N ∧ (∀ w ∈ u_ws Cn T N, w ∈ gT) ∧ Cond.fieldLink own idx (T k).1 (T k).2.1 (T k).2.2.1 ∈ gT ∧ (∀ k, k < N → parseFieldDescriptor (T k).2.2.1 = some (ty0 k)) ∧ (∀ a, a < N → ∀ b, b < N → a ≠ b → (T a).2.1 ≠ (T b).2.1) ∧ (T k).2.2.2 = false ∧ parseFieldDescriptor (T k).2.2.1 = some ty
/-- a method by the tables -/
def gY (y : MethodName) (cb : ByteArray) (mL : Nat) (rt : Option FieldType) (nA : Nat) : Prop := Cond.initialized y.cls ∈ gT ∧ Cond.code y cb mL rt ∈ gT ∧ y.cls ≠ "java/lang/invoke/MethodHandle" ∧ y.cls ≠ "java/lang/invoke/VarHandle" ∧ (parseMethodDescriptor y.desc).map (fun d => d.parameters.length) = some nA
def gYv (y : MethodName) (cb : ByteArray) (mL : Nat) (rt : Option FieldType) (nA : Nat) : Prop := gY y cb mL rt nA ∧ Cond.instanceMethod y ∈ gT ∧ Cond.selects y.cls y y ∈ gT
def gYs (y : MethodName) (cb : ByteArray) (mL : Nat) (rt : Option FieldType) (nA : Nat) : Prop := gY y cb mL rt nA ∧ Cond.static y ∈ gT
section GLib
variable {p : Program} {l : Launch} {e : Env} {R : Room} {s : State} {m : MethodId} {args : Array Value} {below : List Frame} {meth : Method} {c : Code} {cc : ByteArray} {nL : Nat} {own : String} {D : va_G} {tys : List (ClassId × FieldType)} {A : Nat → Prop} {rt : Option FieldType} {k n : Nat} {Q : State → Prop} {pc : Nat} {lv : List (Nat × Value)} {st : List Value} {ws : va_W}

theorem g_iconst (C : gC p s m args meth c cc nL own D tys A rt) {z : Int} {v : Int32} (d : decode cc pc = .ok (.iconst z, 1)) (hv : Int32.ofInt z = v) (kk : gG p l e R s m args below meth c nL D A k n Q (pc + 1) lv (.int v :: st) ws) : gG p l e R s m args below meth c nL D A k n Q pc lv st ws := fun H locs ls hP hD hS hl => lv_iconst C.1 C.2.1 d hv (kk H locs ls hP hD hS hl)
theorem g_bipush (C : gC p s m args meth c cc nL own D tys A rt) {z : Int} {v : Int32} (d : decode cc pc = .ok (.bipush z, 2)) (hv : (Int8.ofInt z).toInt32 = v) (kk : gG p l e R s m args below meth c nL D A k n Q (pc + 2) lv (.int v :: st) ws) : gG p l e R s m args below meth c nL D A k n Q pc lv st ws := fun H locs ls hP hD hS hl => lv_bipush C.1 C.2.1 d hv (kk H locs ls hP hD hS hl)
theorem g_sipush (C : gC p s m args meth c cc nL own D tys A rt) {z : Int} {v : Int32} (d : decode cc pc = .ok (.sipush z, 3)) (hv : (Int16.ofInt z).toInt32 = v) (kk : gG p l e R s m args below meth c nL D A k n Q (pc + 3) lv (.int v :: st) ws) : gG p l e R s m args below meth c nL D A k n Q pc lv st ws := fun H locs ls hP hD hS hl => lv_sipush C.1 C.2.1 d hv (kk H locs ls hP hD hS hl)
theorem g_lconst (C : gC p s m args meth c cc nL own D tys A rt) {z : Fin 2} {v : Int64} (d : decode cc pc = .ok (.lconst z, 1)) (hv : Int64.ofNat (z : Nat) = v) (kk : gG p l e R s m args below meth c nL D A k n Q (pc + 1) lv (.long v :: st) ws) : gG p l e R s m args below meth c nL D A k n Q pc lv st ws := fun H locs ls hP hD hS hl => lv_lconst C.1 C.2.1 d hv (kk H locs ls hP hD hS hl)
theorem g_ldc (C : gC p s m args meth c cc nL own D tys A rt) {idx : Nat} {v : Int32} (d : decode cc pc = .ok (.ldc idx, 2)) (hw : Cond.constant own idx v ∈ gT) (kk : gG p l e R s m args below meth c nL D A k n Q (pc + 2) lv (.int v :: st) ws) : gG p l e R s m args below meth c nL D A k n Q pc lv st ws := fun H locs ls hP hD hS hl => lv_ldc C.1 C.2.1 C.2.2.2.1 (C.2.2.2.2.1 _ hw) d (kk H locs ls hP hD hS hl)
theorem g_ldcw (C : gC p s m args meth c cc nL own D tys A rt) {idx : Nat} {v : Int32} (d : decode cc pc = .ok (.ldc_w idx, 3)) (hw : Cond.constant own idx v ∈ gT) (kk : gG p l e R s m args below meth c nL D A k n Q (pc + 3) lv (.int v :: st) ws) : gG p l e R s m args below meth c nL D A k n Q pc lv st ws := fun H locs ls hP hD hS hl => lv_ldcw C.1 C.2.1 C.2.2.2.1 (C.2.2.2.2.1 _ hw) d (kk H locs ls hP hD hS hl)
theorem g_ldc2 (C : gC p s m args meth c cc nL own D tys A rt) {idx : Nat} {v : Int64} (d : decode cc pc = .ok (.ldc2_w idx, 3)) (hw : Cond.constantLong own idx v ∈ gT) (kk : gG p l e R s m args below meth c nL D A k n Q (pc + 3) lv (.long v :: st) ws) : gG p l e R s m args below meth c nL D A k n Q pc lv st ws := fun H locs ls hP hD hS hl => lv_ldc2 C.1 C.2.1 C.2.2.2.1 (C.2.2.2.2.1 _ hw) d (kk H locs ls hP hD hS hl)
theorem g_iload_n (C : gC p s m args meth c cc nL own D tys A rt) {z : Fin 4} {i : Nat} {x : Int32} (d : decode cc pc = .ok (.iload_n z, 1)) (hi : (z : Nat) = i) (j : Nat) (hj : lv[j]? = some (i, .int x)) (kk : gG p l e R s m args below meth c nL D A k n Q (pc + 1) lv (.int x :: st) ws) : gG p l e R s m args below meth c nL D A k n Q pc lv st ws := fun H locs ls hP hD hS hl => lv_iload_n C.1 C.2.1 d hi (lv_at hl j hj) (kk H locs ls hP hD hS hl)
theorem g_iload (C : gC p s m args meth c cc nL own D tys A rt) {i : Nat} {x : Int32} (d : decode cc pc = .ok (.iload i, 2)) (j : Nat) (hj : lv[j]? = some (i, .int x)) (kk : gG p l e R s m args below meth c nL D A k n Q (pc + 2) lv (.int x :: st) ws) : gG p l e R s m args below meth c nL D A k n Q pc lv st ws := fun H locs ls hP hD hS hl => lv_iload C.1 C.2.1 d (lv_at hl j hj) (kk H locs ls hP hD hS hl)
theorem g_lload_n (C : gC p s m args meth c cc nL own D tys A rt) {z : Fin 4} {i : Nat} {x : Int64} (d : decode cc pc = .ok (.lload_n z, 1)) (hi : (z : Nat) = i) (j : Nat) (hj : lv[j]? = some (i, .long x)) (kk : gG p l e R s m args below meth c nL D A k n Q (pc + 1) lv (.long x :: st) ws) : gG p l e R s m args below meth c nL D A k n Q pc lv st ws := fun H locs ls hP hD hS hl => lv_lload_n C.1 C.2.1 d hi (lv_at hl j hj) (kk H locs ls hP hD hS hl)
theorem g_lload (C : gC p s m args meth c cc nL own D tys A rt) {i : Nat} {x : Int64} (d : decode cc pc = .ok (.lload i, 2)) (j : Nat) (hj : lv[j]? = some (i, .long x)) (kk : gG p l e R s m args below meth c nL D A k n Q (pc + 2) lv (.long x :: st) ws) : gG p l e R s m args below meth c nL D A k n Q pc lv st ws := fun H locs ls hP hD hS hl => lv_lload C.1 C.2.1 d (lv_at hl j hj) (kk H locs ls hP hD hS hl)
theorem g_aload_n (C : gC p s m args meth c cc nL own D tys A rt) {z : Fin 4} {i : Nat} {x : Nat} (d : decode cc pc = .ok (.aload_n z, 1)) (hi : (z : Nat) = i) (j : Nat) (hj : lv[j]? = some (i, .ref x)) (kk : gG p l e R s m args below meth c nL D A k n Q (pc + 1) lv (.ref x :: st) ws) : gG p l e R s m args below meth c nL D A k n Q pc lv st ws := fun H locs ls hP hD hS hl => lv_aload_n C.1 C.2.1 d hi (lv_at hl j hj) (kk H locs ls hP hD hS hl)
theorem g_aload (C : gC p s m args meth c cc nL own D tys A rt) {i : Nat} {x : Nat} (d : decode cc pc = .ok (.aload i, 2)) (j : Nat) (hj : lv[j]? = some (i, .ref x)) (kk : gG p l e R s m args below meth c nL D A k n Q (pc + 2) lv (.ref x :: st) ws) : gG p l e R s m args below meth c nL D A k n Q pc lv st ws := fun H locs ls hP hD hS hl => lv_aload C.1 C.2.1 d (lv_at hl j hj) (kk H locs ls hP hD hS hl)
theorem g_aload_nN (C : gC p s m args meth c cc nL own D tys A rt) {z : Fin 4} {i : Nat} (d : decode cc pc = .ok (.aload_n z, 1)) (hi : (z : Nat) = i) (j : Nat) (hj : lv[j]? = some (i, .null)) (kk : gG p l e R s m args below meth c nL D A k n Q (pc + 1) lv (.null :: st) ws) : gG p l e R s m args below meth c nL D A k n Q pc lv st ws := fun H locs ls hP hD hS hl => lv_aload_nN C.1 C.2.1 d hi (lv_at hl j hj) (kk H locs ls hP hD hS hl)
theorem g_aloadN (C : gC p s m args meth c cc nL own D tys A rt) {i : Nat} (d : decode cc pc = .ok (.aload i, 2)) (j : Nat) (hj : lv[j]? = some (i, .null)) (kk : gG p l e R s m args below meth c nL D A k n Q (pc + 2) lv (.null :: st) ws) : gG p l e R s m args below meth c nL D A k n Q pc lv st ws := fun H locs ls hP hD hS hl => lv_aloadN C.1 C.2.1 d (lv_at hl j hj) (kk H locs ls hP hD hS hl)
theorem g_istore_n (C : gC p s m args meth c cc nL own D tys A rt) {z : Fin 4} {i : Nat} {x : Int32} {lv' : List (Nat × Value)} (d : decode cc pc = .ok (.istore_n z, 1)) (hi : (z : Nat) = i) (hn : i < nL) (hl0 : (i, Value.int x) :: lv.filter (fun q => !(q.1 == i) && !(q.1 + 1 == i && q.2.category == 2)) = lv') (kk : gG p l e R s m args below meth c nL D A k n Q (pc + 1) lv' st ws) : gG p l e R s m args below meth c nL D A k n Q pc lv (Value.int x :: st) ws := fun H locs ls hP hD hS hl => lv_istore_n C.1 C.2.1 d hi hl hn hl0 (fun ls' hl' => kk H locs ls' hP hD hS hl')
theorem g_istore (C : gC p s m args meth c cc nL own D tys A rt) {i : Nat} {x : Int32} {lv' : List (Nat × Value)} (d : decode cc pc = .ok (.istore i, 2)) (hn : i < nL) (hl0 : (i, Value.int x) :: lv.filter (fun q => !(q.1 == i) && !(q.1 + 1 == i && q.2.category == 2)) = lv') (kk : gG p l e R s m args below meth c nL D A k n Q (pc + 2) lv' st ws) : gG p l e R s m args below meth c nL D A k n Q pc lv (Value.int x :: st) ws := fun H locs ls hP hD hS hl => lv_istore C.1 C.2.1 d hl hn hl0 (fun ls' hl' => kk H locs ls' hP hD hS hl')
theorem g_lstore_n (C : gC p s m args meth c cc nL own D tys A rt) {z : Fin 4} {i : Nat} {x : Int64} {lv' : List (Nat × Value)} (d : decode cc pc = .ok (.lstore_n z, 1)) (hi : (z : Nat) = i) (hn : i + 1 < nL) (hl0 : (i, Value.long x) :: lv.filter (fun q => !(q.1 == i) && (!(q.1 == i + 1) && !(q.1 + 1 == i && q.2.category == 2))) = lv') (kk : gG p l e R s m args below meth c nL D A k n Q (pc + 1) lv' st ws) : gG p l e R s m args below meth c nL D A k n Q pc lv (Value.long x :: st) ws := fun H locs ls hP hD hS hl => lv_lstore_n C.1 C.2.1 d hi hl hn hl0 (fun ls' hl' => kk H locs ls' hP hD hS hl')
theorem g_lstore (C : gC p s m args meth c cc nL own D tys A rt) {i : Nat} {x : Int64} {lv' : List (Nat × Value)} (d : decode cc pc = .ok (.lstore i, 2)) (hn : i + 1 < nL) (hl0 : (i, Value.long x) :: lv.filter (fun q => !(q.1 == i) && (!(q.1 == i + 1) && !(q.1 + 1 == i && q.2.category == 2))) = lv') (kk : gG p l e R s m args below meth c nL D A k n Q (pc + 2) lv' st ws) : gG p l e R s m args below meth c nL D A k n Q pc lv (Value.long x :: st) ws := fun H locs ls hP hD hS hl => lv_lstore C.1 C.2.1 d hl hn hl0 (fun ls' hl' => kk H locs ls' hP hD hS hl')
theorem g_astore_n (C : gC p s m args meth c cc nL own D tys A rt) {z : Fin 4} {i : Nat} {x : Nat} {lv' : List (Nat × Value)} (d : decode cc pc = .ok (.astore_n z, 1)) (hi : (z : Nat) = i) (hn : i < nL) (hl0 : (i, Value.ref x) :: lv.filter (fun q => !(q.1 == i) && !(q.1 + 1 == i && q.2.category == 2)) = lv') (kk : gG p l e R s m args below meth c nL D A k n Q (pc + 1) lv' st ws) : gG p l e R s m args below meth c nL D A k n Q pc lv (Value.ref x :: st) ws := fun H locs ls hP hD hS hl => lv_astore_n C.1 C.2.1 d hi hl hn hl0 (fun ls' hl' => kk H locs ls' hP hD hS hl')
theorem g_astore (C : gC p s m args meth c cc nL own D tys A rt) {i : Nat} {x : Nat} {lv' : List (Nat × Value)} (d : decode cc pc = .ok (.astore i, 2)) (hn : i < nL) (hl0 : (i, Value.ref x) :: lv.filter (fun q => !(q.1 == i) && !(q.1 + 1 == i && q.2.category == 2)) = lv') (kk : gG p l e R s m args below meth c nL D A k n Q (pc + 2) lv' st ws) : gG p l e R s m args below meth c nL D A k n Q pc lv (Value.ref x :: st) ws := fun H locs ls hP hD hS hl => lv_astore C.1 C.2.1 d hl hn hl0 (fun ls' hl' => kk H locs ls' hP hD hS hl')
theorem g_iinc (C : gC p s m args meth c cc nL own D tys A rt) {i j : Nat} {z : Int} {x v : Int32} {lv' : List (Nat × Value)} (d : decode cc pc = .ok (.iinc i z, 3)) (hj : lv[j]? = some (i, .int x)) (hv : x + Int32.ofInt z = v) (hn : i < nL) (hl0 : (i, Value.int v) :: lv.filter (fun q => !(q.1 == i) && !(q.1 + 1 == i && q.2.category == 2)) = lv') (kk : gG p l e R s m args below meth c nL D A k n Q (pc + 3) lv' st ws) : gG p l e R s m args below meth c nL D A k n Q pc lv st ws := fun H locs ls hP hD hS hl => lv_iinc C.1 C.2.1 d hl hj hv hn hl0 (fun ls' hl' => kk H locs ls' hP hD hS hl')
theorem g_iadd (C : gC p s m args meth c cc nL own D tys A rt) {x y : Int32} (d : decode cc pc = .ok (.iadd, 1)) (kk : gG p l e R s m args below meth c nL D A k n Q (pc + 1) lv (.int (x + y) :: st) ws) : gG p l e R s m args below meth c nL D A k n Q pc lv (.int y :: .int x :: st) ws := fun H locs ls hP hD hS hl => lv_iadd C.1 C.2.1 d (kk H locs ls hP hD hS hl)
theorem g_isub (C : gC p s m args meth c cc nL own D tys A rt) {x y : Int32} (d : decode cc pc = .ok (.isub, 1)) (kk : gG p l e R s m args below meth c nL D A k n Q (pc + 1) lv (.int (x - y) :: st) ws) : gG p l e R s m args below meth c nL D A k n Q pc lv (.int y :: .int x :: st) ws := fun H locs ls hP hD hS hl => lv_isub C.1 C.2.1 d (kk H locs ls hP hD hS hl)
theorem g_imul (C : gC p s m args meth c cc nL own D tys A rt) {x y : Int32} (d : decode cc pc = .ok (.imul, 1)) (kk : gG p l e R s m args below meth c nL D A k n Q (pc + 1) lv (.int (x * y) :: st) ws) : gG p l e R s m args below meth c nL D A k n Q pc lv (.int y :: .int x :: st) ws := fun H locs ls hP hD hS hl => lv_imul C.1 C.2.1 d (kk H locs ls hP hD hS hl)
theorem g_iand (C : gC p s m args meth c cc nL own D tys A rt) {x y : Int32} (d : decode cc pc = .ok (.iand, 1)) (kk : gG p l e R s m args below meth c nL D A k n Q (pc + 1) lv (.int (x &&& y) :: st) ws) : gG p l e R s m args below meth c nL D A k n Q pc lv (.int y :: .int x :: st) ws := fun H locs ls hP hD hS hl => lv_iand C.1 C.2.1 d (kk H locs ls hP hD hS hl)
theorem g_ior (C : gC p s m args meth c cc nL own D tys A rt) {x y : Int32} (d : decode cc pc = .ok (.ior, 1)) (kk : gG p l e R s m args below meth c nL D A k n Q (pc + 1) lv (.int (x ||| y) :: st) ws) : gG p l e R s m args below meth c nL D A k n Q pc lv (.int y :: .int x :: st) ws := fun H locs ls hP hD hS hl => lv_ior C.1 C.2.1 d (kk H locs ls hP hD hS hl)
theorem g_ixor (C : gC p s m args meth c cc nL own D tys A rt) {x y : Int32} (d : decode cc pc = .ok (.ixor, 1)) (kk : gG p l e R s m args below meth c nL D A k n Q (pc + 1) lv (.int (x ^^^ y) :: st) ws) : gG p l e R s m args below meth c nL D A k n Q pc lv (.int y :: .int x :: st) ws := fun H locs ls hP hD hS hl => lv_ixor C.1 C.2.1 d (kk H locs ls hP hD hS hl)
theorem g_ishl (C : gC p s m args meth c cc nL own D tys A rt) {x y : Int32} (d : decode cc pc = .ok (.ishl, 1)) (kk : gG p l e R s m args below meth c nL D A k n Q (pc + 1) lv (.int (x <<< (y &&& 31)) :: st) ws) : gG p l e R s m args below meth c nL D A k n Q pc lv (.int y :: .int x :: st) ws := fun H locs ls hP hD hS hl => lv_ishl C.1 C.2.1 d (kk H locs ls hP hD hS hl)
theorem g_ishr (C : gC p s m args meth c cc nL own D tys A rt) {x y : Int32} (d : decode cc pc = .ok (.ishr, 1)) (kk : gG p l e R s m args below meth c nL D A k n Q (pc + 1) lv (.int (x >>> (y &&& 31)) :: st) ws) : gG p l e R s m args below meth c nL D A k n Q pc lv (.int y :: .int x :: st) ws := fun H locs ls hP hD hS hl => lv_ishr C.1 C.2.1 d (kk H locs ls hP hD hS hl)
theorem g_idiv (C : gC p s m args meth c cc nL own D tys A rt) {x y : Int32} (d : decode cc pc = .ok (.idiv, 1)) (hne : ¬ y = 0) (kk : gG p l e R s m args below meth c nL D A k n Q (pc + 1) lv (.int (x / y) :: st) ws) : gG p l e R s m args below meth c nL D A k n Q pc lv (.int y :: .int x :: st) ws := fun H locs ls hP hD hS hl => lv_idiv C.1 C.2.1 d hne (kk H locs ls hP hD hS hl)
theorem g_irem (C : gC p s m args meth c cc nL own D tys A rt) {x y : Int32} (d : decode cc pc = .ok (.irem, 1)) (hne : ¬ y = 0) (kk : gG p l e R s m args below meth c nL D A k n Q (pc + 1) lv (.int (x - x / y * y) :: st) ws) : gG p l e R s m args below meth c nL D A k n Q pc lv (.int y :: .int x :: st) ws := fun H locs ls hP hD hS hl => lv_irem C.1 C.2.1 d hne (kk H locs ls hP hD hS hl)
theorem g_ladd (C : gC p s m args meth c cc nL own D tys A rt) {x y : Int64} (d : decode cc pc = .ok (.ladd, 1)) (kk : gG p l e R s m args below meth c nL D A k n Q (pc + 1) lv (.long (x + y) :: st) ws) : gG p l e R s m args below meth c nL D A k n Q pc lv (.long y :: .long x :: st) ws := fun H locs ls hP hD hS hl => lv_ladd C.1 C.2.1 d (kk H locs ls hP hD hS hl)
theorem g_lsub (C : gC p s m args meth c cc nL own D tys A rt) {x y : Int64} (d : decode cc pc = .ok (.lsub, 1)) (kk : gG p l e R s m args below meth c nL D A k n Q (pc + 1) lv (.long (x - y) :: st) ws) : gG p l e R s m args below meth c nL D A k n Q pc lv (.long y :: .long x :: st) ws := fun H locs ls hP hD hS hl => lv_lsub C.1 C.2.1 d (kk H locs ls hP hD hS hl)
theorem g_lmul (C : gC p s m args meth c cc nL own D tys A rt) {x y : Int64} (d : decode cc pc = .ok (.lmul, 1)) (kk : gG p l e R s m args below meth c nL D A k n Q (pc + 1) lv (.long (x * y) :: st) ws) : gG p l e R s m args below meth c nL D A k n Q pc lv (.long y :: .long x :: st) ws := fun H locs ls hP hD hS hl => lv_lmul C.1 C.2.1 d (kk H locs ls hP hD hS hl)
theorem g_land (C : gC p s m args meth c cc nL own D tys A rt) {x y : Int64} (d : decode cc pc = .ok (.land, 1)) (kk : gG p l e R s m args below meth c nL D A k n Q (pc + 1) lv (.long (x &&& y) :: st) ws) : gG p l e R s m args below meth c nL D A k n Q pc lv (.long y :: .long x :: st) ws := fun H locs ls hP hD hS hl => lv_land C.1 C.2.1 d (kk H locs ls hP hD hS hl)
theorem g_lor (C : gC p s m args meth c cc nL own D tys A rt) {x y : Int64} (d : decode cc pc = .ok (.lor, 1)) (kk : gG p l e R s m args below meth c nL D A k n Q (pc + 1) lv (.long (x ||| y) :: st) ws) : gG p l e R s m args below meth c nL D A k n Q pc lv (.long y :: .long x :: st) ws := fun H locs ls hP hD hS hl => lv_lor C.1 C.2.1 d (kk H locs ls hP hD hS hl)
theorem g_ldiv (C : gC p s m args meth c cc nL own D tys A rt) {x y : Int64} (d : decode cc pc = .ok (.ldiv, 1)) (hne : ¬ y = 0) (kk : gG p l e R s m args below meth c nL D A k n Q (pc + 1) lv (.long (x / y) :: st) ws) : gG p l e R s m args below meth c nL D A k n Q pc lv (.long y :: .long x :: st) ws := fun H locs ls hP hD hS hl => lv_ldiv C.1 C.2.1 d hne (kk H locs ls hP hD hS hl)
theorem g_lrem (C : gC p s m args meth c cc nL own D tys A rt) {x y : Int64} (d : decode cc pc = .ok (.lrem, 1)) (hne : ¬ y = 0) (kk : gG p l e R s m args below meth c nL D A k n Q (pc + 1) lv (.long (x - x / y * y) :: st) ws) : gG p l e R s m args below meth c nL D A k n Q pc lv (.long y :: .long x :: st) ws := fun H locs ls hP hD hS hl => lv_lrem C.1 C.2.1 d hne (kk H locs ls hP hD hS hl)
theorem g_lshl (C : gC p s m args meth c cc nL own D tys A rt) {x : Int64} {y : Int32} (d : decode cc pc = .ok (.lshl, 1)) (kk : gG p l e R s m args below meth c nL D A k n Q (pc + 1) lv (.long (x <<< (y.toInt64 &&& 63)) :: st) ws) : gG p l e R s m args below meth c nL D A k n Q pc lv (.int y :: .long x :: st) ws := fun H locs ls hP hD hS hl => lv_lshl C.1 C.2.1 d rfl (kk H locs ls hP hD hS hl)
theorem g_lshr (C : gC p s m args meth c cc nL own D tys A rt) {x : Int64} {y : Int32} (d : decode cc pc = .ok (.lshr, 1)) (kk : gG p l e R s m args below meth c nL D A k n Q (pc + 1) lv (.long (x >>> (y.toInt64 &&& 63)) :: st) ws) : gG p l e R s m args below meth c nL D A k n Q pc lv (.int y :: .long x :: st) ws := fun H locs ls hP hD hS hl => lv_lshr C.1 C.2.1 d rfl (kk H locs ls hP hD hS hl)
theorem g_iushr (C : gC p s m args meth c cc nL own D tys A rt) {x y : Int32} (d : decode cc pc = .ok (.iushr, 1)) (kk : gG p l e R s m args below meth c nL D A k n Q (pc + 1) lv (.int ((x.toUInt32 >>> (y.toUInt32 &&& Int32.toUInt32 31)).toInt32) :: st) ws) : gG p l e R s m args below meth c nL D A k n Q pc lv (.int y :: .int x :: st) ws := fun H locs ls hP hD hS hl => lv_iushr C.1 C.2.1 d rfl (kk H locs ls hP hD hS hl)
theorem g_lcmp (C : gC p s m args meth c cc nL own D tys A rt) {x y : Int64} (d : decode cc pc = .ok (.lcmp, 1)) (kk : gG p l e R s m args below meth c nL D A k n Q (pc + 1) lv (.int (lg_cmp x y) :: st) ws) : gG p l e R s m args below meth c nL D A k n Q pc lv (.long y :: .long x :: st) ws := fun H locs ls hP hD hS hl => W.lcmp C.1 C.2.1 d (kk H locs ls hP hD hS hl)
theorem g_i2l (C : gC p s m args meth c cc nL own D tys A rt) {x : Int32} (d : decode cc pc = .ok (.i2l, 1)) (kk : gG p l e R s m args below meth c nL D A k n Q (pc + 1) lv (.long x.toInt64 :: st) ws) : gG p l e R s m args below meth c nL D A k n Q pc lv (.int x :: st) ws := fun H locs ls hP hD hS hl => lv_i2l C.1 C.2.1 d rfl (kk H locs ls hP hD hS hl)
theorem g_l2i (C : gC p s m args meth c cc nL own D tys A rt) {x : Int64} (d : decode cc pc = .ok (.l2i, 1)) (kk : gG p l e R s m args below meth c nL D A k n Q (pc + 1) lv (.int x.toInt32 :: st) ws) : gG p l e R s m args below meth c nL D A k n Q pc lv (.long x :: st) ws := fun H locs ls hP hD hS hl => lv_l2i C.1 C.2.1 d rfl (kk H locs ls hP hD hS hl)
theorem g_i2c (C : gC p s m args meth c cc nL own D tys A rt) {x : Int32} (d : decode cc pc = .ok (.i2c, 1)) (kk : gG p l e R s m args below meth c nL D A k n Q (pc + 1) lv (.int (x.toUInt32 % 65536).toInt32 :: st) ws) : gG p l e R s m args below meth c nL D A k n Q pc lv (.int x :: st) ws := fun H locs ls hP hD hS hl => lv_i2c C.1 C.2.1 d rfl (kk H locs ls hP hD hS hl)
theorem g_dup (C : gC p s m args meth c cc nL own D tys A rt) {va : Value} (d : decode cc pc = .ok (.dup, 1)) (hva : va.category = 1) (kk : gG p l e R s m args below meth c nL D A k n Q (pc + 1) lv (va :: va :: st) ws) : gG p l e R s m args below meth c nL D A k n Q pc lv (va :: st) ws := fun H locs ls hP hD hS hl => lv_dup C.1 C.2.1 d hva (kk H locs ls hP hD hS hl)
theorem g_pop (C : gC p s m args meth c cc nL own D tys A rt) {va : Value} (d : decode cc pc = .ok (.pop, 1)) (hva : va.category = 1) (kk : gG p l e R s m args below meth c nL D A k n Q (pc + 1) lv st ws) : gG p l e R s m args below meth c nL D A k n Q pc lv (va :: st) ws := fun H locs ls hP hD hS hl => lv_pop C.1 C.2.1 d hva (kk H locs ls hP hD hS hl)
theorem g_dup2 (C : gC p s m args meth c cc nL own D tys A rt) {va vb : Value} (d : decode cc pc = .ok (.dup2, 1)) (hva : va.category = 1) (hvb : vb.category = 1) (kk : gG p l e R s m args below meth c nL D A k n Q (pc + 1) lv (va :: vb :: va :: vb :: st) ws) : gG p l e R s m args below meth c nL D A k n Q pc lv (va :: vb :: st) ws := fun H locs ls hP hD hS hl => lv_dup2_11 C.1 C.2.1 d hva hvb (kk H locs ls hP hD hS hl)
theorem g_null (C : gC p s m args meth c cc nL own D tys A rt) (d : decode cc pc = .ok (.aconst_null, 1)) (kk : gG p l e R s m args below meth c nL D A k n Q (pc + 1) lv (.null :: st) ws) : gG p l e R s m args below meth c nL D A k n Q pc lv st ws := fun H locs ls hP hD hS hl => lv_null C.1 C.2.1 d (kk H locs ls hP hD hS hl)
theorem g_if_eq (C : gC p s m args meth c cc nL own D tys A rt) {x : Int32} {off : Int} {tgt : Nat} (d : decode cc pc = .ok (.ifCond .eq off, 3)) (ht : (pc : Int) + off = (tgt : Int)) (kt : x = 0 → gG p l e R s m args below meth c nL D A k n Q tgt lv st ws) (kf : ¬ x = 0 → gG p l e R s m args below meth c nL D A k n Q (pc + 3) lv st ws) : gG p l e R s m args below meth c nL D A k n Q pc lv (.int x :: st) ws := fun H locs ls hP hD hS hl => lv_if_eq C.1 C.2.1 d ht (fun h => kt h H locs ls hP hD hS hl) (fun h => kf h H locs ls hP hD hS hl)
theorem g_icmp_eq (C : gC p s m args meth c cc nL own D tys A rt) {x y : Int32} {off : Int} {tgt : Nat} (d : decode cc pc = .ok (.if_icmp .eq off, 3)) (ht : (pc : Int) + off = (tgt : Int)) (kt : x = y → gG p l e R s m args below meth c nL D A k n Q tgt lv st ws) (kf : ¬ x = y → gG p l e R s m args below meth c nL D A k n Q (pc + 3) lv st ws) : gG p l e R s m args below meth c nL D A k n Q pc lv (.int y :: .int x :: st) ws := fun H locs ls hP hD hS hl => lv_icmp_eq C.1 C.2.1 d ht (fun h => kt h H locs ls hP hD hS hl) (fun h => kf h H locs ls hP hD hS hl)
theorem g_if_ne (C : gC p s m args meth c cc nL own D tys A rt) {x : Int32} {off : Int} {tgt : Nat} (d : decode cc pc = .ok (.ifCond .ne off, 3)) (ht : (pc : Int) + off = (tgt : Int)) (kt : ¬ x = 0 → gG p l e R s m args below meth c nL D A k n Q tgt lv st ws) (kf : x = 0 → gG p l e R s m args below meth c nL D A k n Q (pc + 3) lv st ws) : gG p l e R s m args below meth c nL D A k n Q pc lv (.int x :: st) ws := fun H locs ls hP hD hS hl => lv_if_ne C.1 C.2.1 d ht (fun h => kt h H locs ls hP hD hS hl) (fun h => kf h H locs ls hP hD hS hl)
theorem g_icmp_ne (C : gC p s m args meth c cc nL own D tys A rt) {x y : Int32} {off : Int} {tgt : Nat} (d : decode cc pc = .ok (.if_icmp .ne off, 3)) (ht : (pc : Int) + off = (tgt : Int)) (kt : ¬ x = y → gG p l e R s m args below meth c nL D A k n Q tgt lv st ws) (kf : x = y → gG p l e R s m args below meth c nL D A k n Q (pc + 3) lv st ws) : gG p l e R s m args below meth c nL D A k n Q pc lv (.int y :: .int x :: st) ws := fun H locs ls hP hD hS hl => lv_icmp_ne C.1 C.2.1 d ht (fun h => kt h H locs ls hP hD hS hl) (fun h => kf h H locs ls hP hD hS hl)
theorem g_if_lt (C : gC p s m args meth c cc nL own D tys A rt) {x : Int32} {off : Int} {tgt : Nat} (d : decode cc pc = .ok (.ifCond .lt off, 3)) (ht : (pc : Int) + off = (tgt : Int)) (kt : x < 0 → gG p l e R s m args below meth c nL D A k n Q tgt lv st ws) (kf : ¬ x < 0 → gG p l e R s m args below meth c nL D A k n Q (pc + 3) lv st ws) : gG p l e R s m args below meth c nL D A k n Q pc lv (.int x :: st) ws := fun H locs ls hP hD hS hl => lv_if_lt C.1 C.2.1 d ht (fun h => kt h H locs ls hP hD hS hl) (fun h => kf h H locs ls hP hD hS hl)
theorem g_icmp_lt (C : gC p s m args meth c cc nL own D tys A rt) {x y : Int32} {off : Int} {tgt : Nat} (d : decode cc pc = .ok (.if_icmp .lt off, 3)) (ht : (pc : Int) + off = (tgt : Int)) (kt : x < y → gG p l e R s m args below meth c nL D A k n Q tgt lv st ws) (kf : ¬ x < y → gG p l e R s m args below meth c nL D A k n Q (pc + 3) lv st ws) : gG p l e R s m args below meth c nL D A k n Q pc lv (.int y :: .int x :: st) ws := fun H locs ls hP hD hS hl => lv_icmp_lt C.1 C.2.1 d ht (fun h => kt h H locs ls hP hD hS hl) (fun h => kf h H locs ls hP hD hS hl)
theorem g_if_ge (C : gC p s m args meth c cc nL own D tys A rt) {x : Int32} {off : Int} {tgt : Nat} (d : decode cc pc = .ok (.ifCond .ge off, 3)) (ht : (pc : Int) + off = (tgt : Int)) (kt : 0 ≤ x → gG p l e R s m args below meth c nL D A k n Q tgt lv st ws) (kf : ¬ 0 ≤ x → gG p l e R s m args below meth c nL D A k n Q (pc + 3) lv st ws) : gG p l e R s m args below meth c nL D A k n Q pc lv (.int x :: st) ws := fun H locs ls hP hD hS hl => lv_if_ge C.1 C.2.1 d ht (fun h => kt h H locs ls hP hD hS hl) (fun h => kf h H locs ls hP hD hS hl)
theorem g_icmp_ge (C : gC p s m args meth c cc nL own D tys A rt) {x y : Int32} {off : Int} {tgt : Nat} (d : decode cc pc = .ok (.if_icmp .ge off, 3)) (ht : (pc : Int) + off = (tgt : Int)) (kt : y ≤ x → gG p l e R s m args below meth c nL D A k n Q tgt lv st ws) (kf : ¬ y ≤ x → gG p l e R s m args below meth c nL D A k n Q (pc + 3) lv st ws) : gG p l e R s m args below meth c nL D A k n Q pc lv (.int y :: .int x :: st) ws := fun H locs ls hP hD hS hl => lv_icmp_ge C.1 C.2.1 d ht (fun h => kt h H locs ls hP hD hS hl) (fun h => kf h H locs ls hP hD hS hl)
theorem g_if_gt (C : gC p s m args meth c cc nL own D tys A rt) {x : Int32} {off : Int} {tgt : Nat} (d : decode cc pc = .ok (.ifCond .gt off, 3)) (ht : (pc : Int) + off = (tgt : Int)) (kt : 0 < x → gG p l e R s m args below meth c nL D A k n Q tgt lv st ws) (kf : ¬ 0 < x → gG p l e R s m args below meth c nL D A k n Q (pc + 3) lv st ws) : gG p l e R s m args below meth c nL D A k n Q pc lv (.int x :: st) ws := fun H locs ls hP hD hS hl => lv_if_gt C.1 C.2.1 d ht (fun h => kt h H locs ls hP hD hS hl) (fun h => kf h H locs ls hP hD hS hl)
theorem g_icmp_gt (C : gC p s m args meth c cc nL own D tys A rt) {x y : Int32} {off : Int} {tgt : Nat} (d : decode cc pc = .ok (.if_icmp .gt off, 3)) (ht : (pc : Int) + off = (tgt : Int)) (kt : y < x → gG p l e R s m args below meth c nL D A k n Q tgt lv st ws) (kf : ¬ y < x → gG p l e R s m args below meth c nL D A k n Q (pc + 3) lv st ws) : gG p l e R s m args below meth c nL D A k n Q pc lv (.int y :: .int x :: st) ws := fun H locs ls hP hD hS hl => lv_icmp_gt C.1 C.2.1 d ht (fun h => kt h H locs ls hP hD hS hl) (fun h => kf h H locs ls hP hD hS hl)
theorem g_if_le (C : gC p s m args meth c cc nL own D tys A rt) {x : Int32} {off : Int} {tgt : Nat} (d : decode cc pc = .ok (.ifCond .le off, 3)) (ht : (pc : Int) + off = (tgt : Int)) (kt : x ≤ 0 → gG p l e R s m args below meth c nL D A k n Q tgt lv st ws) (kf : ¬ x ≤ 0 → gG p l e R s m args below meth c nL D A k n Q (pc + 3) lv st ws) : gG p l e R s m args below meth c nL D A k n Q pc lv (.int x :: st) ws := fun H locs ls hP hD hS hl => lv_if_le C.1 C.2.1 d ht (fun h => kt h H locs ls hP hD hS hl) (fun h => kf h H locs ls hP hD hS hl)
theorem g_icmp_le (C : gC p s m args meth c cc nL own D tys A rt) {x y : Int32} {off : Int} {tgt : Nat} (d : decode cc pc = .ok (.if_icmp .le off, 3)) (ht : (pc : Int) + off = (tgt : Int)) (kt : x ≤ y → gG p l e R s m args below meth c nL D A k n Q tgt lv st ws) (kf : ¬ x ≤ y → gG p l e R s m args below meth c nL D A k n Q (pc + 3) lv st ws) : gG p l e R s m args below meth c nL D A k n Q pc lv (.int y :: .int x :: st) ws := fun H locs ls hP hD hS hl => lv_icmp_le C.1 C.2.1 d ht (fun h => kt h H locs ls hP hD hS hl) (fun h => kf h H locs ls hP hD hS hl)
theorem g_goto (C : gC p s m args meth c cc nL own D tys A rt) {off : Int} {tgt : Nat} (d : decode cc pc = .ok (.goto off, 3)) (ht : (pc : Int) + off = (tgt : Int)) (kk : gG p l e R s m args below meth c nL D A k n Q tgt lv st ws) : gG p l e R s m args below meth c nL D A k n Q pc lv st ws := fun H locs ls hP hD hS hl => lv_goto C.1 C.2.1 d ht (kk H locs ls hP hD hS hl)
theorem g_ifnull (C : gC p s m args meth c cc nL own D tys A rt) {x : Nat} {off : Int} (d : decode cc pc = .ok (.ifnull off, 3)) (kk : gG p l e R s m args below meth c nL D A k n Q (pc + 3) lv st ws) : gG p l e R s m args below meth c nL D A k n Q pc lv (.ref x :: st) ws := fun H locs ls hP hD hS hl => lv_ifnull C.1 C.2.1 d (kk H locs ls hP hD hS hl)
theorem g_ifnullN (C : gC p s m args meth c cc nL own D tys A rt) {off : Int} {tgt : Nat} (d : decode cc pc = .ok (.ifnull off, 3)) (ht : (pc : Int) + off = (tgt : Int)) (kk : gG p l e R s m args below meth c nL D A k n Q tgt lv st ws) : gG p l e R s m args below meth c nL D A k n Q pc lv (.null :: st) ws := fun H locs ls hP hD hS hl => lv_ifnullN C.1 C.2.1 d ht (kk H locs ls hP hD hS hl)
theorem g_tableOut (C : gC p s m args meth c cc nL own D tys A rt) {dflt lo hi : Int} {offs : Array Int} {len : Nat} {x : Int32} {tgt : Nat} (d : decode cc pc = .ok (.tableswitch dflt lo hi offs, len)) (h : x.toInt < lo ∨ hi < x.toInt) (ht : (pc : Int) + dflt = (tgt : Int)) (kk : gG p l e R s m args below meth c nL D A k n Q tgt lv st ws) : gG p l e R s m args below meth c nL D A k n Q pc lv (.int x :: st) ws := fun H locs ls hP hD hS hl => lv_tableOut C.1 C.2.1 d h ht (kk H locs ls hP hD hS hl)
theorem g_tableIn (C : gC p s m args meth c cc nL own D tys A rt) {dflt lo hi : Int} {offs : Array Int} {len : Nat} {x : Int32} {off : Int} {tgt : Nat} (d : decode cc pc = .ok (.tableswitch dflt lo hi offs, len)) (h1 : ¬ x.toInt < lo) (h2 : ¬ hi < x.toInt) (ho : offs[(x.toInt - lo).toNat]? = some off) (ht : (pc : Int) + off = (tgt : Int)) (kk : gG p l e R s m args below meth c nL D A k n Q tgt lv st ws) : gG p l e R s m args below meth c nL D A k n Q pc lv (.int x :: st) ws := fun H locs ls hP hD hS hl => lv_tableIn C.1 C.2.1 d h1 h2 ho ht (kk H locs ls hP hD hS hl)
theorem g_tableAt (C : gC p s m args meth c cc nL own D tys A rt) {dflt lo hi : Int} {offs : Array Int} {len : Nat} {x v : Int32} {off : Int} {tgt : Nat} (d : decode cc pc = .ok (.tableswitch dflt lo hi offs, len)) (hx : x = v) (h1 : ¬ v.toInt < lo) (h2 : ¬ hi < v.toInt) (ho : offs[(v.toInt - lo).toNat]? = some off) (ht : (pc : Int) + off = (tgt : Int)) (kk : gG p l e R s m args below meth c nL D A k n Q tgt lv st ws) : gG p l e R s m args below meth c nL D A k n Q pc lv (.int x :: st) ws := by
  subst hx
  exact g_tableIn C d h1 h2 ho ht kk
theorem g_lookup (C : gC p s m args meth c cc nL own D tys A rt) {dflt : Int} {ps : Array (Int × Int)} {len : Nat} {x : Int32} {off : Int} {tgt : Nat} (d : decode cc pc = .ok (.lookupswitch dflt ps, len)) (hp : (ps.toList.zip (ps.toList.drop 1)).all (fun (a, next) => a.1 < next.1) = true) (ho : Op.lookupswitch.offset ps.toList dflt x.toInt = off) (ht : (pc : Int) + off = (tgt : Int)) (kk : gG p l e R s m args below meth c nL D A k n Q tgt lv st ws) : gG p l e R s m args below meth c nL D A k n Q pc lv (.int x :: st) ws := fun H locs ls hP hD hS hl => lv_lookup C.1 C.2.1 d hp ho ht (kk H locs ls hP hD hS hl)
theorem g_get (C : gC p s m args meth c cc nL own D tys A rt) {idx ci kf : Nat} (F : gF own idx ci kf) (d : decode cc pc = .ok (.getfield idx, 3)) (q0 : Nat) {a : Nat} {fs : List Value} {v : Value} (he : ws[q0]? = some (a, .inr (ci, fs))) (hv : fs[kf]? = some v) (kk : gG p l e R s m args below meth c nL D A k n Q (pc + 3) lv (v :: st) ws) : gG p l e R s m args below meth c nL D A k n Q pc lv (.ref a :: st) ws := by
  obtain ⟨Cn, T, N, f1, f2, f3, f4⟩ := F
  exact fun H locs ls hP hD hS hl => va_get C.1 C.2.1 C.2.2.2.2.1 f3 C.2.2.2.1 C.2.2.2.2.2.1 hP q0 he f1 kf f2 (C.2.2.2.2.1 _ f4) (fun _ h => h) hv d (kk H locs ls hP hD hS hl)
theorem g_put (C : gC p s m args meth c cc nL own D tys A rt) {idx ci kf : Nat} {ty : FieldType} (F : gFp own idx ci kf ty) (d : decode cc pc = .ok (.putfield idx, 3)) (q0 : Nat) {a : Nat} {fs : List Value} {v : Value} {ws2 : va_W} (he : ws[q0]? = some (a, .inr (ci, fs))) (hn : narrow ty v = v) (hf : fits ty v = true) (hlt : kf < fs.length) (hw : ws.set q0 (a, .inr (ci, fs.set kf v)) = ws2) (kk : gG p l e R s m args below meth c nL D A k n Q (pc + 3) lv st ws2) : gG p l e R s m args below meth c nL D A k n Q pc lv (v :: .ref a :: st) ws := by
  obtain ⟨Cn, T, N, ty0, f1, f2, f3, f4, f5, f6, f7, f8⟩ := F
  subst hw
  exact fun H locs ls hP hD hS hl => va_put C.1 C.2.1 C.2.2.2.2.1 f3 ty0 f5 f6 C.2.2.2.1 C.2.2.2.2.2.1 hP hD hS q0 he f1 kf f2 (C.2.2.2.2.1 _ f4) (fun _ h => h) f7 f8 hn hf hlt d (fun H1 locs1 hP1 hD1 hS1 => kk H1 locs1 ls hP1 hD1 hS1 hl)
theorem g_iald (C : gC p s m args meth c cc nL own D tys A rt) (d : decode cc pc = .ok (.iaload, 1)) (q0 t0 : Nat) {a : Nat} {cA : ClassId} {N : Nat} {f : Nat → Int32} (ha : ws[q0]? = some (a, .inl (cA, N, .inl f))) (ht : tys[t0]? = some (cA, .int)) {i : Int32} (hin : okI i N = true) (kk : gG p l e R s m args below meth c nL D A k n Q (pc + 1) lv (.int (f i.toNatClampNeg) :: st) ws) : gG p l e R s m args below meth c nL D A k n Q pc lv (.int i :: .ref a :: st) ws := fun H locs ls hP hD hS hl => va_iald C.1 C.2.1 C.2.2.2.2.2.1 hP q0 t0 ha ht (okI_in hin) d (kk H locs ls hP hD hS hl)
theorem g_cald (C : gC p s m args meth c cc nL own D tys A rt) (d : decode cc pc = .ok (.caload, 1)) (q0 t0 : Nat) {a : Nat} {cA : ClassId} {N : Nat} {f : Nat → Int32} (ha : ws[q0]? = some (a, .inl (cA, N, .inl f))) (ht : tys[t0]? = some (cA, .char)) {i : Int32} (hin : okI i N = true) (kk : gG p l e R s m args below meth c nL D A k n Q (pc + 1) lv (.int (f i.toNatClampNeg) :: st) ws) : gG p l e R s m args below meth c nL D A k n Q pc lv (.int i :: .ref a :: st) ws := fun H locs ls hP hD hS hl => va_cald C.1 C.2.1 C.2.2.2.2.2.1 hP q0 t0 ha ht (okI_in hin) d (kk H locs ls hP hD hS hl)
theorem g_zald (C : gC p s m args meth c cc nL own D tys A rt) (d : decode cc pc = .ok (.baload, 1)) (q0 t0 : Nat) {a : Nat} {cA : ClassId} {N : Nat} {f : Nat → Int32} (ha : ws[q0]? = some (a, .inl (cA, N, .inl f))) (ht : tys[t0]? = some (cA, .boolean)) {i : Int32} (hin : okI i N = true) (kk : gG p l e R s m args below meth c nL D A k n Q (pc + 1) lv (.int (f i.toNatClampNeg) :: st) ws) : gG p l e R s m args below meth c nL D A k n Q pc lv (.int i :: .ref a :: st) ws := fun H locs ls hP hD hS hl => va_zald C.1 C.2.1 C.2.2.2.2.2.1 hP q0 t0 ha ht (okI_in hin) d (kk H locs ls hP hD hS hl)
theorem g_lald (C : gC p s m args meth c cc nL own D tys A rt) (d : decode cc pc = .ok (.laload, 1)) (q0 t0 : Nat) {a : Nat} {cA : ClassId} {N : Nat} {f : Nat → Int64} (ha : ws[q0]? = some (a, .inl (cA, N, .inr (.inl f)))) (ht : tys[t0]? = some (cA, .long)) {i : Int32} (hin : okI i N = true) (kk : gG p l e R s m args below meth c nL D A k n Q (pc + 1) lv (.long (f i.toNatClampNeg) :: st) ws) : gG p l e R s m args below meth c nL D A k n Q pc lv (.int i :: .ref a :: st) ws := fun H locs ls hP hD hS hl => va_lald C.1 C.2.1 C.2.2.2.2.2.1 hP q0 t0 ha ht (okI_in hin) d (kk H locs ls hP hD hS hl)
theorem g_iast (C : gC p s m args meth c cc nL own D tys A rt) (d : decode cc pc = .ok (.iastore, 1)) (q0 t0 : Nat) {a : Nat} {cA : ClassId} {N : Nat} {f : Nat → Int32} {ws2 : va_W} (ha : ws[q0]? = some (a, .inl (cA, N, .inl f))) (ht : tys[t0]? = some (cA, .int)) {i : Int32} {x : Int32} (hin : okI i N = true) (hw : ws.set q0 (a, .inl (cA, N, .inl (upd f i.toNatClampNeg x))) = ws2) (kk : gG p l e R s m args below meth c nL D A k n Q (pc + 1) lv st ws2) : gG p l e R s m args below meth c nL D A k n Q pc lv (.int x :: .int i :: .ref a :: st) ws := by
  subst hw
  exact fun H locs ls hP hD hS hl => va_iast C.1 C.2.1 C.2.2.2.2.2.1 hP hD hS q0 t0 ha ht (okI_in hin) d (fun H1 locs1 hP1 hD1 hS1 => kk H1 locs1 ls hP1 hD1 hS1 hl)
theorem g_cast (C : gC p s m args meth c cc nL own D tys A rt) (d : decode cc pc = .ok (.castore, 1)) (q0 t0 : Nat) {a : Nat} {cA : ClassId} {N : Nat} {f : Nat → Int32} {ws2 : va_W} (ha : ws[q0]? = some (a, .inl (cA, N, .inl f))) (ht : tys[t0]? = some (cA, .char)) {i : Int32} {x : Int32} (hin : okI i N = true) (hw : ws.set q0 (a, .inl (cA, N, .inl (upd f i.toNatClampNeg (vp_nar .char x)))) = ws2) (kk : gG p l e R s m args below meth c nL D A k n Q (pc + 1) lv st ws2) : gG p l e R s m args below meth c nL D A k n Q pc lv (.int x :: .int i :: .ref a :: st) ws := by
  subst hw
  exact fun H locs ls hP hD hS hl => va_cast C.1 C.2.1 C.2.2.2.2.2.1 hP hD hS q0 t0 ha ht (okI_in hin) d (fun H1 locs1 hP1 hD1 hS1 => kk H1 locs1 ls hP1 hD1 hS1 hl)
theorem g_zast (C : gC p s m args meth c cc nL own D tys A rt) (d : decode cc pc = .ok (.bastore, 1)) (q0 t0 : Nat) {a : Nat} {cA : ClassId} {N : Nat} {f : Nat → Int32} {ws2 : va_W} (ha : ws[q0]? = some (a, .inl (cA, N, .inl f))) (ht : tys[t0]? = some (cA, .boolean)) {i : Int32} {x : Int32} (hin : okI i N = true) (hw : ws.set q0 (a, .inl (cA, N, .inl (upd f i.toNatClampNeg (vp_nar .boolean x)))) = ws2) (kk : gG p l e R s m args below meth c nL D A k n Q (pc + 1) lv st ws2) : gG p l e R s m args below meth c nL D A k n Q pc lv (.int x :: .int i :: .ref a :: st) ws := by
  subst hw
  exact fun H locs ls hP hD hS hl => va_zast C.1 C.2.1 C.2.2.2.2.2.1 hP hD hS q0 t0 ha ht (okI_in hin) d (fun H1 locs1 hP1 hD1 hS1 => kk H1 locs1 ls hP1 hD1 hS1 hl)
theorem g_last (C : gC p s m args meth c cc nL own D tys A rt) (d : decode cc pc = .ok (.lastore, 1)) (q0 t0 : Nat) {a : Nat} {cA : ClassId} {N : Nat} {f : Nat → Int64} {ws2 : va_W} (ha : ws[q0]? = some (a, .inl (cA, N, .inr (.inl f)))) (ht : tys[t0]? = some (cA, .long)) {i : Int32} {x : Int64} (hin : okI i N = true) (hw : ws.set q0 (a, .inl (cA, N, .inr (.inl (vp_updL f i.toNatClampNeg x)))) = ws2) (kk : gG p l e R s m args below meth c nL D A k n Q (pc + 1) lv st ws2) : gG p l e R s m args below meth c nL D A k n Q pc lv (.long x :: .int i :: .ref a :: st) ws := by
  subst hw
  exact fun H locs ls hP hD hS hl => va_last C.1 C.2.1 C.2.2.2.2.2.1 hP hD hS q0 t0 ha ht (okI_in hin) d (fun H1 locs1 hP1 hD1 hS1 => kk H1 locs1 ls hP1 hD1 hS1 hl)
theorem g_alen (C : gC p s m args meth c cc nL own D tys A rt) (d : decode cc pc = .ok (.arraylength, 1)) (q0 t0 : Nat) {a : Nat} {cA : ClassId} {x : vp_A} (ha : ws[q0]? = some (a, .inl (cA, x))) {ty : FieldType} (ht : tys[t0]? = some (cA, ty)) {v : Int32} (hv : Int32.ofNat x.1 = v) (kk : gG p l e R s m args below meth c nL D A k n Q (pc + 1) lv (.int v :: st) ws) : gG p l e R s m args below meth c nL D A k n Q pc lv (.ref a :: st) ws := fun H locs ls hP hD hS hl => va_alen C.1 C.2.1 C.2.2.2.2.2.1 hP q0 t0 ha ht hv d (kk H locs ls hP hD hS hl)
theorem g_mmax (C : gC p s m args meth c cc nL own D tys A rt) {idx : Nat} (d : decode cc pc = .ok (.invokestatic idx, 3)) (h1 : Cond.methodLink own idx Lib.Math.max.name ∈ gT) (h2 : Cond.static Lib.Math.max.name ∈ gT) (h3 : Cond.initialized "java/lang/Math" ∈ gT) (h4 : Cond.code Lib.Math.max.name Lib.Math.max.code 2 (some .int) ∈ gT) (hfr : 1 ≤ R.frames) (hlo : (st.map fun v => v.category).sum + 13 ≤ R.locals) (hc : k ≤ R.cells) (hs : n ≤ R.slots) {x y : Int32} (kk : gG p l e R s m args below meth c nL D A k n Q (pc + 3) lv (.int (if x < y then y else x) :: st) ws) : gG p l e R s m args below meth c nL D A k n Q pc lv (.int y :: .int x :: st) ws := fun H locs ls hP hD hS hl => va_mmax C.1 C.2.1 (C.2.2.1.trans hl.1.symm) C.2.2.2.1 (C.2.2.2.2.1 _ h1) (C.2.2.2.2.1 _ h2) (C.2.2.2.2.1 _ h3) (C.2.2.2.2.1 _ h4) hfr hlo hc hs d (kk H locs ls hP hD hS hl)
theorem g_iret (C : gC p s m args meth c cc nL own D tys A (some .int)) {v r : Int32} {w1 : va_W} (d : decode cc pc = .ok (.ireturn, 1)) (hv : v = r) (hw : ws = w1) (hQ : Q = MQ below (gQi D tys A r w1) args s k n A) : gG p l e R s m args below meth c nL D A k n Q pc lv [.int v] ws := by
  subst hw
  subst hQ
  exact fun H locs ls hP hD hS hl => W.iret C.1 C.2.1 C.2.2.2.2.2.2.2.2.1 (fun t ht hW => ⟨⟨v, (), rfl, hv, by rw [ht]; exact hP, va_K.moved hW.alike C.2.2.2.2.2.1, hD⟩, hS.F ht⟩) hS.2.2 d C.2.2.2.2.2.2.2.1
theorem g_zret {tz : FieldType} (C : gC p s m args meth c cc nL own D tys A (some tz)) {v r : Int32} {w1 : va_W} (d : decode cc pc = .ok (.ireturn, 1)) (hn : narrow tz (.int v) = .int v) (hv : v = r) (hw : ws = w1) (hQ : Q = MQ below (gQi D tys A r w1) args s k n A) : gG p l e R s m args below meth c nL D A k n Q pc lv [.int v] ws := by
  subst hw
  subst hQ
  exact fun H locs ls hP hD hS hl => W.zret C.1 C.2.1 C.2.2.2.2.2.2.2.2.1 hn (fun t ht hW => ⟨⟨v, (), rfl, hv, by rw [ht]; exact hP, va_K.moved hW.alike C.2.2.2.2.2.1, hD⟩, hS.F ht⟩) hS.2.2 d C.2.2.2.2.2.2.2.1
theorem g_lret (C : gC p s m args meth c cc nL own D tys A (some .long)) {v r : Int64} {w1 : va_W} (d : decode cc pc = .ok (.lreturn, 1)) (hv : v = r) (hw : ws = w1) (hQ : Q = MQ below (gQl D tys A r w1) args s k n A) : gG p l e R s m args below meth c nL D A k n Q pc lv [.long v] ws := by
  subst hw
  subst hQ
  exact fun H locs ls hP hD hS hl => W.lret C.1 C.2.1 C.2.2.2.2.2.2.2.2.1 (fun t ht hW => ⟨⟨v, (), rfl, hv, by rw [ht]; exact hP, va_K.moved hW.alike C.2.2.2.2.2.1, hD⟩, hS.F ht⟩) hS.2.2 d C.2.2.2.2.2.2.2.1
theorem g_vret (C : gC p s m args meth c cc nL own D tys A none) {w1 : va_W} (d : decode cc pc = .ok (.return_, 1)) (hw : ws = w1) (hQ : Q = MQ below (gQv D tys A w1) args s k n A) : gG p l e R s m args below meth c nL D A k n Q pc lv [] ws := by
  subst hw
  subst hQ
  exact fun H locs ls hP hD hS hl => W.vret C.1 C.2.1 C.2.2.2.2.2.2.2.2.1 (fun t ht hW => ⟨⟨(), rfl, trivial, by rw [ht]; exact hP, va_K.moved hW.alike C.2.2.2.2.2.1, hD⟩, hS.F ht⟩) hS.2.2 d C.2.2.2.2.2.2.2.1
theorem g_aret {rn : String} (C : gC p s m args meth c cc nL own D tys A (some (.object rn))) {v r : Nat} {w1 : va_W} (d : decode cc pc = .ok (.areturn, 1)) (hv : v = r) (hw : ws = w1) (hQ : Q = MQ below (gQr D tys A r w1) args s k n A) : gG p l e R s m args below meth c nL D A k n Q pc lv [.ref v] ws := by
  subst hw
  subst hQ
  exact fun H locs ls hP hD hS hl => W.aret C.1 C.2.1 C.2.2.2.2.2.2.2.2.1 (Or.inl ⟨_, rfl⟩) (Or.inr ⟨_, rfl⟩) (fun t ht hW => ⟨⟨(), v, rfl, trivial, hv, by rw [ht]; exact hP, va_K.moved hW.alike C.2.2.2.2.2.1, hD⟩, hS.F ht⟩) hS.2.2 d C.2.2.2.2.2.2.2.1
end GLib
end
section
theorem g_fm {α β : Type} {f : α → Option β} : ∀ {is : List α} {w : List β}, is.map f = w.map some → is.filterMap f = w
  | [], [], _ => rfl
  | [], _ :: _, h => by cases h
  | _ :: _, [], h => by cases h
  | i :: is, b :: w, h => by
    rw [List.map_cons, List.map_cons] at h
    obtain ⟨h1, h2⟩ := List.cons.inj h
    rw [List.filterMap_cons, h1, g_fm h2]
/-- the callee's cells wc lie in ws; behind it they are w1, and the caller's world ws2 -/
def gCut (ws wc w1 ws2 : va_W) : Prop := (∀ (D : va_G) (H : Heap), va_P D vwCl ws H → va_P D vwCl wc H) ∧ (∀ A : Nat → Prop, va_D A ws → va_D A wc) ∧
  ∀ (D : va_G) (A : Nat → Prop) (H H1 : Heap), va_P D vwCl ws H → va_D A ws → (∀ q : Nat, q < H.size → ¬ va_A wc H.size q → H1[q]? = H[q]?) → (∀ q, va_A wc H.size q → A q) → va_P D vwCl w1 H1 → va_D (va_A wc H.size) w1 → va_P D vwCl ws2 H1 ∧ va_D A ws2
theorem gCut_all {ws w1 : va_W} : gCut ws ws w1 w1 := ⟨fun _ _ h => h, fun _ h => h, fun _ _ _ _ _ _ _ hF hP hD => ⟨hP, hD.weaken (fun _ q _ h => hF q.1 h)⟩⟩
theorem gCut_nil {ws : va_W} : gCut ws [] [] ws := ⟨fun _ _ _ k q h => by simp at h, fun _ _ => ⟨fun i j p q h => by simp at h, fun k q h => by simp at h⟩, fun D A H H1 hP hD hk _ _ _ => ⟨hP.kept (fun k q h => hk q.1 (hP k q h).lt (fun ha => by
  rcases ha with ⟨k2, e, h2⟩ | h2
  · simp at h2
  · exact absurd (hP k q h).lt (Nat.not_lt.mpr h2))), hD⟩⟩
theorem gCut_at {ws wc w1 ws2 : va_W} (isC isR is2 : List Nat) (hC : isC.map (fun i => ws[i]?) = wc.map some) (hR : isR.map (fun i => ws[i]?) = (isR.filterMap (fun i => ws[i]?)).map some) (hnC : va_nd isC = true) (hn : va_nd isR = true) (hdis : ∀ i ∈ isR, i ∉ isC) (hn2 : va_nd is2 = true) (h2 : is2.map (fun i => (isR.filterMap (fun i => ws[i]?) ++ w1)[i]?) = ws2.map some) : gCut ws wc w1 ws2 := by
  refine ⟨fun _ _ h => h.sub isC (g_fm hC), fun _ h => h.sub isC hnC hC, fun D A H H1 hP hD hk hF hP1 hD1 => ?_⟩
  obtain ⟨a, b⟩ := va_join hP hD isC isR hC hR hn hdis hk hF hP1 hD1
  exact ⟨a.sub is2 (g_fm h2), b.sub is2 hn2 h2⟩
theorem gPre_blind {D : va_G} {tys : List (ClassId × FieldType)} {av : List Value} {w0 : va_W} {sz : Nat} : FrameBlind (gPre D tys av w0 sz) := fun a U g mk q => by
  obtain ⟨q0, q1, qP, qK, qD, aK, aV, k1, k2, k3⟩ := q
  exact ⟨q0, q1, qP, va_K.moved (u := U) (U := U.calling g mk a) (Vm.Alike.refl U.vm) qK, qD, aK, aV, k1.same (u := U) rfl, k2.moved (u := U) (Vm.Alike.refl U.vm), k3.moved (u := U) (Vm.Alike.refl U.vm)⟩
section GCall
variable {p : Program} {l : Launch} {e : Env} {R : Room} {s : State} {m : MethodId} {args : Array Value} {below : List Frame} {meth : Method} {c : Code} {cc : ByteArray} {nL : Nat} {own : String} {D : va_G} {tys : List (ClassId × FieldType)} {A : Nat → Prop} {rt : Option FieldType} {k n : Nat} {Q : State → Prop} {pc : Nat} {lv : List (Nat × Value)} {st stk : List Value} {ws wc w1 ws2 : va_W} {y : MethodName} {cb : ByteArray} {mL nA idx : Nat} {rt2 : Option FieldType} {rm : Room} {b : Nat} {As : List Value}
theorem g_free (C : gC p s m args meth c cc nL own D tys A rt) (K : gCut ws wc w1 ws2) {H : Heap} {locs : List Loc} (hD : va_D A ws) (hS : va_S A s.heap H locs) : ∀ q, va_A wc H.size q → A q := by
  intro q h
  rcases h with ⟨k, e, h⟩ | h
  · exact (K.2.1 A hD).2 k (q, e) h
  · exact C.2.2.2.2.2.2.1 q (Nat.le_trans hS.1 h)

theorem g_callVi (C : gC p s m args meth c cc nL own D tys A rt) (Y : gYv y cb mL rt2 nA) (hlk : Cond.methodLink own idx y ∈ gT) (d : decode cc pc = .ok (.invokevirtual idx, 3)) {r : Int32} (hM : gMi l y cb mL rt2 rm D tys (.ref b :: As) wc r w1) (K : gCut ws wc w1 ws2) (hR : rm.frames + 1 ≤ R.frames ∧ 8 + (mL + 11) + rm.locals ≤ R.locals) (hrm : rm.cells = 0 ∧ rm.slots = 0) (hkn : k ≤ R.cells ∧ n ≤ R.slots) (hAn : As.length = nA) (hst : stk = As.reverse ++ .ref b :: st) (hrest : (st.map fun v => v.category).sum ≤ 8) (ci q0 : Nat) {vq : vw_C} {fs : List Value} (hci : vwCl[ci]? = some vq) (hcy : vq.1 = y.cls) (hq0 : ws[q0]? = some (b, .inr (ci, fs))) (kk : gG p l e R s m args below meth c nL D A k n Q (pc + 3) lv (.int r :: st) ws2) : gG p l e R s m args below meth c nL D A k n Q pc lv stk ws := by
  intro H locs ls hP hD hS hl
  have hF := g_free C K hD hS
  obtain ⟨⟨y1, y2, y3, y4, y5⟩, y6, y7⟩ := Y
  have hG : GoodIn gT (wsV own idx y.cls y (Cond.code y cb mL rt2 :: gT)) := gT_gi (fun w h => by
    rcases List.mem_append.mp h with h | h
    · simp only [List.mem_cons, List.not_mem_nil, or_false] at h
      rcases h with rfl | rfl | rfl | rfl
      · exact hlk
      · exact y6
      · exact y7
      · exact y1
    · rcases List.mem_cons.mp h with rfl | h
      · exact y2
      · exact h)
  refine va_calli (va_runV (C := y.cls) (As := As) (rest := st) ⟨C.1, C.2.1, C.2.2.1, C.2.2.2.1, C.2.2.2.2.1⟩ (hM H.size) (cwV nA C.2.2.2.2.1 hG rfl hrm.1 hrm.2 ⟨rfl, y3, y4, y5⟩ hR) ⟨gPre_blind, by rw [← hcy]; exact va_recv C.2.2.2.2.2.1 hP hci hq0, fun U hU hW => ⟨rfl, by rw [hU], by rw [hU]; exact K.1 D H hP, va_K.moved hW.alike C.2.2.2.2.2.1, (K.2.1 A hD).weaken (fun _ _ _ _ => trivial), C.2.2.2.2.2.2.2.2.2.step hW hS hU hF⟩⟩ rfl hAn hl.1 hst (lv_room hrest) d hkn) hS (fun q _ h => hF q h) hF (fun r1 u t H1 locs1 ht hvm hw hB hz1 hk1 hS1 => ?_)
  obtain ⟨hP1, hK1, hD1⟩ := hB
  subst hw
  rw [ht] at hP1
  obtain ⟨hP2, hD2⟩ := K.2.2 D A H H1 hP hD hk1 hF hP1 hD1
  exact kk H1 locs1 ls hP2 hD2 hS1 hl
theorem g_callSi (C : gC p s m args meth c cc nL own D tys A rt) (Y : gYs y cb mL rt2 nA) (hlk : Cond.methodLink own idx y ∈ gT) (d : decode cc pc = .ok (.invokestatic idx, 3)) {r : Int32} (hM : gMi l y cb mL rt2 rm D tys As wc r w1) (K : gCut ws wc w1 ws2) (hR : rm.frames + 1 ≤ R.frames ∧ 8 + (mL + 11) + rm.locals ≤ R.locals) (hrm : rm.cells = 0 ∧ rm.slots = 0) (hkn : k ≤ R.cells ∧ n ≤ R.slots) (hAn : As.length = nA) (hst : stk = As.reverse ++ st) (hrest : (st.map fun v => v.category).sum ≤ 8) (kk : gG p l e R s m args below meth c nL D A k n Q (pc + 3) lv (.int r :: st) ws2) : gG p l e R s m args below meth c nL D A k n Q pc lv stk ws := by
  intro H locs ls hP hD hS hl
  have hF := g_free C K hD hS
  obtain ⟨⟨y1, y2, y3, y4, y5⟩, y6⟩ := Y
  have hG : GoodIn gT (va_wsS own idx y (Cond.code y cb mL rt2 :: gT)) := gT_gi (fun w h => by
    rcases List.mem_append.mp h with h | h
    · simp only [List.mem_cons, List.not_mem_nil, or_false] at h
      rcases h with rfl | rfl | rfl
      · exact hlk
      · exact y6
      · exact y1
    · rcases List.mem_cons.mp h with rfl | h
      · exact y2
      · exact h)
  refine va_calli (va_runS (As := As) (rest := st) ⟨C.1, C.2.1, C.2.2.1, C.2.2.2.1, C.2.2.2.2.1⟩ (hM H.size) (va_cwS nA C.2.2.2.2.1 hG rfl hrm.1 hrm.2 ⟨y3, y4, y5⟩ hR) ⟨gPre_blind, fun U hU hW => ⟨rfl, by rw [hU], by rw [hU]; exact K.1 D H hP, va_K.moved hW.alike C.2.2.2.2.2.1, (K.2.1 A hD).weaken (fun _ _ _ _ => trivial), C.2.2.2.2.2.2.2.2.2.step hW hS hU hF⟩⟩ rfl hAn hl.1 hst (lv_room hrest) d hkn) hS (fun q _ h => hF q h) hF (fun r1 u t H1 locs1 ht hvm hw hB hz1 hk1 hS1 => ?_)
  obtain ⟨hP1, hK1, hD1⟩ := hB
  subst hw
  rw [ht] at hP1
  obtain ⟨hP2, hD2⟩ := K.2.2 D A H H1 hP hD hk1 hF hP1 hD1
  exact kk H1 locs1 ls hP2 hD2 hS1 hl
theorem g_callVl (C : gC p s m args meth c cc nL own D tys A rt) (Y : gYv y cb mL rt2 nA) (hlk : Cond.methodLink own idx y ∈ gT) (d : decode cc pc = .ok (.invokevirtual idx, 3)) {r : Int64} (hM : gMl l y cb mL rt2 rm D tys (.ref b :: As) wc r w1) (K : gCut ws wc w1 ws2) (hR : rm.frames + 1 ≤ R.frames ∧ 8 + (mL + 11) + rm.locals ≤ R.locals) (hrm : rm.cells = 0 ∧ rm.slots = 0) (hkn : k ≤ R.cells ∧ n ≤ R.slots) (hAn : As.length = nA) (hst : stk = As.reverse ++ .ref b :: st) (hrest : (st.map fun v => v.category).sum ≤ 8) (ci q0 : Nat) {vq : vw_C} {fs : List Value} (hci : vwCl[ci]? = some vq) (hcy : vq.1 = y.cls) (hq0 : ws[q0]? = some (b, .inr (ci, fs))) (kk : gG p l e R s m args below meth c nL D A k n Q (pc + 3) lv (.long r :: st) ws2) : gG p l e R s m args below meth c nL D A k n Q pc lv stk ws := by
  intro H locs ls hP hD hS hl
  have hF := g_free C K hD hS
  obtain ⟨⟨y1, y2, y3, y4, y5⟩, y6, y7⟩ := Y
  have hG : GoodIn gT (wsV own idx y.cls y (Cond.code y cb mL rt2 :: gT)) := gT_gi (fun w h => by
    rcases List.mem_append.mp h with h | h
    · simp only [List.mem_cons, List.not_mem_nil, or_false] at h
      rcases h with rfl | rfl | rfl | rfl
      · exact hlk
      · exact y6
      · exact y7
      · exact y1
    · rcases List.mem_cons.mp h with rfl | h
      · exact y2
      · exact h)
  refine va_calll (va_runV (C := y.cls) (As := As) (rest := st) ⟨C.1, C.2.1, C.2.2.1, C.2.2.2.1, C.2.2.2.2.1⟩ (hM H.size) (cwV nA C.2.2.2.2.1 hG rfl hrm.1 hrm.2 ⟨rfl, y3, y4, y5⟩ hR) ⟨gPre_blind, by rw [← hcy]; exact va_recv C.2.2.2.2.2.1 hP hci hq0, fun U hU hW => ⟨rfl, by rw [hU], by rw [hU]; exact K.1 D H hP, va_K.moved hW.alike C.2.2.2.2.2.1, (K.2.1 A hD).weaken (fun _ _ _ _ => trivial), C.2.2.2.2.2.2.2.2.2.step hW hS hU hF⟩⟩ rfl hAn hl.1 hst (lv_room hrest) d hkn) hS (fun q _ h => hF q h) hF (fun r1 u t H1 locs1 ht hvm hw hB hz1 hk1 hS1 => ?_)
  obtain ⟨hP1, hK1, hD1⟩ := hB
  subst hw
  rw [ht] at hP1
  obtain ⟨hP2, hD2⟩ := K.2.2 D A H H1 hP hD hk1 hF hP1 hD1
  exact kk H1 locs1 ls hP2 hD2 hS1 hl
theorem g_callSl (C : gC p s m args meth c cc nL own D tys A rt) (Y : gYs y cb mL rt2 nA) (hlk : Cond.methodLink own idx y ∈ gT) (d : decode cc pc = .ok (.invokestatic idx, 3)) {r : Int64} (hM : gMl l y cb mL rt2 rm D tys As wc r w1) (K : gCut ws wc w1 ws2) (hR : rm.frames + 1 ≤ R.frames ∧ 8 + (mL + 11) + rm.locals ≤ R.locals) (hrm : rm.cells = 0 ∧ rm.slots = 0) (hkn : k ≤ R.cells ∧ n ≤ R.slots) (hAn : As.length = nA) (hst : stk = As.reverse ++ st) (hrest : (st.map fun v => v.category).sum ≤ 8) (kk : gG p l e R s m args below meth c nL D A k n Q (pc + 3) lv (.long r :: st) ws2) : gG p l e R s m args below meth c nL D A k n Q pc lv stk ws := by
  intro H locs ls hP hD hS hl
  have hF := g_free C K hD hS
  obtain ⟨⟨y1, y2, y3, y4, y5⟩, y6⟩ := Y
  have hG : GoodIn gT (va_wsS own idx y (Cond.code y cb mL rt2 :: gT)) := gT_gi (fun w h => by
    rcases List.mem_append.mp h with h | h
    · simp only [List.mem_cons, List.not_mem_nil, or_false] at h
      rcases h with rfl | rfl | rfl
      · exact hlk
      · exact y6
      · exact y1
    · rcases List.mem_cons.mp h with rfl | h
      · exact y2
      · exact h)
  refine va_calll (va_runS (As := As) (rest := st) ⟨C.1, C.2.1, C.2.2.1, C.2.2.2.1, C.2.2.2.2.1⟩ (hM H.size) (va_cwS nA C.2.2.2.2.1 hG rfl hrm.1 hrm.2 ⟨y3, y4, y5⟩ hR) ⟨gPre_blind, fun U hU hW => ⟨rfl, by rw [hU], by rw [hU]; exact K.1 D H hP, va_K.moved hW.alike C.2.2.2.2.2.1, (K.2.1 A hD).weaken (fun _ _ _ _ => trivial), C.2.2.2.2.2.2.2.2.2.step hW hS hU hF⟩⟩ rfl hAn hl.1 hst (lv_room hrest) d hkn) hS (fun q _ h => hF q h) hF (fun r1 u t H1 locs1 ht hvm hw hB hz1 hk1 hS1 => ?_)
  obtain ⟨hP1, hK1, hD1⟩ := hB
  subst hw
  rw [ht] at hP1
  obtain ⟨hP2, hD2⟩ := K.2.2 D A H H1 hP hD hk1 hF hP1 hD1
  exact kk H1 locs1 ls hP2 hD2 hS1 hl
theorem g_callVv (C : gC p s m args meth c cc nL own D tys A rt) (Y : gYv y cb mL rt2 nA) (hlk : Cond.methodLink own idx y ∈ gT) (d : decode cc pc = .ok (.invokevirtual idx, 3)) (hM : gMv l y cb mL rt2 rm D tys (.ref b :: As) wc w1) (K : gCut ws wc w1 ws2) (hR : rm.frames + 1 ≤ R.frames ∧ 8 + (mL + 11) + rm.locals ≤ R.locals) (hrm : rm.cells = 0 ∧ rm.slots = 0) (hkn : k ≤ R.cells ∧ n ≤ R.slots) (hAn : As.length = nA) (hst : stk = As.reverse ++ .ref b :: st) (hrest : (st.map fun v => v.category).sum ≤ 8) (ci q0 : Nat) {vq : vw_C} {fs : List Value} (hci : vwCl[ci]? = some vq) (hcy : vq.1 = y.cls) (hq0 : ws[q0]? = some (b, .inr (ci, fs))) (kk : gG p l e R s m args below meth c nL D A k n Q (pc + 3) lv st ws2) : gG p l e R s m args below meth c nL D A k n Q pc lv stk ws := by
  intro H locs ls hP hD hS hl
  have hF := g_free C K hD hS
  obtain ⟨⟨y1, y2, y3, y4, y5⟩, y6, y7⟩ := Y
  have hG : GoodIn gT (wsV own idx y.cls y (Cond.code y cb mL rt2 :: gT)) := gT_gi (fun w h => by
    rcases List.mem_append.mp h with h | h
    · simp only [List.mem_cons, List.not_mem_nil, or_false] at h
      rcases h with rfl | rfl | rfl | rfl
      · exact hlk
      · exact y6
      · exact y7
      · exact y1
    · rcases List.mem_cons.mp h with rfl | h
      · exact y2
      · exact h)
  refine va_callv (va_runV (C := y.cls) (As := As) (rest := st) ⟨C.1, C.2.1, C.2.2.1, C.2.2.2.1, C.2.2.2.2.1⟩ (hM H.size) (cwV nA C.2.2.2.2.1 hG rfl hrm.1 hrm.2 ⟨rfl, y3, y4, y5⟩ hR) ⟨gPre_blind, by rw [← hcy]; exact va_recv C.2.2.2.2.2.1 hP hci hq0, fun U hU hW => ⟨rfl, by rw [hU], by rw [hU]; exact K.1 D H hP, va_K.moved hW.alike C.2.2.2.2.2.1, (K.2.1 A hD).weaken (fun _ _ _ _ => trivial), C.2.2.2.2.2.2.2.2.2.step hW hS hU hF⟩⟩ rfl hAn hl.1 hst (lv_room hrest) d hkn) hS (fun q _ h => hF q h) hF (fun u t H1 locs1 ht hvm hw hB hz1 hk1 hS1 => ?_)
  obtain ⟨hP1, hK1, hD1⟩ := hB
  rw [ht] at hP1
  obtain ⟨hP2, hD2⟩ := K.2.2 D A H H1 hP hD hk1 hF hP1 hD1
  exact kk H1 locs1 ls hP2 hD2 hS1 hl
theorem g_callSv (C : gC p s m args meth c cc nL own D tys A rt) (Y : gYs y cb mL rt2 nA) (hlk : Cond.methodLink own idx y ∈ gT) (d : decode cc pc = .ok (.invokestatic idx, 3)) (hM : gMv l y cb mL rt2 rm D tys As wc w1) (K : gCut ws wc w1 ws2) (hR : rm.frames + 1 ≤ R.frames ∧ 8 + (mL + 11) + rm.locals ≤ R.locals) (hrm : rm.cells = 0 ∧ rm.slots = 0) (hkn : k ≤ R.cells ∧ n ≤ R.slots) (hAn : As.length = nA) (hst : stk = As.reverse ++ st) (hrest : (st.map fun v => v.category).sum ≤ 8) (kk : gG p l e R s m args below meth c nL D A k n Q (pc + 3) lv st ws2) : gG p l e R s m args below meth c nL D A k n Q pc lv stk ws := by
  intro H locs ls hP hD hS hl
  have hF := g_free C K hD hS
  obtain ⟨⟨y1, y2, y3, y4, y5⟩, y6⟩ := Y
  have hG : GoodIn gT (va_wsS own idx y (Cond.code y cb mL rt2 :: gT)) := gT_gi (fun w h => by
    rcases List.mem_append.mp h with h | h
    · simp only [List.mem_cons, List.not_mem_nil, or_false] at h
      rcases h with rfl | rfl | rfl
      · exact hlk
      · exact y6
      · exact y1
    · rcases List.mem_cons.mp h with rfl | h
      · exact y2
      · exact h)
  refine va_callv (va_runS (As := As) (rest := st) ⟨C.1, C.2.1, C.2.2.1, C.2.2.2.1, C.2.2.2.2.1⟩ (hM H.size) (va_cwS nA C.2.2.2.2.1 hG rfl hrm.1 hrm.2 ⟨y3, y4, y5⟩ hR) ⟨gPre_blind, fun U hU hW => ⟨rfl, by rw [hU], by rw [hU]; exact K.1 D H hP, va_K.moved hW.alike C.2.2.2.2.2.1, (K.2.1 A hD).weaken (fun _ _ _ _ => trivial), C.2.2.2.2.2.2.2.2.2.step hW hS hU hF⟩⟩ rfl hAn hl.1 hst (lv_room hrest) d hkn) hS (fun q _ h => hF q h) hF (fun u t H1 locs1 ht hvm hw hB hz1 hk1 hS1 => ?_)
  obtain ⟨hP1, hK1, hD1⟩ := hB
  rw [ht] at hP1
  obtain ⟨hP2, hD2⟩ := K.2.2 D A H H1 hP hD hk1 hF hP1 hD1
  exact kk H1 locs1 ls hP2 hD2 hS1 hl
theorem g_callVr (C : gC p s m args meth c cc nL own D tys A rt) (Y : gYv y cb mL rt2 nA) (hlk : Cond.methodLink own idx y ∈ gT) (d : decode cc pc = .ok (.invokevirtual idx, 3)) {r : Nat} (hM : gMr l y cb mL rt2 rm D tys (.ref b :: As) wc r w1) (K : gCut ws wc w1 ws2) (hR : rm.frames + 1 ≤ R.frames ∧ 8 + (mL + 11) + rm.locals ≤ R.locals) (hrm : rm.cells = 0 ∧ rm.slots = 0) (hkn : k ≤ R.cells ∧ n ≤ R.slots) (hAn : As.length = nA) (hst : stk = As.reverse ++ .ref b :: st) (hrest : (st.map fun v => v.category).sum ≤ 8) (ci q0 : Nat) {vq : vw_C} {fs : List Value} (hci : vwCl[ci]? = some vq) (hcy : vq.1 = y.cls) (hq0 : ws[q0]? = some (b, .inr (ci, fs))) (kk : gG p l e R s m args below meth c nL D A k n Q (pc + 3) lv (.ref r :: st) ws2) : gG p l e R s m args below meth c nL D A k n Q pc lv stk ws := by
  intro H locs ls hP hD hS hl
  have hF := g_free C K hD hS
  obtain ⟨⟨y1, y2, y3, y4, y5⟩, y6, y7⟩ := Y
  have hG : GoodIn gT (wsV own idx y.cls y (Cond.code y cb mL rt2 :: gT)) := gT_gi (fun w h => by
    rcases List.mem_append.mp h with h | h
    · simp only [List.mem_cons, List.not_mem_nil, or_false] at h
      rcases h with rfl | rfl | rfl | rfl
      · exact hlk
      · exact y6
      · exact y7
      · exact y1
    · rcases List.mem_cons.mp h with rfl | h
      · exact y2
      · exact h)
  refine va_callr (va_runV (C := y.cls) (As := As) (rest := st) ⟨C.1, C.2.1, C.2.2.1, C.2.2.2.1, C.2.2.2.2.1⟩ (hM H.size) (cwV nA C.2.2.2.2.1 hG rfl hrm.1 hrm.2 ⟨rfl, y3, y4, y5⟩ hR) ⟨gPre_blind, by rw [← hcy]; exact va_recv C.2.2.2.2.2.1 hP hci hq0, fun U hU hW => ⟨rfl, by rw [hU], by rw [hU]; exact K.1 D H hP, va_K.moved hW.alike C.2.2.2.2.2.1, (K.2.1 A hD).weaken (fun _ _ _ _ => trivial), C.2.2.2.2.2.2.2.2.2.step hW hS hU hF⟩⟩ rfl hAn hl.1 hst (lv_room hrest) d hkn) hS (fun q _ h => hF q h) hF (fun u r1 t H1 locs1 ht hvm hw hB hz1 hk1 hS1 => ?_)
  obtain ⟨hr1, hP1, hK1, hD1⟩ := hB
  subst hr1
  rw [ht] at hP1
  obtain ⟨hP2, hD2⟩ := K.2.2 D A H H1 hP hD hk1 hF hP1 hD1
  exact kk H1 locs1 ls hP2 hD2 hS1 hl
theorem g_callSr (C : gC p s m args meth c cc nL own D tys A rt) (Y : gYs y cb mL rt2 nA) (hlk : Cond.methodLink own idx y ∈ gT) (d : decode cc pc = .ok (.invokestatic idx, 3)) {r : Nat} (hM : gMr l y cb mL rt2 rm D tys As wc r w1) (K : gCut ws wc w1 ws2) (hR : rm.frames + 1 ≤ R.frames ∧ 8 + (mL + 11) + rm.locals ≤ R.locals) (hrm : rm.cells = 0 ∧ rm.slots = 0) (hkn : k ≤ R.cells ∧ n ≤ R.slots) (hAn : As.length = nA) (hst : stk = As.reverse ++ st) (hrest : (st.map fun v => v.category).sum ≤ 8) (kk : gG p l e R s m args below meth c nL D A k n Q (pc + 3) lv (.ref r :: st) ws2) : gG p l e R s m args below meth c nL D A k n Q pc lv stk ws := by
  intro H locs ls hP hD hS hl
  have hF := g_free C K hD hS
  obtain ⟨⟨y1, y2, y3, y4, y5⟩, y6⟩ := Y
  have hG : GoodIn gT (va_wsS own idx y (Cond.code y cb mL rt2 :: gT)) := gT_gi (fun w h => by
    rcases List.mem_append.mp h with h | h
    · simp only [List.mem_cons, List.not_mem_nil, or_false] at h
      rcases h with rfl | rfl | rfl
      · exact hlk
      · exact y6
      · exact y1
    · rcases List.mem_cons.mp h with rfl | h
      · exact y2
      · exact h)
  refine va_callr (va_runS (As := As) (rest := st) ⟨C.1, C.2.1, C.2.2.1, C.2.2.2.1, C.2.2.2.2.1⟩ (hM H.size) (va_cwS nA C.2.2.2.2.1 hG rfl hrm.1 hrm.2 ⟨y3, y4, y5⟩ hR) ⟨gPre_blind, fun U hU hW => ⟨rfl, by rw [hU], by rw [hU]; exact K.1 D H hP, va_K.moved hW.alike C.2.2.2.2.2.1, (K.2.1 A hD).weaken (fun _ _ _ _ => trivial), C.2.2.2.2.2.2.2.2.2.step hW hS hU hF⟩⟩ rfl hAn hl.1 hst (lv_room hrest) d hkn) hS (fun q _ h => hF q h) hF (fun u r1 t H1 locs1 ht hvm hw hB hz1 hk1 hS1 => ?_)
  obtain ⟨hr1, hP1, hK1, hD1⟩ := hB
  subst hr1
  rw [ht] at hP1
  obtain ⟨hP2, hD2⟩ := K.2.2 D A H H1 hP hD hk1 hF hP1 hD1
  exact kk H1 locs1 ls hP2 hD2 hS1 hl
end GCall
theorem gMi_of {l : Launch} {y : MethodName} {cb : ByteArray} {mL : Nat} {rt : Option FieldType} {rm : Room} {D : va_G} {tys : List (ClassId × FieldType)} {av : List Value} {w0 : va_W} {r : Int32} {w1 : va_W} {lv0 : List (Nat × Value)} (hy : plainName y.cls = true) (hlen : (lg_sl av).length ≤ mL) (hlv : lv_args 0 av = lv0) (body : ∀ (p : Program) (e : Env) (s : State) (m : MethodId) (args : Array Value) (below : List Frame) (meth : Method) (c : Code) (A : Nat → Prop) (Q : State → Prop), gC p s m args meth c cb mL y.cls D tys A rt → Q = MQ below (gQi D tys A r w1) args s 0 0 A → gG p l e rm s m args below meth c mL D A 0 0 Q 0 lv0 [] w0) : gMi l y cb mL rt rm D tys av w0 r w1 := by
  intro sz
  subst hlv
  refine Met.ofW (cc := cb) (maxL := mL) (ret := rt) hy rfl ?_
  intro p e s m args below meth c s₁ B hml hv
  obtain ⟨rfl, hsz, hP, hK, hD0, hX0⟩ := hv
  subst hsz
  have hts := atoms_spec (ws := Cond.code y cb mL rt :: gT) B.pre
  have hl := lv_entry av (n := mL) hlen
  rw [lg_entry_eq]
  exact body p e s m _ below meth c _ _ ⟨B.exec, B.bytes, hml, findClass_of_methodNamed B.named, fun w h => hts w (List.mem_cons_of_mem _ h), hK, fun q h => Or.inr h, B.notSynchronized, B.returns, hX0⟩ rfl s.heap [] _ hP (hD0.self (sz := s.heap.size)) va_S.rf hl
theorem gMl_of {l : Launch} {y : MethodName} {cb : ByteArray} {mL : Nat} {rt : Option FieldType} {rm : Room} {D : va_G} {tys : List (ClassId × FieldType)} {av : List Value} {w0 : va_W} {r : Int64} {w1 : va_W} {lv0 : List (Nat × Value)} (hy : plainName y.cls = true) (hlen : (lg_sl av).length ≤ mL) (hlv : lv_args 0 av = lv0) (body : ∀ (p : Program) (e : Env) (s : State) (m : MethodId) (args : Array Value) (below : List Frame) (meth : Method) (c : Code) (A : Nat → Prop) (Q : State → Prop), gC p s m args meth c cb mL y.cls D tys A rt → Q = MQ below (gQl D tys A r w1) args s 0 0 A → gG p l e rm s m args below meth c mL D A 0 0 Q 0 lv0 [] w0) : gMl l y cb mL rt rm D tys av w0 r w1 := by
  intro sz
  subst hlv
  refine Met.ofW (cc := cb) (maxL := mL) (ret := rt) hy rfl ?_
  intro p e s m args below meth c s₁ B hml hv
  obtain ⟨rfl, hsz, hP, hK, hD0, hX0⟩ := hv
  subst hsz
  have hts := atoms_spec (ws := Cond.code y cb mL rt :: gT) B.pre
  have hl := lv_entry av (n := mL) hlen
  rw [lg_entry_eq]
  exact body p e s m _ below meth c _ _ ⟨B.exec, B.bytes, hml, findClass_of_methodNamed B.named, fun w h => hts w (List.mem_cons_of_mem _ h), hK, fun q h => Or.inr h, B.notSynchronized, B.returns, hX0⟩ rfl s.heap [] _ hP (hD0.self (sz := s.heap.size)) va_S.rf hl
theorem gMv_of {l : Launch} {y : MethodName} {cb : ByteArray} {mL : Nat} {rt : Option FieldType} {rm : Room} {D : va_G} {tys : List (ClassId × FieldType)} {av : List Value} {w0 : va_W} {w1 : va_W} {lv0 : List (Nat × Value)} (hy : plainName y.cls = true) (hlen : (lg_sl av).length ≤ mL) (hlv : lv_args 0 av = lv0) (body : ∀ (p : Program) (e : Env) (s : State) (m : MethodId) (args : Array Value) (below : List Frame) (meth : Method) (c : Code) (A : Nat → Prop) (Q : State → Prop), gC p s m args meth c cb mL y.cls D tys A rt → Q = MQ below (gQv D tys A w1) args s 0 0 A → gG p l e rm s m args below meth c mL D A 0 0 Q 0 lv0 [] w0) : gMv l y cb mL rt rm D tys av w0 w1 := by
  intro sz
  subst hlv
  refine Met.ofW (cc := cb) (maxL := mL) (ret := rt) hy rfl ?_
  intro p e s m args below meth c s₁ B hml hv
  obtain ⟨rfl, hsz, hP, hK, hD0, hX0⟩ := hv
  subst hsz
  have hts := atoms_spec (ws := Cond.code y cb mL rt :: gT) B.pre
  have hl := lv_entry av (n := mL) hlen
  rw [lg_entry_eq]
  exact body p e s m _ below meth c _ _ ⟨B.exec, B.bytes, hml, findClass_of_methodNamed B.named, fun w h => hts w (List.mem_cons_of_mem _ h), hK, fun q h => Or.inr h, B.notSynchronized, B.returns, hX0⟩ rfl s.heap [] _ hP (hD0.self (sz := s.heap.size)) va_S.rf hl
theorem gMr_of {l : Launch} {y : MethodName} {cb : ByteArray} {mL : Nat} {rt : Option FieldType} {rm : Room} {D : va_G} {tys : List (ClassId × FieldType)} {av : List Value} {w0 : va_W} {r : Nat} {w1 : va_W} {lv0 : List (Nat × Value)} (hy : plainName y.cls = true) (hlen : (lg_sl av).length ≤ mL) (hlv : lv_args 0 av = lv0) (body : ∀ (p : Program) (e : Env) (s : State) (m : MethodId) (args : Array Value) (below : List Frame) (meth : Method) (c : Code) (A : Nat → Prop) (Q : State → Prop), gC p s m args meth c cb mL y.cls D tys A rt → Q = MQ below (gQr D tys A r w1) args s 0 0 A → gG p l e rm s m args below meth c mL D A 0 0 Q 0 lv0 [] w0) : gMr l y cb mL rt rm D tys av w0 r w1 := by
  intro sz
  subst hlv
  refine Met.ofW (cc := cb) (maxL := mL) (ret := rt) hy rfl ?_
  intro p e s m args below meth c s₁ B hml hv
  obtain ⟨rfl, hsz, hP, hK, hD0, hX0⟩ := hv
  subst hsz
  have hts := atoms_spec (ws := Cond.code y cb mL rt :: gT) B.pre
  have hl := lv_entry av (n := mL) hlen
  rw [lg_entry_eq]
  exact body p e s m _ below meth c _ _ ⟨B.exec, B.bytes, hml, findClass_of_methodNamed B.named, fun w h => hts w (List.mem_cons_of_mem _ h), hK, fun q h => Or.inr h, B.notSynchronized, B.returns, hX0⟩ rfl s.heap [] _ hP (hD0.self (sz := s.heap.size)) va_S.rf hl
end
section
theorem zz_end : True := trivial
end
