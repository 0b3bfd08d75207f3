section
-- ===== PART A: goes FIRST, ahead of the names: the tables' words, and 'selects' of the private methods out of them =====
/-- a private method of a class that the tables say can be made, by its rows of tables_1 -/
def lw_okq (q : MethodName × Nat) : Prop := (q.1.cls ≠ "java/lang/invoke/MethodHandle" ∧ q.1.cls ≠ "java/lang/invoke/VarHandle") ∧ Cond.instantiable q.1.cls q.2 ∈ tables_1 ∧ Cond.privateMethod q.1 ∈ tables_1 ∧ Cond.instanceMethod q.1 ∈ tables_1
theorem lw_p0 : lw_okq (⟨"YearBook", "isChild", "(I)Z"⟩, 9) := ⟨⟨by decide +kernel, by decide +kernel⟩, List.mem_of_getElem? (i := 15) (by decide +kernel), List.mem_of_getElem? (i := 155) (by decide +kernel), List.mem_of_getElem? (i := 156) (by decide +kernel)⟩
theorem lw_p1 : lw_okq (⟨"YearBook", "pictureAt", "(I)LYearBook$Picture;"⟩, 9) := ⟨⟨by decide +kernel, by decide +kernel⟩, List.mem_of_getElem? (i := 15) (by decide +kernel), List.mem_of_getElem? (i := 159) (by decide +kernel), List.mem_of_getElem? (i := 160) (by decide +kernel)⟩
theorem lw_p2 : lw_okq (⟨"YearBook$Picture", "frame", "()V"⟩, 11) := ⟨⟨by decide +kernel, by decide +kernel⟩, List.mem_of_getElem? (i := 169) (by decide +kernel), List.mem_of_getElem? (i := 167) (by decide +kernel), List.mem_of_getElem? (i := 168) (by decide +kernel)⟩
theorem lw_p3 : lw_okq (⟨"YearBook$Picture", "anotherTouchesCut", "()Z"⟩, 11) := ⟨⟨by decide +kernel, by decide +kernel⟩, List.mem_of_getElem? (i := 169) (by decide +kernel), List.mem_of_getElem? (i := 178) (by decide +kernel), List.mem_of_getElem? (i := 179) (by decide +kernel)⟩
theorem lw_p4 : lw_okq (⟨"YearBook", "worthOfChoice", "()I"⟩, 9) := ⟨⟨by decide +kernel, by decide +kernel⟩, List.mem_of_getElem? (i := 15) (by decide +kernel), List.mem_of_getElem? (i := 257) (by decide +kernel), List.mem_of_getElem? (i := 258) (by decide +kernel)⟩
theorem lw_p5 : lw_okq (⟨"YearBook", "isChosen", "(I)Z"⟩, 9) := ⟨⟨by decide +kernel, by decide +kernel⟩, List.mem_of_getElem? (i := 15) (by decide +kernel), List.mem_of_getElem? (i := 261) (by decide +kernel), List.mem_of_getElem? (i := 262) (by decide +kernel)⟩
theorem lw_p6 : lw_okq (⟨"YearBook", "worthOf", "(I)I"⟩, 9) := ⟨⟨by decide +kernel, by decide +kernel⟩, List.mem_of_getElem? (i := 15) (by decide +kernel), List.mem_of_getElem? (i := 265) (by decide +kernel), List.mem_of_getElem? (i := 266) (by decide +kernel)⟩
theorem lw_p7 : lw_okq (⟨"YearBook", "goodPictures", "()I"⟩, 9) := ⟨⟨by decide +kernel, by decide +kernel⟩, List.mem_of_getElem? (i := 15) (by decide +kernel), List.mem_of_getElem? (i := 269) (by decide +kernel), List.mem_of_getElem? (i := 270) (by decide +kernel)⟩
theorem lw_p8 : lw_okq (⟨"YearBook", "shownIn", "(I)I"⟩, 9) := ⟨⟨by decide +kernel, by decide +kernel⟩, List.mem_of_getElem? (i := 15) (by decide +kernel), List.mem_of_getElem? (i := 273) (by decide +kernel), List.mem_of_getElem? (i := 274) (by decide +kernel)⟩
theorem lw_p9 : lw_okq (⟨"YearBook", "childrenInGood", "()I"⟩, 9) := ⟨⟨by decide +kernel, by decide +kernel⟩, List.mem_of_getElem? (i := 15) (by decide +kernel), List.mem_of_getElem? (i := 277) (by decide +kernel), List.mem_of_getElem? (i := 278) (by decide +kernel)⟩
theorem lw_p10 : lw_okq (⟨"YearBook$Picture", "topRow", "(II)I"⟩, 11) := ⟨⟨by decide +kernel, by decide +kernel⟩, List.mem_of_getElem? (i := 169) (by decide +kernel), List.mem_of_getElem? (i := 289) (by decide +kernel), List.mem_of_getElem? (i := 290) (by decide +kernel)⟩
theorem lw_p11 : lw_okq (⟨"YearBook$Picture", "childInRow", "(II)I"⟩, 11) := ⟨⟨by decide +kernel, by decide +kernel⟩, List.mem_of_getElem? (i := 169) (by decide +kernel), List.mem_of_getElem? (i := 299) (by decide +kernel), List.mem_of_getElem? (i := 300) (by decide +kernel)⟩
theorem lw_p12 : lw_okq (⟨"YearBook$Picture", "leftOf", "(II)I"⟩, 11) := ⟨⟨by decide +kernel, by decide +kernel⟩, List.mem_of_getElem? (i := 169) (by decide +kernel), List.mem_of_getElem? (i := 303) (by decide +kernel), List.mem_of_getElem? (i := 304) (by decide +kernel)⟩
theorem lw_p13 : lw_okq (⟨"YearBook", "chosenShowing", "(I)I"⟩, 9) := ⟨⟨by decide +kernel, by decide +kernel⟩, List.mem_of_getElem? (i := 15) (by decide +kernel), List.mem_of_getElem? (i := 311) (by decide +kernel), List.mem_of_getElem? (i := 312) (by decide +kernel)⟩
theorem lw_p14 : lw_okq (⟨"YearBook", "decide", "(I)V"⟩, 9) := ⟨⟨by decide +kernel, by decide +kernel⟩, List.mem_of_getElem? (i := 15) (by decide +kernel), List.mem_of_getElem? (i := 327) (by decide +kernel), List.mem_of_getElem? (i := 328) (by decide +kernel)⟩
theorem lw_p15 : lw_okq (⟨"YearBook", "offerPictures", "(J)V"⟩, 9) := ⟨⟨by decide +kernel, by decide +kernel⟩, List.mem_of_getElem? (i := 15) (by decide +kernel), List.mem_of_getElem? (i := 343) (by decide +kernel), List.mem_of_getElem? (i := 344) (by decide +kernel)⟩
def lw_privs_1 : List (MethodName × Nat) := [(⟨"YearBook", "isChild", "(I)Z"⟩, 9), (⟨"YearBook", "pictureAt", "(I)LYearBook$Picture;"⟩, 9), (⟨"YearBook$Picture", "frame", "()V"⟩, 11), (⟨"YearBook$Picture", "anotherTouchesCut", "()Z"⟩, 11), (⟨"YearBook", "worthOfChoice", "()I"⟩, 9), (⟨"YearBook", "isChosen", "(I)Z"⟩, 9), (⟨"YearBook", "worthOf", "(I)I"⟩, 9), (⟨"YearBook", "goodPictures", "()I"⟩, 9), (⟨"YearBook", "shownIn", "(I)I"⟩, 9), (⟨"YearBook", "childrenInGood", "()I"⟩, 9), (⟨"YearBook$Picture", "topRow", "(II)I"⟩, 11), (⟨"YearBook$Picture", "childInRow", "(II)I"⟩, 11), (⟨"YearBook$Picture", "leftOf", "(II)I"⟩, 11), (⟨"YearBook", "chosenShowing", "(I)I"⟩, 9), (⟨"YearBook", "decide", "(I)V"⟩, 9), (⟨"YearBook", "offerPictures", "(J)V"⟩, 9)]
theorem lw_r1 : ∀ q ∈ lw_privs_1, lw_okq q := List.forall_mem_cons.mpr ⟨lw_p0, List.forall_mem_cons.mpr ⟨lw_p1, List.forall_mem_cons.mpr ⟨lw_p2, List.forall_mem_cons.mpr ⟨lw_p3, List.forall_mem_cons.mpr ⟨lw_p4, List.forall_mem_cons.mpr ⟨lw_p5, List.forall_mem_cons.mpr ⟨lw_p6, List.forall_mem_cons.mpr ⟨lw_p7, List.forall_mem_cons.mpr ⟨lw_p8, List.forall_mem_cons.mpr ⟨lw_p9, List.forall_mem_cons.mpr ⟨lw_p10, List.forall_mem_cons.mpr ⟨lw_p11, List.forall_mem_cons.mpr ⟨lw_p12, List.forall_mem_cons.mpr ⟨lw_p13, List.forall_mem_cons.mpr ⟨lw_p14, List.forall_mem_cons.mpr ⟨lw_p15, fun _ h => absurd h List.not_mem_nil⟩⟩⟩⟩⟩⟩⟩⟩⟩⟩⟩⟩⟩⟩⟩⟩
theorem lw_p16 : lw_okq (⟨"YearBook$Chooser", "searchFrom", "(IIJJ)V"⟩, 14) := ⟨⟨by decide +kernel, by decide +kernel⟩, List.mem_of_getElem? (i := 25) (by decide +kernel), List.mem_of_getElem? (i := 370) (by decide +kernel), List.mem_of_getElem? (i := 371) (by decide +kernel)⟩
theorem lw_p17 : lw_okq (⟨"YearBook$Chooser", "isLost", "(IJ)Z"⟩, 14) := ⟨⟨by decide +kernel, by decide +kernel⟩, List.mem_of_getElem? (i := 25) (by decide +kernel), List.mem_of_getElem? (i := 374) (by decide +kernel), List.mem_of_getElem? (i := 375) (by decide +kernel)⟩
theorem lw_p18 : lw_okq (⟨"YearBook$Chooser", "someAbove", "(J)Z"⟩, 14) := ⟨⟨by decide +kernel, by decide +kernel⟩, List.mem_of_getElem? (i := 25) (by decide +kernel), List.mem_of_getElem? (i := 378) (by decide +kernel), List.mem_of_getElem? (i := 379) (by decide +kernel)⟩
theorem lw_p19 : lw_okq (⟨"YearBook$Chooser", "someBelow", "(J)Z"⟩, 14) := ⟨⟨by decide +kernel, by decide +kernel⟩, List.mem_of_getElem? (i := 25) (by decide +kernel), List.mem_of_getElem? (i := 385) (by decide +kernel), List.mem_of_getElem? (i := 386) (by decide +kernel)⟩
theorem lw_p20 : lw_okq (⟨"YearBook$Chooser", "fittingFrom", "(IJ)I"⟩, 14) := ⟨⟨by decide +kernel, by decide +kernel⟩, List.mem_of_getElem? (i := 25) (by decide +kernel), List.mem_of_getElem? (i := 403) (by decide +kernel), List.mem_of_getElem? (i := 404) (by decide +kernel)⟩
theorem lw_p21 : lw_okq (⟨"YearBook$Pages", "learnSetsWith", "(I)V"⟩, 10) := ⟨⟨by decide +kernel, by decide +kernel⟩, List.mem_of_getElem? (i := 77) (by decide +kernel), List.mem_of_getElem? (i := 419) (by decide +kernel), List.mem_of_getElem? (i := 420) (by decide +kernel)⟩
theorem lw_p22 : lw_okq (⟨"YearBook$Pages", "layOnto", "(II)V"⟩, 10) := ⟨⟨by decide +kernel, by decide +kernel⟩, List.mem_of_getElem? (i := 77) (by decide +kernel), List.mem_of_getElem? (i := 450) (by decide +kernel), List.mem_of_getElem? (i := 451) (by decide +kernel)⟩
theorem lw_p23 : lw_okq (⟨"YearBook$Pages", "nextPage", "(I)I"⟩, 10) := ⟨⟨by decide +kernel, by decide +kernel⟩, List.mem_of_getElem? (i := 77) (by decide +kernel), List.mem_of_getElem? (i := 454) (by decide +kernel), List.mem_of_getElem? (i := 455) (by decide +kernel)⟩
theorem lw_p24 : lw_okq (⟨"YearBook$Pages", "fillPage", "(III)V"⟩, 10) := ⟨⟨by decide +kernel, by decide +kernel⟩, List.mem_of_getElem? (i := 77) (by decide +kernel), List.mem_of_getElem? (i := 458) (by decide +kernel), List.mem_of_getElem? (i := 459) (by decide +kernel)⟩
theorem lw_p25 : lw_okq (⟨"YearBook$Pages", "pagesToChange", "(I)I"⟩, 10) := ⟨⟨by decide +kernel, by decide +kernel⟩, List.mem_of_getElem? (i := 77) (by decide +kernel), List.mem_of_getElem? (i := 486) (by decide +kernel), List.mem_of_getElem? (i := 487) (by decide +kernel)⟩
theorem lw_p26 : lw_okq (⟨"YearBook$Pages", "leastPages", "(IIII)I"⟩, 10) := ⟨⟨by decide +kernel, by decide +kernel⟩, List.mem_of_getElem? (i := 77) (by decide +kernel), List.mem_of_getElem? (i := 491) (by decide +kernel), List.mem_of_getElem? (i := 492) (by decide +kernel)⟩
theorem lw_p27 : lw_okq (⟨"java/lang/Throwable", "fillInStackTrace", "(I)Ljava/lang/Throwable;"⟩, 6) := ⟨⟨by decide +kernel, by decide +kernel⟩, List.mem_of_getElem? (i := 552) (by decide +kernel), List.mem_of_getElem? (i := 550) (by decide +kernel), List.mem_of_getElem? (i := 551) (by decide +kernel)⟩
theorem lw_p28 : lw_okq (⟨"YearBookModel", "isChild", "(I)Z"⟩, 27) := ⟨⟨by decide +kernel, by decide +kernel⟩, List.mem_of_getElem? (i := 587) (by decide +kernel), List.mem_of_getElem? (i := 690) (by decide +kernel), List.mem_of_getElem? (i := 691) (by decide +kernel)⟩
theorem lw_p29 : lw_okq (⟨"YearBookModel", "isPicture", "(I)Z"⟩, 27) := ⟨⟨by decide +kernel, by decide +kernel⟩, List.mem_of_getElem? (i := 587) (by decide +kernel), List.mem_of_getElem? (i := 702) (by decide +kernel), List.mem_of_getElem? (i := 703) (by decide +kernel)⟩
theorem lw_p30 : lw_okq (⟨"YearBookModel", "sum", "(I)I"⟩, 27) := ⟨⟨by decide +kernel, by decide +kernel⟩, List.mem_of_getElem? (i := 587) (by decide +kernel), List.mem_of_getElem? (i := 714) (by decide +kernel), List.mem_of_getElem? (i := 715) (by decide +kernel)⟩
theorem lw_p31 : lw_okq (⟨"YearBookModel", "good", "()I"⟩, 27) := ⟨⟨by decide +kernel, by decide +kernel⟩, List.mem_of_getElem? (i := 587) (by decide +kernel), List.mem_of_getElem? (i := 718) (by decide +kernel), List.mem_of_getElem? (i := 719) (by decide +kernel)⟩
def lw_privs_2 : List (MethodName × Nat) := [(⟨"YearBook$Chooser", "searchFrom", "(IIJJ)V"⟩, 14), (⟨"YearBook$Chooser", "isLost", "(IJ)Z"⟩, 14), (⟨"YearBook$Chooser", "someAbove", "(J)Z"⟩, 14), (⟨"YearBook$Chooser", "someBelow", "(J)Z"⟩, 14), (⟨"YearBook$Chooser", "fittingFrom", "(IJ)I"⟩, 14), (⟨"YearBook$Pages", "learnSetsWith", "(I)V"⟩, 10), (⟨"YearBook$Pages", "layOnto", "(II)V"⟩, 10), (⟨"YearBook$Pages", "nextPage", "(I)I"⟩, 10), (⟨"YearBook$Pages", "fillPage", "(III)V"⟩, 10), (⟨"YearBook$Pages", "pagesToChange", "(I)I"⟩, 10), (⟨"YearBook$Pages", "leastPages", "(IIII)I"⟩, 10), (⟨"java/lang/Throwable", "fillInStackTrace", "(I)Ljava/lang/Throwable;"⟩, 6), (⟨"YearBookModel", "isChild", "(I)Z"⟩, 27), (⟨"YearBookModel", "isPicture", "(I)Z"⟩, 27), (⟨"YearBookModel", "sum", "(I)I"⟩, 27), (⟨"YearBookModel", "good", "()I"⟩, 27)]
theorem lw_r2 : ∀ q ∈ lw_privs_2, lw_okq q := List.forall_mem_cons.mpr ⟨lw_p16, List.forall_mem_cons.mpr ⟨lw_p17, List.forall_mem_cons.mpr ⟨lw_p18, List.forall_mem_cons.mpr ⟨lw_p19, List.forall_mem_cons.mpr ⟨lw_p20, List.forall_mem_cons.mpr ⟨lw_p21, List.forall_mem_cons.mpr ⟨lw_p22, List.forall_mem_cons.mpr ⟨lw_p23, List.forall_mem_cons.mpr ⟨lw_p24, List.forall_mem_cons.mpr ⟨lw_p25, List.forall_mem_cons.mpr ⟨lw_p26, List.forall_mem_cons.mpr ⟨lw_p27, List.forall_mem_cons.mpr ⟨lw_p28, List.forall_mem_cons.mpr ⟨lw_p29, List.forall_mem_cons.mpr ⟨lw_p30, List.forall_mem_cons.mpr ⟨lw_p31, fun _ h => absurd h List.not_mem_nil⟩⟩⟩⟩⟩⟩⟩⟩⟩⟩⟩⟩⟩⟩⟩⟩
theorem lw_p32 : lw_okq (⟨"YearBookModel", "isGood", "(I)Z"⟩, 27) := ⟨⟨by decide +kernel, by decide +kernel⟩, List.mem_of_getElem? (i := 587) (by decide +kernel), List.mem_of_getElem? (i := 722) (by decide +kernel), List.mem_of_getElem? (i := 723) (by decide +kernel)⟩
theorem lw_p33 : lw_okq (⟨"YearBookModel", "cutOf", "(I)Z"⟩, 27) := ⟨⟨by decide +kernel, by decide +kernel⟩, List.mem_of_getElem? (i := 587) (by decide +kernel), List.mem_of_getElem? (i := 726) (by decide +kernel), List.mem_of_getElem? (i := 727) (by decide +kernel)⟩
theorem lw_p34 : lw_okq (⟨"YearBookModel", "may", "(II)Z"⟩, 27) := ⟨⟨by decide +kernel, by decide +kernel⟩, List.mem_of_getElem? (i := 587) (by decide +kernel), List.mem_of_getElem? (i := 730) (by decide +kernel), List.mem_of_getElem? (i := 731) (by decide +kernel)⟩
theorem lw_p35 : lw_okq (⟨"YearBookModel", "shown", "()I"⟩, 27) := ⟨⟨by decide +kernel, by decide +kernel⟩, List.mem_of_getElem? (i := 587) (by decide +kernel), List.mem_of_getElem? (i := 734) (by decide +kernel), List.mem_of_getElem? (i := 735) (by decide +kernel)⟩
theorem lw_p36 : lw_okq (⟨"YearBookModel", "seenIn", "(I)I"⟩, 27) := ⟨⟨by decide +kernel, by decide +kernel⟩, List.mem_of_getElem? (i := 587) (by decide +kernel), List.mem_of_getElem? (i := 738) (by decide +kernel), List.mem_of_getElem? (i := 739) (by decide +kernel)⟩
theorem lw_p37 : lw_okq (⟨"YearBookModel", "pageOf", "(I)I"⟩, 27) := ⟨⟨by decide +kernel, by decide +kernel⟩, List.mem_of_getElem? (i := 587) (by decide +kernel), List.mem_of_getElem? (i := 746) (by decide +kernel), List.mem_of_getElem? (i := 747) (by decide +kernel)⟩
theorem lw_p38 : lw_okq (⟨"YearBookModel", "nameAll", "(I)I"⟩, 27) := ⟨⟨by decide +kernel, by decide +kernel⟩, List.mem_of_getElem? (i := 587) (by decide +kernel), List.mem_of_getElem? (i := 754) (by decide +kernel), List.mem_of_getElem? (i := 755) (by decide +kernel)⟩
theorem lw_p39 : lw_okq (⟨"YearBookModel", "timesIn", "(II)I"⟩, 27) := ⟨⟨by decide +kernel, by decide +kernel⟩, List.mem_of_getElem? (i := 587) (by decide +kernel), List.mem_of_getElem? (i := 762) (by decide +kernel), List.mem_of_getElem? (i := 763) (by decide +kernel)⟩
theorem lw_p40 : lw_okq (⟨"YearBookModel", "takeSeen", "()V"⟩, 27) := ⟨⟨by decide +kernel, by decide +kernel⟩, List.mem_of_getElem? (i := 587) (by decide +kernel), List.mem_of_getElem? (i := 782) (by decide +kernel), List.mem_of_getElem? (i := 783) (by decide +kernel)⟩
theorem lw_p41 : lw_okq (⟨"YearBookModel", "why", "(I)I"⟩, 27) := ⟨⟨by decide +kernel, by decide +kernel⟩, List.mem_of_getElem? (i := 587) (by decide +kernel), List.mem_of_getElem? (i := 786) (by decide +kernel), List.mem_of_getElem? (i := 787) (by decide +kernel)⟩
theorem lw_p42 : lw_okq (⟨"YearBookModel", "search", "(Z)I"⟩, 27) := ⟨⟨by decide +kernel, by decide +kernel⟩, List.mem_of_getElem? (i := 587) (by decide +kernel), List.mem_of_getElem? (i := 794) (by decide +kernel), List.mem_of_getElem? (i := 795) (by decide +kernel)⟩
theorem lw_p43 : lw_okq (⟨"YearBookModel", "isAhead", "(IIZ)Z"⟩, 27) := ⟨⟨by decide +kernel, by decide +kernel⟩, List.mem_of_getElem? (i := 587) (by decide +kernel), List.mem_of_getElem? (i := 798) (by decide +kernel), List.mem_of_getElem? (i := 799) (by decide +kernel)⟩
theorem lw_p44 : lw_okq (⟨"YearBookModel", "pack", "(I)V"⟩, 27) := ⟨⟨by decide +kernel, by decide +kernel⟩, List.mem_of_getElem? (i := 587) (by decide +kernel), List.mem_of_getElem? (i := 819) (by decide +kernel), List.mem_of_getElem? (i := 820) (by decide +kernel)⟩
theorem lw_p45 : lw_okq (⟨"YearBookModel", "layAll", "(I)I"⟩, 27) := ⟨⟨by decide +kernel, by decide +kernel⟩, List.mem_of_getElem? (i := 587) (by decide +kernel), List.mem_of_getElem? (i := 828) (by decide +kernel), List.mem_of_getElem? (i := 829) (by decide +kernel)⟩
theorem lw_p46 : lw_okq (⟨"YearBookModel", "pointsOf", "(I)I"⟩, 27) := ⟨⟨by decide +kernel, by decide +kernel⟩, List.mem_of_getElem? (i := 587) (by decide +kernel), List.mem_of_getElem? (i := 840) (by decide +kernel), List.mem_of_getElem? (i := 841) (by decide +kernel)⟩
theorem lw_p47 : lw_okq (⟨"YearBookModel", "on", "(I)I"⟩, 27) := ⟨⟨by decide +kernel, by decide +kernel⟩, List.mem_of_getElem? (i := 587) (by decide +kernel), List.mem_of_getElem? (i := 848) (by decide +kernel), List.mem_of_getElem? (i := 849) (by decide +kernel)⟩
def lw_privs_3 : List (MethodName × Nat) := [(⟨"YearBookModel", "isGood", "(I)Z"⟩, 27), (⟨"YearBookModel", "cutOf", "(I)Z"⟩, 27), (⟨"YearBookModel", "may", "(II)Z"⟩, 27), (⟨"YearBookModel", "shown", "()I"⟩, 27), (⟨"YearBookModel", "seenIn", "(I)I"⟩, 27), (⟨"YearBookModel", "pageOf", "(I)I"⟩, 27), (⟨"YearBookModel", "nameAll", "(I)I"⟩, 27), (⟨"YearBookModel", "timesIn", "(II)I"⟩, 27), (⟨"YearBookModel", "takeSeen", "()V"⟩, 27), (⟨"YearBookModel", "why", "(I)I"⟩, 27), (⟨"YearBookModel", "search", "(Z)I"⟩, 27), (⟨"YearBookModel", "isAhead", "(IIZ)Z"⟩, 27), (⟨"YearBookModel", "pack", "(I)V"⟩, 27), (⟨"YearBookModel", "layAll", "(I)I"⟩, 27), (⟨"YearBookModel", "pointsOf", "(I)I"⟩, 27), (⟨"YearBookModel", "on", "(I)I"⟩, 27)]
theorem lw_r3 : ∀ q ∈ lw_privs_3, lw_okq q := List.forall_mem_cons.mpr ⟨lw_p32, List.forall_mem_cons.mpr ⟨lw_p33, List.forall_mem_cons.mpr ⟨lw_p34, List.forall_mem_cons.mpr ⟨lw_p35, List.forall_mem_cons.mpr ⟨lw_p36, List.forall_mem_cons.mpr ⟨lw_p37, List.forall_mem_cons.mpr ⟨lw_p38, List.forall_mem_cons.mpr ⟨lw_p39, List.forall_mem_cons.mpr ⟨lw_p40, List.forall_mem_cons.mpr ⟨lw_p41, List.forall_mem_cons.mpr ⟨lw_p42, List.forall_mem_cons.mpr ⟨lw_p43, List.forall_mem_cons.mpr ⟨lw_p44, List.forall_mem_cons.mpr ⟨lw_p45, List.forall_mem_cons.mpr ⟨lw_p46, List.forall_mem_cons.mpr ⟨lw_p47, fun _ h => absurd h List.not_mem_nil⟩⟩⟩⟩⟩⟩⟩⟩⟩⟩⟩⟩⟩⟩⟩⟩
def lw_privs : List (MethodName × Nat) := lw_privs_1 ++ (lw_privs_2 ++ (lw_privs_3))
def lw_tbl : List Cond := k2_sels lw_privs ++ tables_1
theorem lw_privs_ok : ∀ q ∈ lw_privs, lw_okq q := by
  show ∀ q ∈ lw_privs_1 ++ (lw_privs_2 ++ (lw_privs_3)), lw_okq q
  exact List.forall_mem_append.mpr ⟨lw_r1, List.forall_mem_append.mpr ⟨lw_r2, lw_r3⟩⟩
/-! ===== BEGIN words of one list among another's, by their places ===== -/
theorem goodIn_r {big : List Cond} (ws : List Cond) (ps : List Nat) (hp : ws = ps.filterMap (fun i => big[i]?)) (h : ws.all goodWord = true) : GoodIn big ws := by
  intro w hw
  have h1 := List.all_eq_true.mp h w hw
  rw [hp] at hw
  obtain ⟨i, -, hi⟩ := List.mem_filterMap.mp hw
  have hm : w ∈ big := by first | exact List.mem_of_getElem? hi | exact List.getElem?_mem hi
  exact ⟨hm, good_of_word h1⟩
theorem goodIn_app {big a b : List Cond} (ha : GoodIn big a) (hb : GoodIn big b) : GoodIn big (a ++ b) := fun w h => (List.mem_append.mp h).elim (ha w) (hb w)
theorem goodIn_ca {big a b : List Cond} {c : Cond} (ha : GoodIn big (c :: a)) (hb : GoodIn big b) : GoodIn big (c :: (a ++ b)) := fun w h => (List.mem_cons.mp h).elim (fun e => ha w (List.mem_cons.mpr (Or.inl e))) (fun h => (List.mem_append.mp h).elim (fun h => ha w (List.mem_cons.mpr (Or.inr h))) (hb w))
theorem goodIn_sub {big ws : List Cond} (hm : ∀ w ∈ ws, w ∈ big) (h : ws.all goodWord = true) : GoodIn big ws := fun w hw => ⟨hm w hw, good_of_word (List.all_eq_true.mp h w hw)⟩
/-! ===== END ===== -/
def vx_no (w : Cond) : Bool := decide (w ≠ .isRef (.static Bundle.tN "UNASSIGNED_STACK" Bundle.steD)) && decide (w ≠ .isRef (.static Bundle.tN "SUPPRESSED_SENTINEL" Bundle.listD)) && decide (w ≠ .laysStatic Bundle.tN "UNASSIGNED_STACK" Bundle.steD) && decide (w ≠ .laysStatic Bundle.tN "SUPPRESSED_SENTINEL" Bundle.listD)
def vx_at0 (own : String) (ic : Nat) (X : String) (names : List String) : List Cond := (Bundle.ownAtoms0 own ic X names).filter vx_no
def vx_atS (own : String) (ic : Nat) (X : String) (names : List String) : List Cond := (Bundle.ownAtoms own ic X names).filter vx_no
end
section
/-! ===== BEGIN printed: names, fields, word lists, decode rows ===== -/
def RX0 : String := "YearBook$Chooser"
def TX0 : u_T := fun k => match k with
  | 0 => ("YearBook$Chooser", "low", "I", false)
  | 1 => ("YearBook$Chooser", "high", "I", false)
  | 2 => ("YearBook$Chooser", "size", "I", false)
  | 3 => ("YearBook$Chooser", "bits", "[I", true)
  | 4 => ("YearBook$Chooser", "shown", "[J", true)
  | 5 => ("YearBook$Chooser", "marks", "[J", true)
  | 6 => ("YearBook$Chooser", "shownFrom", "[J", true)
  | 7 => ("YearBook$Chooser", "wishedShownFrom", "[J", true)
  | 8 => ("YearBook$Chooser", "wishedBitsFrom", "[I", true)
  | 9 => ("YearBook$Chooser", "wishedMarksFrom", "[J", true)
  | 10 => ("YearBook$Chooser", "notCounted", "J", false)
  | 11 => ("YearBook$Chooser", "found", "Z", false)
  | 12 => ("YearBook$Chooser", "bestSet", "I", false)
  | _ => ("YearBook$Chooser", "bestMark", "J", false)
def tyX0 : Nat → FieldType := fun k => match k with
  | 0 => .int
  | 1 => .int
  | 2 => .int
  | 3 => .array .int
  | 4 => .array .long
  | 5 => .array .long
  | 6 => .array .long
  | 7 => .array .long
  | 8 => .array .int
  | 9 => .array .long
  | 10 => .long
  | 11 => .boolean
  | 12 => .int
  | _ => .long
abbrev wsX00 : List Cond := u_ws RX0 TX0 14
theorem nmX0 : ∀ a, a < 14 → ∀ b, b < 14 → a ≠ b → (TX0 a).2.1 ≠ (TX0 b).2.1 := by decide +kernel
theorem tyX0_ok : ∀ k, k < 14 → parseFieldDescriptor (TX0 k).2.2.1 = some (tyX0 k) := by decide +kernel
abbrev cX0_init : ByteArray := prog_2_method_1_code
def yX0_init : MethodName := ⟨RX0, "<init>", "()V"⟩
abbrev cX0_begin : ByteArray := prog_2_method_2_code
def yX0_begin : MethodName := ⟨RX0, "begin", "(II)V"⟩
abbrev cX0_offer : ByteArray := prog_2_method_3_code
def yX0_offer : MethodName := ⟨RX0, "offer", "(IIJ)V"⟩
abbrev cX0_inFours : ByteArray := prog_2_method_4_code
def yX0_inFours : MethodName := ⟨RX0, "inFours", "(I)J"⟩
abbrev cX0_sumUp : ByteArray := prog_2_method_5_code
def yX0_sumUp : MethodName := ⟨RX0, "sumUp", "()V"⟩
abbrev cX0_findBest : ByteArray := prog_2_method_6_code
def yX0_findBest : MethodName := ⟨RX0, "findBest", "()Z"⟩
abbrev cX0_countFitting : ByteArray := prog_2_method_7_code
def yX0_countFitting : MethodName := ⟨RX0, "countFitting", "()I"⟩
abbrev cX0_searchFrom : ByteArray := prog_2_method_8_code
def yX0_searchFrom : MethodName := ⟨RX0, "searchFrom", "(IIJJ)V"⟩
abbrev cX0_fittingFrom : ByteArray := prog_2_method_9_code
def yX0_fittingFrom : MethodName := ⟨RX0, "fittingFrom", "(IJ)I"⟩
abbrev cX0_isLost : ByteArray := prog_2_method_10_code
def yX0_isLost : MethodName := ⟨RX0, "isLost", "(IJ)Z"⟩
abbrev cX0_someAbove : ByteArray := prog_2_method_11_code
def yX0_someAbove : MethodName := ⟨RX0, "someAbove", "(J)Z"⟩
abbrev cX0_someBelow : ByteArray := prog_2_method_12_code
def yX0_someBelow : MethodName := ⟨RX0, "someBelow", "(J)Z"⟩
def RX1 : String := "YearBook$Pages"
def TX1 : u_T := fun k => match k with
  | 0 => ("YearBook$Pages", "sizes", "[I", true)
  | 1 => ("YearBook$Pages", "pictures", "I", false)
  | 2 => ("YearBook$Pages", "sets", "[I", true)
  | 3 => ("YearBook$Pages", "count", "I", false)
  | 4 => ("YearBook$Pages", "packed", "[I", false)
  | 5 => ("YearBook$Pages", "learnt", "I", false)
  | 6 => ("YearBook$Pages", "waiting", "I", false)
  | 7 => ("YearBook$Pages", "pagesForRest", "I", false)
  | 8 => ("YearBook$Pages", "fullest", "I", false)
  | _ => ("YearBook$Pages", "fullestPoints", "I", false)
def tyX1 : Nat → FieldType := fun k => match k with
  | 0 => .array .int
  | 1 => .int
  | 2 => .array .int
  | 3 => .int
  | 4 => .array .int
  | 5 => .int
  | 6 => .int
  | 7 => .int
  | 8 => .int
  | _ => .int
abbrev wsX10 : List Cond := u_ws RX1 TX1 10
theorem nmX1 : ∀ a, a < 10 → ∀ b, b < 10 → a ≠ b → (TX1 a).2.1 ≠ (TX1 b).2.1 := by decide +kernel
theorem tyX1_ok : ∀ k, k < 10 → parseFieldDescriptor (TX1 k).2.2.1 = some (tyX1 k) := by decide +kernel
abbrev cX1_init : ByteArray := prog_3_method_1_code
def yX1_init : MethodName := ⟨RX1, "<init>", "()V"⟩
abbrev cX1_hearOf : ByteArray := prog_3_method_2_code
def yX1_hearOf : MethodName := ⟨RX1, "hearOf", "(I)V"⟩
abbrev cX1_clear : ByteArray := prog_3_method_3_code
def yX1_clear : MethodName := ⟨RX1, "clear", "()V"⟩
abbrev cX1_has : ByteArray := prog_3_method_4_code
def yX1_has : MethodName := ⟨RX1, "has", "(I)Z"⟩
abbrev cX1_pageOf : ByteArray := prog_3_method_5_code
def yX1_pageOf : MethodName := ⟨RX1, "pageOf", "(I)I"⟩
abbrev cX1_pointsOf : ByteArray := prog_3_method_6_code
def yX1_pointsOf : MethodName := ⟨RX1, "pointsOf", "(I)I"⟩
abbrev cX1_pagesFor : ByteArray := prog_3_method_7_code
def yX1_pagesFor : MethodName := ⟨RX1, "pagesFor", "(I)I"⟩
abbrev cX1_learnSetsWith : ByteArray := prog_3_method_8_code
def yX1_learnSetsWith : MethodName := ⟨RX1, "learnSetsWith", "(I)V"⟩
abbrev cX1_withOneMore : ByteArray := prog_3_method_9_code
def yX1_withOneMore : MethodName := ⟨RX1, "withOneMore", "(II)I"⟩
abbrev cX1_layOut : ByteArray := prog_3_method_10_code
def yX1_layOut : MethodName := ⟨RX1, "layOut", "(II)I"⟩
abbrev cX1_layOnto : ByteArray := prog_3_method_11_code
def yX1_layOnto : MethodName := ⟨RX1, "layOnto", "(II)V"⟩
abbrev cX1_nextPage : ByteArray := prog_3_method_12_code
def yX1_nextPage : MethodName := ⟨RX1, "nextPage", "(I)I"⟩
abbrev cX1_fillPage : ByteArray := prog_3_method_13_code
def yX1_fillPage : MethodName := ⟨RX1, "fillPage", "(III)V"⟩
abbrev cX1_bringIn : ByteArray := prog_3_method_14_code
def yX1_bringIn : MethodName := ⟨RX1, "bringIn", "(II)I"⟩
abbrev cX1_pagesToChange : ByteArray := prog_3_method_15_code
def yX1_pagesToChange : MethodName := ⟨RX1, "pagesToChange", "(I)I"⟩
abbrev cX1_leastPages : ByteArray := prog_3_method_16_code
def yX1_leastPages : MethodName := ⟨RX1, "leastPages", "(IIII)I"⟩
abbrev cX1_takeOut : ByteArray := prog_3_method_17_code
def yX1_takeOut : MethodName := ⟨RX1, "takeOut", "(I)Z"⟩
def RX2 : String := "YearBook$Picture"
def TX2 : u_T := fun k => match k with
  | 0 => ("YearBook$Picture", "kind", "I", true)
  | 1 => ("YearBook$Picture", "worth", "I", true)
  | 2 => ("YearBook$Picture", "size", "I", true)
  | 3 => ("YearBook$Picture", "faces", "I", false)
  | 4 => ("YearBook$Picture", "who", "[I", true)
  | 5 => ("YearBook$Picture", "xs", "[I", true)
  | 6 => ("YearBook$Picture", "ys", "[I", true)
  | 7 => ("YearBook$Picture", "halves", "[I", true)
  | 8 => ("YearBook$Picture", "allowed", "I", false)
  | 9 => ("YearBook$Picture", "seen", "I", false)
  | _ => ("YearBook$Picture", "cut", "[I", true)
def tyX2 : Nat → FieldType := fun k => match k with
  | 0 => .int
  | 1 => .int
  | 2 => .int
  | 3 => .int
  | 4 => .array .int
  | 5 => .array .int
  | 6 => .array .int
  | 7 => .array .int
  | 8 => .int
  | 9 => .int
  | _ => .array .int
abbrev wsX20 : List Cond := u_ws RX2 TX2 11
theorem nmX2 : ∀ a, a < 11 → ∀ b, b < 11 → a ≠ b → (TX2 a).2.1 ≠ (TX2 b).2.1 := by decide +kernel
theorem tyX2_ok : ∀ k, k < 11 → parseFieldDescriptor (TX2 k).2.2.1 = some (tyX2 k) := by decide +kernel
abbrev cX2_init : ByteArray := prog_4_method_1_code
def yX2_init : MethodName := ⟨RX2, "<init>", "(III)V"⟩
abbrev cX2_canHold : ByteArray := prog_4_method_2_code
def yX2_canHold : MethodName := ⟨RX2, "canHold", "(I)Z"⟩
abbrev cX2_add : ByteArray := prog_4_method_3_code
def yX2_add : MethodName := ⟨RX2, "add", "(IIII)V"⟩
abbrev cX2_look : ByteArray := prog_4_method_4_code
def yX2_look : MethodName := ⟨RX2, "look", "([I)V"⟩
abbrev cX2_frame : ByteArray := prog_4_method_5_code
def yX2_frame : MethodName := ⟨RX2, "frame", "()V"⟩
abbrev cX2_anotherTouchesCut : ByteArray := prog_4_method_6_code
def yX2_anotherTouchesCut : MethodName := ⟨RX2, "anotherTouchesCut", "()Z"⟩
abbrev cX2_edge : ByteArray := prog_4_method_7_code
def yX2_edge : MethodName := ⟨RX2, "edge", "(I)I"⟩
abbrev cX2_nameAt : ByteArray := prog_4_method_8_code
def yX2_nameAt : MethodName := ⟨RX2, "nameAt", "(II)I"⟩
abbrev cX2_topRow : ByteArray := prog_4_method_9_code
def yX2_topRow : MethodName := ⟨RX2, "topRow", "(II)I"⟩
abbrev cX2_childInRow : ByteArray := prog_4_method_10_code
def yX2_childInRow : MethodName := ⟨RX2, "childInRow", "(II)I"⟩
abbrev cX2_leftOf : ByteArray := prog_4_method_11_code
def yX2_leftOf : MethodName := ⟨RX2, "leftOf", "(II)I"⟩
def RX3 : String := "YearBook"
def TX3 : u_T := fun k => match k with
  | 0 => ("YearBook", "rooms", "[I", true)
  | 1 => ("YearBook", "consents", "[I", true)
  | 2 => ("YearBook", "children", "I", false)
  | 3 => ("YearBook", "pictures", "[LYearBook$Picture;", true)
  | 4 => ("YearBook", "pictureCount", "I", false)
  | 5 => ("YearBook", "settings", "[I", true)
  | 6 => ("YearBook", "choice", "I", false)
  | 7 => ("YearBook", "chooser", "LYearBook$Chooser;", true)
  | _ => ("YearBook", "pages", "LYearBook$Pages;", true)
def tyX3 : Nat → FieldType := fun k => match k with
  | 0 => .array .int
  | 1 => .array .int
  | 2 => .int
  | 3 => .array (.object "YearBook$Picture")
  | 4 => .int
  | 5 => .array .int
  | 6 => .int
  | 7 => .object "YearBook$Chooser"
  | _ => .object "YearBook$Pages"
abbrev wsX30 : List Cond := u_ws RX3 TX3 9
theorem nmX3 : ∀ a, a < 9 → ∀ b, b < 9 → a ≠ b → (TX3 a).2.1 ≠ (TX3 b).2.1 := by decide +kernel
theorem tyX3_ok : ∀ k, k < 9 → parseFieldDescriptor (TX3 k).2.2.1 = some (tyX3 k) := by decide +kernel
abbrev cX3_init : ByteArray := prog_1_method_1_code
def yX3_init : MethodName := ⟨RX3, "<init>", "()V"⟩
abbrev cX3_child : ByteArray := prog_1_method_2_code
def yX3_child : MethodName := ⟨RX3, "child", "(I)I"⟩
abbrev cX3_consent : ByteArray := prog_1_method_3_code
def yX3_consent : MethodName := ⟨RX3, "consent", "(II)I"⟩
abbrev cX3_picture : ByteArray := prog_1_method_4_code
def yX3_picture : MethodName := ⟨RX3, "picture", "(III)I"⟩
abbrev cX3_face : ByteArray := prog_1_method_5_code
def yX3_face : MethodName := ⟨RX3, "face", "(IIIII)I"⟩
abbrev cX3_set : ByteArray := prog_1_method_6_code
def yX3_set : MethodName := ⟨RX3, "set", "(II)I"⟩
abbrev cX3_count : ByteArray := prog_1_method_7_code
def yX3_count : MethodName := ⟨RX3, "count", "(I)I"⟩
abbrev cX3_told : ByteArray := prog_1_method_8_code
def yX3_told : MethodName := ⟨RX3, "told", "(II)I"⟩
abbrev cX3_name : ByteArray := prog_1_method_9_code
def yX3_name : MethodName := ⟨RX3, "name", "(II)I"⟩
abbrev cX3_seen : ByteArray := prog_1_method_10_code
def yX3_seen : MethodName := ⟨RX3, "seen", "(I)I"⟩
abbrev cX3_proof : ByteArray := prog_1_method_11_code
def yX3_proof : MethodName := ⟨RX3, "proof", "(II)I"⟩
abbrev cX3_shows : ByteArray := prog_1_method_12_code
def yX3_shows : MethodName := ⟨RX3, "shows", "(I)I"⟩
abbrev cX3_choose : ByteArray := prog_1_method_13_code
def yX3_choose : MethodName := ⟨RX3, "choose", "(I)Z"⟩
abbrev cX3_wrong : ByteArray := prog_1_method_14_code
def yX3_wrong : MethodName := ⟨RX3, "wrong", "()I"⟩
abbrev cX3_best : ByteArray := prog_1_method_15_code
def yX3_best : MethodName := ⟨RX3, "best", "()I"⟩
abbrev cX3_mend : ByteArray := prog_1_method_16_code
def yX3_mend : MethodName := ⟨RX3, "mend", "()I"⟩
abbrev cX3_choices : ByteArray := prog_1_method_17_code
def yX3_choices : MethodName := ⟨RX3, "choices", "()I"⟩
abbrev cX3_lacking : ByteArray := prog_1_method_18_code
def yX3_lacking : MethodName := ⟨RX3, "lacking", "()I"⟩
abbrev cX3_fewest : ByteArray := prog_1_method_19_code
def yX3_fewest : MethodName := ⟨RX3, "fewest", "()I"⟩
abbrev cX3_lay : ByteArray := prog_1_method_20_code
def yX3_lay : MethodName := ⟨RX3, "lay", "()I"⟩
abbrev cX3_page : ByteArray := prog_1_method_21_code
def yX3_page : MethodName := ⟨RX3, "page", "(I)I"⟩
abbrev cX3_left : ByteArray := prog_1_method_22_code
def yX3_left : MethodName := ⟨RX3, "left", "(I)I"⟩
abbrev cX3_late : ByteArray := prog_1_method_23_code
def yX3_late : MethodName := ⟨RX3, "late", "(I)I"⟩
abbrev cX3_drop : ByteArray := prog_1_method_24_code
def yX3_drop : MethodName := ⟨RX3, "drop", "(I)Z"⟩
abbrev cX3_within : ByteArray := prog_1_method_25_code
def yX3_within : MethodName := ⟨RX3, "within", "(III)Z"⟩
abbrev cX3_isChild : ByteArray := prog_1_method_26_code
def yX3_isChild : MethodName := ⟨RX3, "isChild", "(I)Z"⟩
abbrev cX3_pictureAt : ByteArray := prog_1_method_27_code
def yX3_pictureAt : MethodName := ⟨RX3, "pictureAt", "(I)LYearBook$Picture;"⟩
abbrev cX3_isChosen : ByteArray := prog_1_method_28_code
def yX3_isChosen : MethodName := ⟨RX3, "isChosen", "(I)Z"⟩
abbrev cX3_shownIn : ByteArray := prog_1_method_29_code
def yX3_shownIn : MethodName := ⟨RX3, "shownIn", "(I)I"⟩
abbrev cX3_worthOf : ByteArray := prog_1_method_30_code
def yX3_worthOf : MethodName := ⟨RX3, "worthOf", "(I)I"⟩
abbrev cX3_worthOfChoice : ByteArray := prog_1_method_31_code
def yX3_worthOfChoice : MethodName := ⟨RX3, "worthOfChoice", "()I"⟩
abbrev cX3_goodPictures : ByteArray := prog_1_method_32_code
def yX3_goodPictures : MethodName := ⟨RX3, "goodPictures", "()I"⟩
abbrev cX3_childrenInGood : ByteArray := prog_1_method_33_code
def yX3_childrenInGood : MethodName := ⟨RX3, "childrenInGood", "()I"⟩
abbrev cX3_chosenShowing : ByteArray := prog_1_method_34_code
def yX3_chosenShowing : MethodName := ⟨RX3, "chosenShowing", "(I)I"⟩
abbrev cX3_decide : ByteArray := prog_1_method_35_code
def yX3_decide : MethodName := ⟨RX3, "decide", "(I)V"⟩
abbrev cX3_offerPictures : ByteArray := prog_1_method_36_code
def yX3_offerPictures : MethodName := ⟨RX3, "offerPictures", "(J)V"⟩
def RX4 : String := "YearBookModel"
def TX4 : u_T := fun k => match k with
  | 0 => ("YearBookModel", "room", "[I", true)
  | 1 => ("YearBookModel", "consent", "[I", true)
  | 2 => ("YearBookModel", "children", "I", false)
  | 3 => ("YearBookModel", "kind", "[I", true)
  | 4 => ("YearBookModel", "worth", "[I", true)
  | 5 => ("YearBookModel", "size", "[I", true)
  | 6 => ("YearBookModel", "faces", "[I", true)
  | 7 => ("YearBookModel", "who", "[I", true)
  | 8 => ("YearBookModel", "x", "[I", true)
  | 9 => ("YearBookModel", "y", "[I", true)
  | 10 => ("YearBookModel", "\x72", "[I", true)
  | 11 => ("YearBookModel", "pictures", "I", false)
  | 12 => ("YearBookModel", "span", "I", false)
  | 13 => ("YearBookModel", "low", "I", false)
  | 14 => ("YearBookModel", "high", "I", false)
  | 15 => ("YearBookModel", "last", "I", false)
  | 16 => ("YearBookModel", "choice", "I", false)
  | 17 => ("YearBookModel", "pages", "[I", true)
  | 18 => ("YearBookModel", "pageMany", "I", false)
  | 19 => ("YearBookModel", "thrown", "I", false)
  | 20 => ("YearBookModel", "cut", "[I", true)
  | 21 => ("YearBookModel", "names", "[I", true)
  | 22 => ("YearBookModel", "seenBits", "[I", true)
  | 23 => ("YearBookModel", "allShown", "I", false)
  | 24 => ("YearBookModel", "points", "[I", true)
  | 25 => ("YearBookModel", "least", "[I", true)
  | _ => ("YearBookModel", "laid", "[I", true)
def tyX4 : Nat → FieldType := fun k => match k with
  | 0 => .array .int
  | 1 => .array .int
  | 2 => .int
  | 3 => .array .int
  | 4 => .array .int
  | 5 => .array .int
  | 6 => .array .int
  | 7 => .array .int
  | 8 => .array .int
  | 9 => .array .int
  | 10 => .array .int
  | 11 => .int
  | 12 => .int
  | 13 => .int
  | 14 => .int
  | 15 => .int
  | 16 => .int
  | 17 => .array .int
  | 18 => .int
  | 19 => .int
  | 20 => .array .int
  | 21 => .array .int
  | 22 => .array .int
  | 23 => .int
  | 24 => .array .int
  | 25 => .array .int
  | _ => .array .int
abbrev wsX40 : List Cond := u_ws RX4 TX4 27
theorem nmX4 : ∀ a, a < 27 → ∀ b, b < 27 → a ≠ b → (TX4 a).2.1 ≠ (TX4 b).2.1 := by decide +kernel
theorem tyX4_ok : ∀ k, k < 27 → parseFieldDescriptor (TX4 k).2.2.1 = some (tyX4 k) := by decide +kernel
abbrev cX4_init : ByteArray := prog_6_method_1_code
def yX4_init : MethodName := ⟨RX4, "<init>", "()V"⟩
abbrev cX4_thrown : ByteArray := prog_6_method_2_code
def yX4_thrown : MethodName := ⟨RX4, "thrown", "()I"⟩
abbrev cX4_in : ByteArray := prog_6_method_3_code
def yX4_in : MethodName := ⟨RX4, "in", "(III)Z"⟩
abbrev cX4_isPicture : ByteArray := prog_6_method_4_code
def yX4_isPicture : MethodName := ⟨RX4, "isPicture", "(I)Z"⟩
abbrev cX4_isChild : ByteArray := prog_6_method_5_code
def yX4_isChild : MethodName := ⟨RX4, "isChild", "(I)Z"⟩
abbrev cX4_child : ByteArray := prog_6_method_6_code
def yX4_child : MethodName := ⟨RX4, "child", "(I)I"⟩
abbrev cX4_consent : ByteArray := prog_6_method_7_code
def yX4_consent : MethodName := ⟨RX4, "consent", "(II)I"⟩
abbrev cX4_picture : ByteArray := prog_6_method_8_code
def yX4_picture : MethodName := ⟨RX4, "picture", "(III)I"⟩
abbrev cX4_face : ByteArray := prog_6_method_9_code
def yX4_face : MethodName := ⟨RX4, "face", "(IIIII)I"⟩
abbrev cX4_set : ByteArray := prog_6_method_10_code
def yX4_set : MethodName := ⟨RX4, "set", "(II)I"⟩
abbrev cX4_may : ByteArray := prog_6_method_11_code
def yX4_may : MethodName := ⟨RX4, "may", "(II)Z"⟩
abbrev cX4_cutOf : ByteArray := prog_6_method_12_code
def yX4_cutOf : MethodName := ⟨RX4, "cutOf", "(I)Z"⟩
abbrev cX4_isGood : ByteArray := prog_6_method_13_code
def yX4_isGood : MethodName := ⟨RX4, "isGood", "(I)Z"⟩
abbrev cX4_seenIn : ByteArray := prog_6_method_14_code
def yX4_seenIn : MethodName := ⟨RX4, "seenIn", "(I)I"⟩
abbrev cX4_good : ByteArray := prog_6_method_15_code
def yX4_good : MethodName := ⟨RX4, "good", "()I"⟩
abbrev cX4_shown : ByteArray := prog_6_method_16_code
def yX4_shown : MethodName := ⟨RX4, "shown", "()I"⟩
abbrev cX4_sum : ByteArray := prog_6_method_17_code
def yX4_sum : MethodName := ⟨RX4, "sum", "(I)I"⟩
abbrev cX4_count : ByteArray := prog_6_method_18_code
def yX4_count : MethodName := ⟨RX4, "count", "(I)I"⟩
abbrev cX4_pageOf : ByteArray := prog_6_method_19_code
def yX4_pageOf : MethodName := ⟨RX4, "pageOf", "(I)I"⟩
abbrev cX4_told : ByteArray := prog_6_method_20_code
def yX4_told : MethodName := ⟨RX4, "told", "(II)I"⟩
abbrev cX4_nameAll : ByteArray := prog_6_method_21_code
def yX4_nameAll : MethodName := ⟨RX4, "nameAll", "(I)I"⟩
abbrev cX4_name : ByteArray := prog_6_method_22_code
def yX4_name : MethodName := ⟨RX4, "name", "(II)I"⟩
abbrev cX4_timesIn : ByteArray := prog_6_method_23_code
def yX4_timesIn : MethodName := ⟨RX4, "timesIn", "(II)I"⟩
abbrev cX4_seen : ByteArray := prog_6_method_24_code
def yX4_seen : MethodName := ⟨RX4, "seen", "(I)I"⟩
abbrev cX4_proof : ByteArray := prog_6_method_25_code
def yX4_proof : MethodName := ⟨RX4, "proof", "(II)I"⟩
abbrev cX4_shows : ByteArray := prog_6_method_26_code
def yX4_shows : MethodName := ⟨RX4, "shows", "(I)I"⟩
abbrev cX4_choose : ByteArray := prog_6_method_27_code
def yX4_choose : MethodName := ⟨RX4, "choose", "(I)Z"⟩
abbrev cX4_takeSeen : ByteArray := prog_6_method_28_code
def yX4_takeSeen : MethodName := ⟨RX4, "takeSeen", "()V"⟩
abbrev cX4_why : ByteArray := prog_6_method_29_code
def yX4_why : MethodName := ⟨RX4, "why", "(I)I"⟩
abbrev cX4_wrong : ByteArray := prog_6_method_30_code
def yX4_wrong : MethodName := ⟨RX4, "wrong", "()I"⟩
abbrev cX4_search : ByteArray := prog_6_method_31_code
def yX4_search : MethodName := ⟨RX4, "search", "(Z)I"⟩
abbrev cX4_isAhead : ByteArray := prog_6_method_32_code
def yX4_isAhead : MethodName := ⟨RX4, "isAhead", "(IIZ)Z"⟩
abbrev cX4_best : ByteArray := prog_6_method_33_code
def yX4_best : MethodName := ⟨RX4, "best", "()I"⟩
abbrev cX4_mend : ByteArray := prog_6_method_34_code
def yX4_mend : MethodName := ⟨RX4, "mend", "()I"⟩
abbrev cX4_choices : ByteArray := prog_6_method_35_code
def yX4_choices : MethodName := ⟨RX4, "choices", "()I"⟩
abbrev cX4_lacking : ByteArray := prog_6_method_36_code
def yX4_lacking : MethodName := ⟨RX4, "lacking", "()I"⟩
abbrev cX4_pack : ByteArray := prog_6_method_37_code
def yX4_pack : MethodName := ⟨RX4, "pack", "(I)V"⟩
abbrev cX4_fewest : ByteArray := prog_6_method_38_code
def yX4_fewest : MethodName := ⟨RX4, "fewest", "()I"⟩
abbrev cX4_layAll : ByteArray := prog_6_method_39_code
def yX4_layAll : MethodName := ⟨RX4, "layAll", "(I)I"⟩
abbrev cX4_lay : ByteArray := prog_6_method_40_code
def yX4_lay : MethodName := ⟨RX4, "lay", "()I"⟩
abbrev cX4_page : ByteArray := prog_6_method_41_code
def yX4_page : MethodName := ⟨RX4, "page", "(I)I"⟩
abbrev cX4_pointsOf : ByteArray := prog_6_method_42_code
def yX4_pointsOf : MethodName := ⟨RX4, "pointsOf", "(I)I"⟩
abbrev cX4_left : ByteArray := prog_6_method_43_code
def yX4_left : MethodName := ⟨RX4, "left", "(I)I"⟩
abbrev cX4_on : ByteArray := prog_6_method_44_code
def yX4_on : MethodName := ⟨RX4, "on", "(I)I"⟩
abbrev cX4_late : ByteArray := prog_6_method_45_code
def yX4_late : MethodName := ⟨RX4, "late", "(I)I"⟩
abbrev cX4_drop : ByteArray := prog_6_method_46_code
def yX4_drop : MethodName := ⟨RX4, "drop", "(I)Z"⟩
def RJx8e188 : String := "java/lang/Cloneable"
def TJx8e188 : u_T := fun k => match k with
  | _ => ("", "", "", false)
def tyJx8e188 : Nat → FieldType := fun k => match k with
  | _ => .int
abbrev wsJx8e1880 : List Cond := u_ws RJx8e188 TJx8e188 0
theorem nmJx8e188 : ∀ a, a < 0 → ∀ b, b < 0 → a ≠ b → (TJx8e188 a).2.1 ≠ (TJx8e188 b).2.1 := by decide +kernel
theorem tyJx8e188_ok : ∀ k, k < 0 → parseFieldDescriptor (TJx8e188 k).2.2.1 = some (tyJx8e188 k) := by decide +kernel
def RJ6 : String := "java/lang/Integer"
def TJ6 : u_T := fun k => match k with
  | _ => ("", "", "", false)
def tyJ6 : Nat → FieldType := fun k => match k with
  | _ => .int
abbrev wsJ60 : List Cond := u_ws RJ6 TJ6 0
theorem nmJ6 : ∀ a, a < 0 → ∀ b, b < 0 → a ≠ b → (TJ6 a).2.1 ≠ (TJ6 b).2.1 := by decide +kernel
theorem tyJ6_ok : ∀ k, k < 0 → parseFieldDescriptor (TJ6 k).2.2.1 = some (tyJ6 k) := by decide +kernel
abbrev cJ6_bitCount_0f7a4 : ByteArray := prog_9_method_49_code
def yJ6_bitCount_0f7a4 : MethodName := ⟨RJ6, "bitCount", "(I)I"⟩
def RJ9 : String := "java/lang/Math"
def TJ9 : u_T := fun k => match k with
  | _ => ("", "", "", false)
def tyJ9 : Nat → FieldType := fun k => match k with
  | _ => .int
abbrev wsJ90 : List Cond := u_ws RJ9 TJ9 0
theorem nmJ9 : ∀ a, a < 0 → ∀ b, b < 0 → a ≠ b → (TJ9 a).2.1 ≠ (TJ9 b).2.1 := by decide +kernel
theorem tyJ9_ok : ∀ k, k < 0 → parseFieldDescriptor (TJ9 k).2.2.1 = some (tyJ9 k) := by decide +kernel
abbrev cJ9_max_7cf53 : ByteArray := prog_10_method_65_code
def yJ9_max_7cf53 : MethodName := ⟨RJ9, "max", "(II)I"⟩
abbrev cJ9_min_7cf53 : ByteArray := prog_10_method_69_code
def yJ9_min_7cf53 : MethodName := ⟨RJ9, "min", "(II)I"⟩
def RJ0 : String := "java/lang/String"
def TJ0 : u_T := fun k => match k with
  | _ => ("", "", "", false)
def tyJ0 : Nat → FieldType := fun k => match k with
  | _ => .int
abbrev wsJ00 : List Cond := u_ws RJ0 TJ0 0
theorem nmJ0 : ∀ a, a < 0 → ∀ b, b < 0 → a ≠ b → (TJ0 a).2.1 ≠ (TJ0 b).2.1 := by decide +kernel
theorem tyJ0_ok : ∀ k, k < 0 → parseFieldDescriptor (TJ0 k).2.2.1 = some (tyJ0 k) := by decide +kernel
def RJ10 : String := "java/lang/System"
def TJ10 : u_T := fun k => match k with
  | _ => ("", "", "", false)
def tyJ10 : Nat → FieldType := fun k => match k with
  | _ => .int
abbrev wsJ100 : List Cond := u_ws RJ10 TJ10 0
theorem nmJ10 : ∀ a, a < 0 → ∀ b, b < 0 → a ≠ b → (TJ10 a).2.1 ≠ (TJ10 b).2.1 := by decide +kernel
theorem tyJ10_ok : ∀ k, k < 0 → parseFieldDescriptor (TJ10 k).2.2.1 = some (tyJ10 k) := by decide +kernel
def RJ7 : String := "java/util/Arrays"
def TJ7 : u_T := fun k => match k with
  | _ => ("", "", "", false)
def tyJ7 : Nat → FieldType := fun k => match k with
  | _ => .int
abbrev wsJ70 : List Cond := u_ws RJ7 TJ7 0
theorem nmJ7 : ∀ a, a < 0 → ∀ b, b < 0 → a ≠ b → (TJ7 a).2.1 ≠ (TJ7 b).2.1 := by decide +kernel
theorem tyJ7_ok : ∀ k, k < 0 → parseFieldDescriptor (TJ7 k).2.2.1 = some (tyJ7 k) := by decide +kernel
abbrev cJ7_copyOf_59c91 : ByteArray := prog_15_method_123_code
def yJ7_copyOf_59c91 : MethodName := ⟨RJ7, "copyOf", "([II)[I"⟩
def RL : String := "YearBookLaw"
abbrev cL_told : ByteArray := method_3_code
def yL_told : MethodName := ⟨RL, "told", "(LYearBook;II[J)I"⟩
abbrev cL_law : ByteArray := code
def yL_law : MethodName := ⟨RL, "law", "([I)Z"⟩
def wsX0_init : List Cond := .code yX0_init cX0_init 1 none :: ([.methodLink RX0 3 objectInit, .instanceMethod objectInit, .code objectInit ⟨#[0xb1]⟩ 1 none, .arrayClass .int, .fieldLink RX0 9 "YearBook$Chooser" "bits" "[I", .arrayClass .long, .fieldLink RX0 15 "YearBook$Chooser" "shown" "[J", .fieldLink RX0 19 "YearBook$Chooser" "marks" "[J", .fieldLink RX0 22 "YearBook$Chooser" "shownFrom" "[J", .fieldLink RX0 25 "YearBook$Chooser" "wishedShownFrom" "[J", .fieldLink RX0 28 "YearBook$Chooser" "wishedBitsFrom" "[I", .fieldLink RX0 31 "YearBook$Chooser" "wishedMarksFrom" "[J"] ++ wsX00)
def wsX0_begin : List Cond := .code yX0_begin cX0_begin 3 none :: ([.fieldLink RX0 34 "YearBook$Chooser" "low" "I", .fieldLink RX0 38 "YearBook$Chooser" "high" "I", .fieldLink RX0 41 "YearBook$Chooser" "size" "I", .constantLong RX0 44 (-1), .fieldLink RX0 46 "YearBook$Chooser" "notCounted" "J"] ++ wsX00)
def wsX0_inFours : List Cond := .code yX0_inFours cX0_inFours 4 (some .long) :: ([])
def wsX0_offer : List Cond := .code yX0_offer cX0_offer 5 none :: ([.fieldLink RX0 41 "YearBook$Chooser" "size" "I", .fieldLink RX0 9 "YearBook$Chooser" "bits" "[I", .fieldLink RX0 15 "YearBook$Chooser" "shown" "[J", .fieldLink RX0 19 "YearBook$Chooser" "marks" "[J", .fieldLink RX0 46 "YearBook$Chooser" "notCounted" "J", .constantLong RX0 54 (15), .constantLong RX0 44 (-1), .methodLink RX0 50 yX0_inFours, .static yX0_inFours, .initialized RX0, .code yX0_inFours cX0_inFours 4 (some .long)] ++ wsX00)
def wsX0_sumUp : List Cond := .code yX0_sumUp cX0_sumUp 3 none :: ([.fieldLink RX0 22 "YearBook$Chooser" "shownFrom" "[J", .fieldLink RX0 41 "YearBook$Chooser" "size" "I", .fieldLink RX0 25 "YearBook$Chooser" "wishedShownFrom" "[J", .fieldLink RX0 28 "YearBook$Chooser" "wishedBitsFrom" "[I", .fieldLink RX0 31 "YearBook$Chooser" "wishedMarksFrom" "[J", .fieldLink RX0 19 "YearBook$Chooser" "marks" "[J", .fieldLink RX0 15 "YearBook$Chooser" "shown" "[J", .fieldLink RX0 9 "YearBook$Chooser" "bits" "[I"] ++ wsX00)
def wsX0_someAbove : List Cond := .code yX0_someAbove cX0_someAbove 9 (some .boolean) :: ([.fieldLink RX0 38 "YearBook$Chooser" "high" "I", .constantLong RX0 85 (72340172838076673), .constantLong RX0 87 (1085102592571150095), .constantLong RX0 89 (-9187201950435737472)] ++ wsX00)
def wsX0_someBelow : List Cond := .code yX0_someBelow cX0_someBelow 11 (some .boolean) :: ([.fieldLink RX0 46 "YearBook$Chooser" "notCounted" "J", .fieldLink RX0 34 "YearBook$Chooser" "low" "I", .constantLong RX0 85 (72340172838076673), .constantLong RX0 87 (1085102592571150095), .constantLong RX0 89 (-9187201950435737472)] ++ wsX00)
def wsX0_isLost : List Cond := .code yX0_isLost cX0_isLost 4 (some .boolean) :: ([.fieldLink RX0 22 "YearBook$Chooser" "shownFrom" "[J", .methodLink RX0 75 yX0_someAbove, .instanceMethod yX0_someAbove, .selects RX0 yX0_someAbove yX0_someAbove, .initialized RX0, .code yX0_someAbove cX0_someAbove 9 (some .boolean), .fieldLink RX0 38 "YearBook$Chooser" "high" "I", .constantLong RX0 85 (72340172838076673), .constantLong RX0 87 (1085102592571150095), .constantLong RX0 89 (-9187201950435737472), .methodLink RX0 79 yX0_someBelow, .instanceMethod yX0_someBelow, .selects RX0 yX0_someBelow yX0_someBelow, .code yX0_someBelow cX0_someBelow 11 (some .boolean), .fieldLink RX0 46 "YearBook$Chooser" "notCounted" "J", .fieldLink RX0 34 "YearBook$Chooser" "low" "I"] ++ wsX00)
def wsX0_searchFrom_r1 : List Cond := [Cond.fieldLink RX0 41 "YearBook$Chooser" "size" "I", Cond.fieldLink RX0 56 "YearBook$Chooser" "found" "Z", Cond.fieldLink RX0 31 "YearBook$Chooser" "wishedMarksFrom" "[J", Cond.fieldLink RX0 68 "YearBook$Chooser" "bestMark" "J", Cond.fieldLink RX0 25 "YearBook$Chooser" "wishedShownFrom" "[J", Cond.fieldLink RX0 28 "YearBook$Chooser" "wishedBitsFrom" "[I", Cond.fieldLink RX0 82 "YearBook$Chooser" "bestSet" "I", Cond.fieldLink RX0 19 "YearBook$Chooser" "marks" "[J", Cond.fieldLink RX0 9 "YearBook$Chooser" "bits" "[I", Cond.fieldLink RX0 15 "YearBook$Chooser" "shown" "[J", Cond.methodLink RX0 71 yX0_isLost, Cond.instanceMethod yX0_isLost, Cond.selects RX0 yX0_isLost yX0_isLost, Cond.initialized RX0, Cond.code yX0_isLost cX0_isLost 4 (some .boolean), Cond.fieldLink RX0 22 "YearBook$Chooser" "shownFrom" "[J", Cond.methodLink RX0 75 yX0_someAbove, Cond.instanceMethod yX0_someAbove, Cond.selects RX0 yX0_someAbove yX0_someAbove, Cond.code yX0_someAbove cX0_someAbove 9 (some .boolean), Cond.fieldLink RX0 38 "YearBook$Chooser" "high" "I", Cond.constantLong RX0 85 (72340172838076673), Cond.constantLong RX0 87 (1085102592571150095), Cond.constantLong RX0 89 (-9187201950435737472)]
def wsX0_searchFrom_r2 : List Cond := [Cond.methodLink RX0 79 yX0_someBelow, Cond.instanceMethod yX0_someBelow, Cond.selects RX0 yX0_someBelow yX0_someBelow, Cond.code yX0_someBelow cX0_someBelow 11 (some .boolean), Cond.fieldLink RX0 46 "YearBook$Chooser" "notCounted" "J", Cond.fieldLink RX0 34 "YearBook$Chooser" "low" "I", Cond.methodLink RX0 60 yX0_searchFrom, Cond.instanceMethod yX0_searchFrom, Cond.selects RX0 yX0_searchFrom yX0_searchFrom]
def wsX0_searchFrom : List Cond := .code yX0_searchFrom cX0_searchFrom 10 none :: ((wsX0_searchFrom_r1 ++ wsX0_searchFrom_r2) ++ wsX00)
def wsX0_findBest_r1 : List Cond := [Cond.fieldLink RX0 56 "YearBook$Chooser" "found" "Z", Cond.methodLink RX0 60 yX0_searchFrom, Cond.instanceMethod yX0_searchFrom, Cond.selects RX0 yX0_searchFrom yX0_searchFrom, Cond.initialized RX0, Cond.code yX0_searchFrom cX0_searchFrom 10 none, Cond.fieldLink RX0 41 "YearBook$Chooser" "size" "I", Cond.fieldLink RX0 31 "YearBook$Chooser" "wishedMarksFrom" "[J", Cond.fieldLink RX0 68 "YearBook$Chooser" "bestMark" "J", Cond.fieldLink RX0 25 "YearBook$Chooser" "wishedShownFrom" "[J", Cond.fieldLink RX0 28 "YearBook$Chooser" "wishedBitsFrom" "[I", Cond.fieldLink RX0 82 "YearBook$Chooser" "bestSet" "I", Cond.fieldLink RX0 19 "YearBook$Chooser" "marks" "[J", Cond.fieldLink RX0 9 "YearBook$Chooser" "bits" "[I", Cond.fieldLink RX0 15 "YearBook$Chooser" "shown" "[J", Cond.methodLink RX0 71 yX0_isLost, Cond.instanceMethod yX0_isLost, Cond.selects RX0 yX0_isLost yX0_isLost, Cond.code yX0_isLost cX0_isLost 4 (some .boolean), Cond.fieldLink RX0 22 "YearBook$Chooser" "shownFrom" "[J", Cond.methodLink RX0 75 yX0_someAbove, Cond.instanceMethod yX0_someAbove, Cond.selects RX0 yX0_someAbove yX0_someAbove, Cond.code yX0_someAbove cX0_someAbove 9 (some .boolean)]
def wsX0_findBest_r2 : List Cond := [Cond.fieldLink RX0 38 "YearBook$Chooser" "high" "I", Cond.constantLong RX0 85 (72340172838076673), Cond.constantLong RX0 87 (1085102592571150095), Cond.constantLong RX0 89 (-9187201950435737472), Cond.methodLink RX0 79 yX0_someBelow, Cond.instanceMethod yX0_someBelow, Cond.selects RX0 yX0_someBelow yX0_someBelow, Cond.code yX0_someBelow cX0_someBelow 11 (some .boolean), Cond.fieldLink RX0 46 "YearBook$Chooser" "notCounted" "J", Cond.fieldLink RX0 34 "YearBook$Chooser" "low" "I"]
def wsX0_findBest : List Cond := .code yX0_findBest cX0_findBest 1 (some .boolean) :: ((wsX0_findBest_r1 ++ wsX0_findBest_r2) ++ wsX00)
def wsX0_fittingFrom_r1 : List Cond := [Cond.fieldLink RX0 41 "YearBook$Chooser" "size" "I", Cond.fieldLink RX0 22 "YearBook$Chooser" "shownFrom" "[J", Cond.fieldLink RX0 15 "YearBook$Chooser" "shown" "[J", Cond.methodLink RX0 71 yX0_isLost, Cond.instanceMethod yX0_isLost, Cond.selects RX0 yX0_isLost yX0_isLost, Cond.initialized RX0, Cond.code yX0_isLost cX0_isLost 4 (some .boolean), Cond.methodLink RX0 75 yX0_someAbove, Cond.instanceMethod yX0_someAbove, Cond.selects RX0 yX0_someAbove yX0_someAbove, Cond.code yX0_someAbove cX0_someAbove 9 (some .boolean), Cond.fieldLink RX0 38 "YearBook$Chooser" "high" "I", Cond.constantLong RX0 85 (72340172838076673), Cond.constantLong RX0 87 (1085102592571150095), Cond.constantLong RX0 89 (-9187201950435737472), Cond.methodLink RX0 79 yX0_someBelow, Cond.instanceMethod yX0_someBelow, Cond.selects RX0 yX0_someBelow yX0_someBelow, Cond.code yX0_someBelow cX0_someBelow 11 (some .boolean), Cond.fieldLink RX0 46 "YearBook$Chooser" "notCounted" "J", Cond.fieldLink RX0 34 "YearBook$Chooser" "low" "I", Cond.methodLink RX0 64 yX0_fittingFrom, Cond.instanceMethod yX0_fittingFrom]
def wsX0_fittingFrom_r2 : List Cond := [Cond.selects RX0 yX0_fittingFrom yX0_fittingFrom]
def wsX0_fittingFrom : List Cond := .code yX0_fittingFrom cX0_fittingFrom 4 (some .int) :: ((wsX0_fittingFrom_r1 ++ wsX0_fittingFrom_r2) ++ wsX00)
def wsX0_countFitting_r1 : List Cond := [Cond.methodLink RX0 64 yX0_fittingFrom, Cond.instanceMethod yX0_fittingFrom, Cond.selects RX0 yX0_fittingFrom yX0_fittingFrom, Cond.initialized RX0, Cond.code yX0_fittingFrom cX0_fittingFrom 4 (some .int), Cond.fieldLink RX0 41 "YearBook$Chooser" "size" "I", Cond.fieldLink RX0 22 "YearBook$Chooser" "shownFrom" "[J", Cond.fieldLink RX0 15 "YearBook$Chooser" "shown" "[J", Cond.methodLink RX0 71 yX0_isLost, Cond.instanceMethod yX0_isLost, Cond.selects RX0 yX0_isLost yX0_isLost, Cond.code yX0_isLost cX0_isLost 4 (some .boolean), Cond.methodLink RX0 75 yX0_someAbove, Cond.instanceMethod yX0_someAbove, Cond.selects RX0 yX0_someAbove yX0_someAbove, Cond.code yX0_someAbove cX0_someAbove 9 (some .boolean), Cond.fieldLink RX0 38 "YearBook$Chooser" "high" "I", Cond.constantLong RX0 85 (72340172838076673), Cond.constantLong RX0 87 (1085102592571150095), Cond.constantLong RX0 89 (-9187201950435737472), Cond.methodLink RX0 79 yX0_someBelow, Cond.instanceMethod yX0_someBelow, Cond.selects RX0 yX0_someBelow yX0_someBelow, Cond.code yX0_someBelow cX0_someBelow 11 (some .boolean)]
def wsX0_countFitting_r2 : List Cond := [Cond.fieldLink RX0 46 "YearBook$Chooser" "notCounted" "J", Cond.fieldLink RX0 34 "YearBook$Chooser" "low" "I"]
def wsX0_countFitting : List Cond := .code yX0_countFitting cX0_countFitting 1 (some .int) :: ((wsX0_countFitting_r1 ++ wsX0_countFitting_r2) ++ wsX00)
def wsX1_init : List Cond := .code yX1_init cX1_init 1 none :: ([.methodLink RX1 3 objectInit, .instanceMethod objectInit, .code objectInit ⟨#[0xb1]⟩ 1 none, .arrayClass .int, .fieldLink RX1 9 "YearBook$Pages" "sizes" "[I", .fieldLink RX1 15 "YearBook$Pages" "sets" "[I", .fieldLink RX1 18 "YearBook$Pages" "packed" "[I"] ++ wsX10)
def wsX1_hearOf : List Cond := .code yX1_hearOf cX1_hearOf 2 none :: ([.fieldLink RX1 21 "YearBook$Pages" "pictures" "I", .fieldLink RX1 9 "YearBook$Pages" "sizes" "[I"] ++ wsX10)
def wsX1_clear : List Cond := .code yX1_clear cX1_clear 1 none :: ([.fieldLink RX1 25 "YearBook$Pages" "count" "I"] ++ wsX10)
def wsX1_has : List Cond := .code yX1_has cX1_has 2 (some .boolean) :: ([.fieldLink RX1 25 "YearBook$Pages" "count" "I"] ++ wsX10)
def wsX1_pageOf : List Cond := .code yX1_pageOf cX1_pageOf 3 (some .int) :: ([.fieldLink RX1 25 "YearBook$Pages" "count" "I", .fieldLink RX1 15 "YearBook$Pages" "sets" "[I"] ++ wsX10)
def wsX1_pointsOf : List Cond := .code yX1_pointsOf cX1_pointsOf 4 (some .int) :: ([.fieldLink RX1 21 "YearBook$Pages" "pictures" "I", .fieldLink RX1 9 "YearBook$Pages" "sizes" "[I"] ++ wsX10)
def wsJ7_copyOf_59c91 : List Cond := .code yJ7_copyOf_59c91 cJ7_copyOf_59c91 3 (some (.array .int)) :: ([.methodLink RJ7 316 ⟨"[I", "clone", "()Ljava/lang/Object;"⟩, .sameMethod "[I" "java/lang/Object" "clone" "()Ljava/lang/Object;", .native ⟨"java/lang/Object", "clone", "()Ljava/lang/Object;"⟩, .instanceMethod ⟨"java/lang/Object", "clone", "()Ljava/lang/Object;"⟩, .selects "[I" ⟨"[I", "clone", "()Ljava/lang/Object;"⟩ ⟨"java/lang/Object", "clone", "()Ljava/lang/Object;"⟩, .classLink RJ7 317 "[I", .arrayClass .int, .methodLink RJ7 304 Lib.Math.min.name, .static Lib.Math.min.name, .initialized "java/lang/Math", .code Lib.Math.min.name Lib.Math.min.code 2 (some .int), .methodLink RJ7 150 arraycopyName, .native arraycopyName, .static arraycopyName, .initialized "java/lang/System"])
def wsX1_withOneMore : List Cond := .code yX1_withOneMore cX1_withOneMore 3 (some .int) :: ([])
def wsX1_learnSetsWith_r1 : List Cond := [Cond.fieldLink RX1 18 "YearBook$Pages" "packed" "[I", Cond.fieldLink RX1 9 "YearBook$Pages" "sizes" "[I", Cond.methodLink RX1 45 Lib.Math.min.name, Cond.static Lib.Math.min.name, Cond.initialized "java/lang/Math", Cond.code Lib.Math.min.name Lib.Math.min.code 2 (some .int), Cond.fieldLink RX1 28 "YearBook$Pages" "learnt" "I", Cond.methodLink RX1 35 yJ7_copyOf_59c91, Cond.static yJ7_copyOf_59c91, Cond.initialized RJ7, Cond.code yJ7_copyOf_59c91 cJ7_copyOf_59c91 3 (some (.array .int)), Cond.methodLink RJ7 316 ⟨"[I", "clone", "()Ljava/lang/Object;"⟩, Cond.sameMethod "[I" "java/lang/Object" "clone" "()Ljava/lang/Object;", Cond.native ⟨"java/lang/Object", "clone", "()Ljava/lang/Object;"⟩, Cond.instanceMethod ⟨"java/lang/Object", "clone", "()Ljava/lang/Object;"⟩, Cond.selects "[I" ⟨"[I", "clone", "()Ljava/lang/Object;"⟩ ⟨"java/lang/Object", "clone", "()Ljava/lang/Object;"⟩, Cond.classLink RJ7 317 "[I", Cond.arrayClass .int, Cond.methodLink RJ7 304 Lib.Math.min.name, Cond.methodLink RJ7 150 arraycopyName, Cond.native arraycopyName, Cond.static arraycopyName, Cond.initialized "java/lang/System", Cond.methodLink RX1 41 yX1_withOneMore]
def wsX1_learnSetsWith_r2 : List Cond := [Cond.static yX1_withOneMore, Cond.initialized RX1, Cond.code yX1_withOneMore cX1_withOneMore 3 (some .int)]
def wsX1_learnSetsWith : List Cond := .code yX1_learnSetsWith cX1_learnSetsWith 6 none :: ((wsX1_learnSetsWith_r1 ++ wsX1_learnSetsWith_r2) ++ wsX10)
def wsX1_pagesFor_r1 : List Cond := [Cond.fieldLink RX1 28 "YearBook$Pages" "learnt" "I", Cond.fieldLink RX1 21 "YearBook$Pages" "pictures" "I", Cond.fieldLink RX1 18 "YearBook$Pages" "packed" "[I", Cond.methodLink RX1 31 yX1_learnSetsWith, Cond.instanceMethod yX1_learnSetsWith, Cond.selects RX1 yX1_learnSetsWith yX1_learnSetsWith, Cond.initialized RX1, Cond.code yX1_learnSetsWith cX1_learnSetsWith 6 none, Cond.fieldLink RX1 9 "YearBook$Pages" "sizes" "[I", Cond.methodLink RX1 45 Lib.Math.min.name, Cond.static Lib.Math.min.name, Cond.initialized "java/lang/Math", Cond.code Lib.Math.min.name Lib.Math.min.code 2 (some .int), Cond.methodLink RX1 35 yJ7_copyOf_59c91, Cond.static yJ7_copyOf_59c91, Cond.initialized RJ7, Cond.code yJ7_copyOf_59c91 cJ7_copyOf_59c91 3 (some (.array .int)), Cond.methodLink RJ7 316 ⟨"[I", "clone", "()Ljava/lang/Object;"⟩, Cond.sameMethod "[I" "java/lang/Object" "clone" "()Ljava/lang/Object;", Cond.native ⟨"java/lang/Object", "clone", "()Ljava/lang/Object;"⟩, Cond.instanceMethod ⟨"java/lang/Object", "clone", "()Ljava/lang/Object;"⟩, Cond.selects "[I" ⟨"[I", "clone", "()Ljava/lang/Object;"⟩ ⟨"java/lang/Object", "clone", "()Ljava/lang/Object;"⟩, Cond.classLink RJ7 317 "[I", Cond.arrayClass .int]
def wsX1_pagesFor_r2 : List Cond := [Cond.methodLink RJ7 304 Lib.Math.min.name, Cond.methodLink RJ7 150 arraycopyName, Cond.native arraycopyName, Cond.static arraycopyName, Cond.initialized "java/lang/System", Cond.methodLink RX1 41 yX1_withOneMore, Cond.static yX1_withOneMore, Cond.code yX1_withOneMore cX1_withOneMore 3 (some .int)]
def wsX1_pagesFor : List Cond := .code yX1_pagesFor cX1_pagesFor 3 (some .int) :: ((wsX1_pagesFor_r1 ++ wsX1_pagesFor_r2) ++ wsX10)
def wsX1_fillPage_r1 : List Cond := [Cond.fieldLink RX1 70 "YearBook$Pages" "fullestPoints" "I", Cond.fieldLink RX1 67 "YearBook$Pages" "fullest" "I", Cond.fieldLink RX1 61 "YearBook$Pages" "waiting" "I", Cond.fieldLink RX1 64 "YearBook$Pages" "pagesForRest" "I", Cond.fieldLink RX1 21 "YearBook$Pages" "pictures" "I", Cond.fieldLink RX1 9 "YearBook$Pages" "sizes" "[I", Cond.methodLink RX1 50 yX1_pagesFor, Cond.instanceMethod yX1_pagesFor, Cond.selects RX1 yX1_pagesFor yX1_pagesFor, Cond.initialized RX1, Cond.code yX1_pagesFor cX1_pagesFor 3 (some .int), Cond.fieldLink RX1 28 "YearBook$Pages" "learnt" "I", Cond.fieldLink RX1 18 "YearBook$Pages" "packed" "[I", Cond.methodLink RX1 31 yX1_learnSetsWith, Cond.instanceMethod yX1_learnSetsWith, Cond.selects RX1 yX1_learnSetsWith yX1_learnSetsWith, Cond.code yX1_learnSetsWith cX1_learnSetsWith 6 none, Cond.methodLink RX1 45 Lib.Math.min.name, Cond.static Lib.Math.min.name, Cond.initialized "java/lang/Math", Cond.code Lib.Math.min.name Lib.Math.min.code 2 (some .int), Cond.methodLink RX1 35 yJ7_copyOf_59c91, Cond.static yJ7_copyOf_59c91, Cond.initialized RJ7]
def wsX1_fillPage_r2 : List Cond := [Cond.code yJ7_copyOf_59c91 cJ7_copyOf_59c91 3 (some (.array .int)), Cond.methodLink RJ7 316 ⟨"[I", "clone", "()Ljava/lang/Object;"⟩, Cond.sameMethod "[I" "java/lang/Object" "clone" "()Ljava/lang/Object;", Cond.native ⟨"java/lang/Object", "clone", "()Ljava/lang/Object;"⟩, Cond.instanceMethod ⟨"java/lang/Object", "clone", "()Ljava/lang/Object;"⟩, Cond.selects "[I" ⟨"[I", "clone", "()Ljava/lang/Object;"⟩ ⟨"java/lang/Object", "clone", "()Ljava/lang/Object;"⟩, Cond.classLink RJ7 317 "[I", Cond.arrayClass .int, Cond.methodLink RJ7 304 Lib.Math.min.name, Cond.methodLink RJ7 150 arraycopyName, Cond.native arraycopyName, Cond.static arraycopyName, Cond.initialized "java/lang/System", Cond.methodLink RX1 41 yX1_withOneMore, Cond.static yX1_withOneMore, Cond.code yX1_withOneMore cX1_withOneMore 3 (some .int), Cond.methodLink RX1 73 yX1_fillPage, Cond.instanceMethod yX1_fillPage, Cond.selects RX1 yX1_fillPage yX1_fillPage]
def wsX1_fillPage : List Cond := .code yX1_fillPage cX1_fillPage 6 none :: ((wsX1_fillPage_r1 ++ wsX1_fillPage_r2) ++ wsX10)
def wsX1_nextPage_r1 : List Cond := [Cond.fieldLink RX1 61 "YearBook$Pages" "waiting" "I", Cond.fieldLink RX1 64 "YearBook$Pages" "pagesForRest" "I", Cond.fieldLink RX1 67 "YearBook$Pages" "fullest" "I", Cond.fieldLink RX1 70 "YearBook$Pages" "fullestPoints" "I", Cond.fieldLink RX1 21 "YearBook$Pages" "pictures" "I", Cond.fieldLink RX1 9 "YearBook$Pages" "sizes" "[I", Cond.methodLink RX1 50 yX1_pagesFor, Cond.instanceMethod yX1_pagesFor, Cond.selects RX1 yX1_pagesFor yX1_pagesFor, Cond.initialized RX1, Cond.code yX1_pagesFor cX1_pagesFor 3 (some .int), Cond.fieldLink RX1 28 "YearBook$Pages" "learnt" "I", Cond.fieldLink RX1 18 "YearBook$Pages" "packed" "[I", Cond.methodLink RX1 31 yX1_learnSetsWith, Cond.instanceMethod yX1_learnSetsWith, Cond.selects RX1 yX1_learnSetsWith yX1_learnSetsWith, Cond.code yX1_learnSetsWith cX1_learnSetsWith 6 none, Cond.methodLink RX1 45 Lib.Math.min.name, Cond.static Lib.Math.min.name, Cond.initialized "java/lang/Math", Cond.code Lib.Math.min.name Lib.Math.min.code 2 (some .int), Cond.methodLink RX1 35 yJ7_copyOf_59c91, Cond.static yJ7_copyOf_59c91, Cond.initialized RJ7]
def wsX1_nextPage_r2 : List Cond := [Cond.code yJ7_copyOf_59c91 cJ7_copyOf_59c91 3 (some (.array .int)), Cond.methodLink RJ7 316 ⟨"[I", "clone", "()Ljava/lang/Object;"⟩, Cond.sameMethod "[I" "java/lang/Object" "clone" "()Ljava/lang/Object;", Cond.native ⟨"java/lang/Object", "clone", "()Ljava/lang/Object;"⟩, Cond.instanceMethod ⟨"java/lang/Object", "clone", "()Ljava/lang/Object;"⟩, Cond.selects "[I" ⟨"[I", "clone", "()Ljava/lang/Object;"⟩ ⟨"java/lang/Object", "clone", "()Ljava/lang/Object;"⟩, Cond.classLink RJ7 317 "[I", Cond.arrayClass .int, Cond.methodLink RJ7 304 Lib.Math.min.name, Cond.methodLink RJ7 150 arraycopyName, Cond.native arraycopyName, Cond.static arraycopyName, Cond.initialized "java/lang/System", Cond.methodLink RX1 41 yX1_withOneMore, Cond.static yX1_withOneMore, Cond.code yX1_withOneMore cX1_withOneMore 3 (some .int), Cond.methodLink RX1 73 yX1_fillPage, Cond.instanceMethod yX1_fillPage, Cond.selects RX1 yX1_fillPage yX1_fillPage, Cond.code yX1_fillPage cX1_fillPage 6 none]
def wsX1_nextPage : List Cond := .code yX1_nextPage cX1_nextPage 3 (some .int) :: ((wsX1_nextPage_r1 ++ wsX1_nextPage_r2) ++ wsX10)
def wsX1_layOnto_r1 : List Cond := [Cond.fieldLink RX1 25 "YearBook$Pages" "count" "I", Cond.fieldLink RX1 15 "YearBook$Pages" "sets" "[I", Cond.methodLink RX1 58 yX1_nextPage, Cond.instanceMethod yX1_nextPage, Cond.selects RX1 yX1_nextPage yX1_nextPage, Cond.initialized RX1, Cond.code yX1_nextPage cX1_nextPage 3 (some .int), Cond.fieldLink RX1 61 "YearBook$Pages" "waiting" "I", Cond.fieldLink RX1 64 "YearBook$Pages" "pagesForRest" "I", Cond.fieldLink RX1 67 "YearBook$Pages" "fullest" "I", Cond.fieldLink RX1 70 "YearBook$Pages" "fullestPoints" "I", Cond.fieldLink RX1 21 "YearBook$Pages" "pictures" "I", Cond.fieldLink RX1 9 "YearBook$Pages" "sizes" "[I", Cond.methodLink RX1 50 yX1_pagesFor, Cond.instanceMethod yX1_pagesFor, Cond.selects RX1 yX1_pagesFor yX1_pagesFor, Cond.code yX1_pagesFor cX1_pagesFor 3 (some .int), Cond.fieldLink RX1 28 "YearBook$Pages" "learnt" "I", Cond.fieldLink RX1 18 "YearBook$Pages" "packed" "[I", Cond.methodLink RX1 31 yX1_learnSetsWith, Cond.instanceMethod yX1_learnSetsWith, Cond.selects RX1 yX1_learnSetsWith yX1_learnSetsWith, Cond.code yX1_learnSetsWith cX1_learnSetsWith 6 none, Cond.methodLink RX1 45 Lib.Math.min.name]
def wsX1_layOnto_r2 : List Cond := [Cond.static Lib.Math.min.name, Cond.initialized "java/lang/Math", Cond.code Lib.Math.min.name Lib.Math.min.code 2 (some .int), Cond.methodLink RX1 35 yJ7_copyOf_59c91, Cond.static yJ7_copyOf_59c91, Cond.initialized RJ7, Cond.code yJ7_copyOf_59c91 cJ7_copyOf_59c91 3 (some (.array .int)), Cond.methodLink RJ7 316 ⟨"[I", "clone", "()Ljava/lang/Object;"⟩, Cond.sameMethod "[I" "java/lang/Object" "clone" "()Ljava/lang/Object;", Cond.native ⟨"java/lang/Object", "clone", "()Ljava/lang/Object;"⟩, Cond.instanceMethod ⟨"java/lang/Object", "clone", "()Ljava/lang/Object;"⟩, Cond.selects "[I" ⟨"[I", "clone", "()Ljava/lang/Object;"⟩ ⟨"java/lang/Object", "clone", "()Ljava/lang/Object;"⟩, Cond.classLink RJ7 317 "[I", Cond.arrayClass .int, Cond.methodLink RJ7 304 Lib.Math.min.name, Cond.methodLink RJ7 150 arraycopyName, Cond.native arraycopyName, Cond.static arraycopyName, Cond.initialized "java/lang/System", Cond.methodLink RX1 41 yX1_withOneMore, Cond.static yX1_withOneMore, Cond.code yX1_withOneMore cX1_withOneMore 3 (some .int), Cond.methodLink RX1 73 yX1_fillPage, Cond.instanceMethod yX1_fillPage]
def wsX1_layOnto_r3 : List Cond := [Cond.selects RX1 yX1_fillPage yX1_fillPage, Cond.code yX1_fillPage cX1_fillPage 6 none]
def wsX1_layOnto : List Cond := .code yX1_layOnto cX1_layOnto 5 none :: ((wsX1_layOnto_r1 ++ (wsX1_layOnto_r2 ++ wsX1_layOnto_r3)) ++ wsX10)
def wsX1_layOut_r1 : List Cond := [Cond.fieldLink RX1 25 "YearBook$Pages" "count" "I", Cond.methodLink RX1 50 yX1_pagesFor, Cond.instanceMethod yX1_pagesFor, Cond.selects RX1 yX1_pagesFor yX1_pagesFor, Cond.initialized RX1, Cond.code yX1_pagesFor cX1_pagesFor 3 (some .int), Cond.fieldLink RX1 28 "YearBook$Pages" "learnt" "I", Cond.fieldLink RX1 21 "YearBook$Pages" "pictures" "I", Cond.fieldLink RX1 18 "YearBook$Pages" "packed" "[I", Cond.methodLink RX1 31 yX1_learnSetsWith, Cond.instanceMethod yX1_learnSetsWith, Cond.selects RX1 yX1_learnSetsWith yX1_learnSetsWith, Cond.code yX1_learnSetsWith cX1_learnSetsWith 6 none, Cond.fieldLink RX1 9 "YearBook$Pages" "sizes" "[I", Cond.methodLink RX1 45 Lib.Math.min.name, Cond.static Lib.Math.min.name, Cond.initialized "java/lang/Math", Cond.code Lib.Math.min.name Lib.Math.min.code 2 (some .int), Cond.methodLink RX1 35 yJ7_copyOf_59c91, Cond.static yJ7_copyOf_59c91, Cond.initialized RJ7, Cond.code yJ7_copyOf_59c91 cJ7_copyOf_59c91 3 (some (.array .int)), Cond.methodLink RJ7 316 ⟨"[I", "clone", "()Ljava/lang/Object;"⟩, Cond.sameMethod "[I" "java/lang/Object" "clone" "()Ljava/lang/Object;"]
def wsX1_layOut_r2 : List Cond := [Cond.native ⟨"java/lang/Object", "clone", "()Ljava/lang/Object;"⟩, Cond.instanceMethod ⟨"java/lang/Object", "clone", "()Ljava/lang/Object;"⟩, Cond.selects "[I" ⟨"[I", "clone", "()Ljava/lang/Object;"⟩ ⟨"java/lang/Object", "clone", "()Ljava/lang/Object;"⟩, Cond.classLink RJ7 317 "[I", Cond.arrayClass .int, Cond.methodLink RJ7 304 Lib.Math.min.name, Cond.methodLink RJ7 150 arraycopyName, Cond.native arraycopyName, Cond.static arraycopyName, Cond.initialized "java/lang/System", Cond.methodLink RX1 41 yX1_withOneMore, Cond.static yX1_withOneMore, Cond.code yX1_withOneMore cX1_withOneMore 3 (some .int), Cond.methodLink RX1 54 yX1_layOnto, Cond.instanceMethod yX1_layOnto, Cond.selects RX1 yX1_layOnto yX1_layOnto, Cond.code yX1_layOnto cX1_layOnto 5 none, Cond.fieldLink RX1 15 "YearBook$Pages" "sets" "[I", Cond.methodLink RX1 58 yX1_nextPage, Cond.instanceMethod yX1_nextPage, Cond.selects RX1 yX1_nextPage yX1_nextPage, Cond.code yX1_nextPage cX1_nextPage 3 (some .int), Cond.fieldLink RX1 61 "YearBook$Pages" "waiting" "I", Cond.fieldLink RX1 64 "YearBook$Pages" "pagesForRest" "I"]
def wsX1_layOut_r3 : List Cond := [Cond.fieldLink RX1 67 "YearBook$Pages" "fullest" "I", Cond.fieldLink RX1 70 "YearBook$Pages" "fullestPoints" "I", Cond.methodLink RX1 73 yX1_fillPage, Cond.instanceMethod yX1_fillPage, Cond.selects RX1 yX1_fillPage yX1_fillPage, Cond.code yX1_fillPage cX1_fillPage 6 none]
def wsX1_layOut : List Cond := .code yX1_layOut cX1_layOut 4 (some .int) :: ((wsX1_layOut_r1 ++ (wsX1_layOut_r2 ++ wsX1_layOut_r3)) ++ wsX10)
def wsX1_leastPages_r1 : List Cond := [Cond.fieldLink RX1 25 "YearBook$Pages" "count" "I", Cond.fieldLink RX1 15 "YearBook$Pages" "sets" "[I", Cond.methodLink RX1 50 yX1_pagesFor, Cond.instanceMethod yX1_pagesFor, Cond.selects RX1 yX1_pagesFor yX1_pagesFor, Cond.initialized RX1, Cond.code yX1_pagesFor cX1_pagesFor 3 (some .int), Cond.fieldLink RX1 28 "YearBook$Pages" "learnt" "I", Cond.fieldLink RX1 21 "YearBook$Pages" "pictures" "I", Cond.fieldLink RX1 18 "YearBook$Pages" "packed" "[I", Cond.methodLink RX1 31 yX1_learnSetsWith, Cond.instanceMethod yX1_learnSetsWith, Cond.selects RX1 yX1_learnSetsWith yX1_learnSetsWith, Cond.code yX1_learnSetsWith cX1_learnSetsWith 6 none, Cond.fieldLink RX1 9 "YearBook$Pages" "sizes" "[I", Cond.methodLink RX1 45 Lib.Math.min.name, Cond.static Lib.Math.min.name, Cond.initialized "java/lang/Math", Cond.code Lib.Math.min.name Lib.Math.min.code 2 (some .int), Cond.methodLink RX1 35 yJ7_copyOf_59c91, Cond.static yJ7_copyOf_59c91, Cond.initialized RJ7, Cond.code yJ7_copyOf_59c91 cJ7_copyOf_59c91 3 (some (.array .int)), Cond.methodLink RJ7 316 ⟨"[I", "clone", "()Ljava/lang/Object;"⟩]
def wsX1_leastPages_r2 : List Cond := [Cond.sameMethod "[I" "java/lang/Object" "clone" "()Ljava/lang/Object;", Cond.native ⟨"java/lang/Object", "clone", "()Ljava/lang/Object;"⟩, Cond.instanceMethod ⟨"java/lang/Object", "clone", "()Ljava/lang/Object;"⟩, Cond.selects "[I" ⟨"[I", "clone", "()Ljava/lang/Object;"⟩ ⟨"java/lang/Object", "clone", "()Ljava/lang/Object;"⟩, Cond.classLink RJ7 317 "[I", Cond.arrayClass .int, Cond.methodLink RJ7 304 Lib.Math.min.name, Cond.methodLink RJ7 150 arraycopyName, Cond.native arraycopyName, Cond.static arraycopyName, Cond.initialized "java/lang/System", Cond.methodLink RX1 41 yX1_withOneMore, Cond.static yX1_withOneMore, Cond.code yX1_withOneMore cX1_withOneMore 3 (some .int), Cond.methodLink RX1 88 yX1_leastPages, Cond.instanceMethod yX1_leastPages, Cond.selects RX1 yX1_leastPages yX1_leastPages]
def wsX1_leastPages : List Cond := .code yX1_leastPages cX1_leastPages 7 (some .int) :: ((wsX1_leastPages_r1 ++ wsX1_leastPages_r2) ++ wsX10)
def wsX1_pagesToChange_r1 : List Cond := [Cond.fieldLink RX1 25 "YearBook$Pages" "count" "I", Cond.fieldLink RX1 15 "YearBook$Pages" "sets" "[I", Cond.methodLink RX1 85 yX1_pointsOf, Cond.instanceMethod yX1_pointsOf, Cond.selects RX1 yX1_pointsOf yX1_pointsOf, Cond.initialized RX1, Cond.code yX1_pointsOf cX1_pointsOf 4 (some .int), Cond.fieldLink RX1 21 "YearBook$Pages" "pictures" "I", Cond.fieldLink RX1 9 "YearBook$Pages" "sizes" "[I", Cond.methodLink RX1 88 yX1_leastPages, Cond.instanceMethod yX1_leastPages, Cond.selects RX1 yX1_leastPages yX1_leastPages, Cond.code yX1_leastPages cX1_leastPages 7 (some .int), Cond.methodLink RX1 50 yX1_pagesFor, Cond.instanceMethod yX1_pagesFor, Cond.selects RX1 yX1_pagesFor yX1_pagesFor, Cond.code yX1_pagesFor cX1_pagesFor 3 (some .int), Cond.fieldLink RX1 28 "YearBook$Pages" "learnt" "I", Cond.fieldLink RX1 18 "YearBook$Pages" "packed" "[I", Cond.methodLink RX1 31 yX1_learnSetsWith, Cond.instanceMethod yX1_learnSetsWith, Cond.selects RX1 yX1_learnSetsWith yX1_learnSetsWith, Cond.code yX1_learnSetsWith cX1_learnSetsWith 6 none, Cond.methodLink RX1 45 Lib.Math.min.name]
def wsX1_pagesToChange_r2 : List Cond := [Cond.static Lib.Math.min.name, Cond.initialized "java/lang/Math", Cond.code Lib.Math.min.name Lib.Math.min.code 2 (some .int), Cond.methodLink RX1 35 yJ7_copyOf_59c91, Cond.static yJ7_copyOf_59c91, Cond.initialized RJ7, Cond.code yJ7_copyOf_59c91 cJ7_copyOf_59c91 3 (some (.array .int)), Cond.methodLink RJ7 316 ⟨"[I", "clone", "()Ljava/lang/Object;"⟩, Cond.sameMethod "[I" "java/lang/Object" "clone" "()Ljava/lang/Object;", Cond.native ⟨"java/lang/Object", "clone", "()Ljava/lang/Object;"⟩, Cond.instanceMethod ⟨"java/lang/Object", "clone", "()Ljava/lang/Object;"⟩, Cond.selects "[I" ⟨"[I", "clone", "()Ljava/lang/Object;"⟩ ⟨"java/lang/Object", "clone", "()Ljava/lang/Object;"⟩, Cond.classLink RJ7 317 "[I", Cond.arrayClass .int, Cond.methodLink RJ7 304 Lib.Math.min.name, Cond.methodLink RJ7 150 arraycopyName, Cond.native arraycopyName, Cond.static arraycopyName, Cond.initialized "java/lang/System", Cond.methodLink RX1 41 yX1_withOneMore, Cond.static yX1_withOneMore, Cond.code yX1_withOneMore cX1_withOneMore 3 (some .int)]
def wsX1_pagesToChange : List Cond := .code yX1_pagesToChange cX1_pagesToChange 5 (some .int) :: ((wsX1_pagesToChange_r1 ++ wsX1_pagesToChange_r2) ++ wsX10)
def wsJ6_bitCount_0f7a4 : List Cond := .code yJ6_bitCount_0f7a4 cJ6_bitCount_0f7a4 1 (some .int) :: ([.constant RJ6 265 (1431655765), .constant RJ6 266 (858993459), .constant RJ6 267 (252645135)])
def wsX1_bringIn_r1 : List Cond := [Cond.fieldLink RX1 25 "YearBook$Pages" "count" "I", Cond.fieldLink RX1 15 "YearBook$Pages" "sets" "[I", Cond.methodLink RX1 77 yX1_pagesToChange, Cond.instanceMethod yX1_pagesToChange, Cond.selects RX1 yX1_pagesToChange yX1_pagesToChange, Cond.initialized RX1, Cond.code yX1_pagesToChange cX1_pagesToChange 5 (some .int), Cond.methodLink RX1 85 yX1_pointsOf, Cond.instanceMethod yX1_pointsOf, Cond.selects RX1 yX1_pointsOf yX1_pointsOf, Cond.code yX1_pointsOf cX1_pointsOf 4 (some .int), Cond.fieldLink RX1 21 "YearBook$Pages" "pictures" "I", Cond.fieldLink RX1 9 "YearBook$Pages" "sizes" "[I", Cond.methodLink RX1 88 yX1_leastPages, Cond.instanceMethod yX1_leastPages, Cond.selects RX1 yX1_leastPages yX1_leastPages, Cond.code yX1_leastPages cX1_leastPages 7 (some .int), Cond.methodLink RX1 50 yX1_pagesFor, Cond.instanceMethod yX1_pagesFor, Cond.selects RX1 yX1_pagesFor yX1_pagesFor, Cond.code yX1_pagesFor cX1_pagesFor 3 (some .int), Cond.fieldLink RX1 28 "YearBook$Pages" "learnt" "I", Cond.fieldLink RX1 18 "YearBook$Pages" "packed" "[I", Cond.methodLink RX1 31 yX1_learnSetsWith]
def wsX1_bringIn_r2 : List Cond := [Cond.instanceMethod yX1_learnSetsWith, Cond.selects RX1 yX1_learnSetsWith yX1_learnSetsWith, Cond.code yX1_learnSetsWith cX1_learnSetsWith 6 none, Cond.methodLink RX1 45 Lib.Math.min.name, Cond.static Lib.Math.min.name, Cond.initialized "java/lang/Math", Cond.code Lib.Math.min.name Lib.Math.min.code 2 (some .int), Cond.methodLink RX1 35 yJ7_copyOf_59c91, Cond.static yJ7_copyOf_59c91, Cond.initialized RJ7, Cond.code yJ7_copyOf_59c91 cJ7_copyOf_59c91 3 (some (.array .int)), Cond.methodLink RJ7 316 ⟨"[I", "clone", "()Ljava/lang/Object;"⟩, Cond.sameMethod "[I" "java/lang/Object" "clone" "()Ljava/lang/Object;", Cond.native ⟨"java/lang/Object", "clone", "()Ljava/lang/Object;"⟩, Cond.instanceMethod ⟨"java/lang/Object", "clone", "()Ljava/lang/Object;"⟩, Cond.selects "[I" ⟨"[I", "clone", "()Ljava/lang/Object;"⟩ ⟨"java/lang/Object", "clone", "()Ljava/lang/Object;"⟩, Cond.classLink RJ7 317 "[I", Cond.arrayClass .int, Cond.methodLink RJ7 304 Lib.Math.min.name, Cond.methodLink RJ7 150 arraycopyName, Cond.native arraycopyName, Cond.static arraycopyName, Cond.initialized "java/lang/System", Cond.methodLink RX1 41 yX1_withOneMore]
def wsX1_bringIn_r3 : List Cond := [Cond.static yX1_withOneMore, Cond.code yX1_withOneMore cX1_withOneMore 3 (some .int), Cond.methodLink RX1 54 yX1_layOnto, Cond.instanceMethod yX1_layOnto, Cond.selects RX1 yX1_layOnto yX1_layOnto, Cond.code yX1_layOnto cX1_layOnto 5 none, Cond.methodLink RX1 58 yX1_nextPage, Cond.instanceMethod yX1_nextPage, Cond.selects RX1 yX1_nextPage yX1_nextPage, Cond.code yX1_nextPage cX1_nextPage 3 (some .int), Cond.fieldLink RX1 61 "YearBook$Pages" "waiting" "I", Cond.fieldLink RX1 64 "YearBook$Pages" "pagesForRest" "I", Cond.fieldLink RX1 67 "YearBook$Pages" "fullest" "I", Cond.fieldLink RX1 70 "YearBook$Pages" "fullestPoints" "I", Cond.methodLink RX1 73 yX1_fillPage, Cond.instanceMethod yX1_fillPage, Cond.selects RX1 yX1_fillPage yX1_fillPage, Cond.code yX1_fillPage cX1_fillPage 6 none, Cond.methodLink RX1 80 yJ6_bitCount_0f7a4, Cond.static yJ6_bitCount_0f7a4, Cond.initialized RJ6, Cond.code yJ6_bitCount_0f7a4 cJ6_bitCount_0f7a4 1 (some .int), Cond.constant RJ6 265 (1431655765), Cond.constant RJ6 266 (858993459)]
def wsX1_bringIn_r4 : List Cond := [Cond.constant RJ6 267 (252645135)]
def wsX1_bringIn : List Cond := .code yX1_bringIn cX1_bringIn 6 (some .int) :: ((wsX1_bringIn_r1 ++ (wsX1_bringIn_r2 ++ (wsX1_bringIn_r3 ++ wsX1_bringIn_r4))) ++ wsX10)
def wsX1_takeOut : List Cond := .code yX1_takeOut cX1_takeOut 3 (some .boolean) :: ([.fieldLink RX1 25 "YearBook$Pages" "count" "I", .fieldLink RX1 15 "YearBook$Pages" "sets" "[I", .methodLink RX1 92 yX1_pageOf, .instanceMethod yX1_pageOf, .selects RX1 yX1_pageOf yX1_pageOf, .initialized RX1, .code yX1_pageOf cX1_pageOf 3 (some .int)] ++ wsX10)
def wsX2_init : List Cond := .code yX2_init cX2_init 4 none :: ([.methodLink RX2 3 objectInit, .instanceMethod objectInit, .code objectInit ⟨#[0xb1]⟩ 1 none, .arrayClass .int, .fieldLink RX2 9 "YearBook$Picture" "who" "[I", .fieldLink RX2 15 "YearBook$Picture" "xs" "[I", .fieldLink RX2 18 "YearBook$Picture" "ys" "[I", .fieldLink RX2 21 "YearBook$Picture" "halves" "[I", .fieldLink RX2 24 "YearBook$Picture" "cut" "[I", .fieldLink RX2 27 "YearBook$Picture" "kind" "I", .fieldLink RX2 31 "YearBook$Picture" "worth" "I", .fieldLink RX2 34 "YearBook$Picture" "size" "I"] ++ wsX20)
def wsX2_canHold : List Cond := .code yX2_canHold cX2_canHold 3 (some .boolean) :: ([.fieldLink RX2 37 "YearBook$Picture" "faces" "I", .fieldLink RX2 9 "YearBook$Picture" "who" "[I"] ++ wsX20)
def wsX2_add : List Cond := .code yX2_add cX2_add 5 none :: ([.fieldLink RX2 37 "YearBook$Picture" "faces" "I", .fieldLink RX2 9 "YearBook$Picture" "who" "[I", .fieldLink RX2 15 "YearBook$Picture" "xs" "[I", .fieldLink RX2 18 "YearBook$Picture" "ys" "[I", .fieldLink RX2 21 "YearBook$Picture" "halves" "[I"] ++ wsX20)
def wsX2_frame : List Cond := .code yX2_frame cX2_frame 2 none :: ([.fieldLink RX2 24 "YearBook$Picture" "cut" "[I", .fieldLink RX2 37 "YearBook$Picture" "faces" "I", .fieldLink RX2 40 "YearBook$Picture" "allowed" "I", .fieldLink RX2 15 "YearBook$Picture" "xs" "[I", .fieldLink RX2 21 "YearBook$Picture" "halves" "[I", .methodLink RX2 53 Lib.Math.min.name, .static Lib.Math.min.name, .initialized "java/lang/Math", .code Lib.Math.min.name Lib.Math.min.code 2 (some .int), .fieldLink RX2 18 "YearBook$Picture" "ys" "[I", .methodLink RX2 59 Lib.Math.max.name, .static Lib.Math.max.name, .code Lib.Math.max.name Lib.Math.max.code 2 (some .int)] ++ wsX20)
def wsX2_anotherTouchesCut : List Cond := .code yX2_anotherTouchesCut cX2_anotherTouchesCut 2 (some .boolean) :: ([.fieldLink RX2 37 "YearBook$Picture" "faces" "I", .fieldLink RX2 40 "YearBook$Picture" "allowed" "I", .fieldLink RX2 15 "YearBook$Picture" "xs" "[I", .fieldLink RX2 21 "YearBook$Picture" "halves" "[I", .fieldLink RX2 24 "YearBook$Picture" "cut" "[I", .fieldLink RX2 18 "YearBook$Picture" "ys" "[I"] ++ wsX20)
def wsX2_look_r1 : List Cond := [Cond.fieldLink RX2 40 "YearBook$Picture" "allowed" "I", Cond.fieldLink RX2 37 "YearBook$Picture" "faces" "I", Cond.fieldLink RX2 9 "YearBook$Picture" "who" "[I", Cond.fieldLink RX2 27 "YearBook$Picture" "kind" "I", Cond.fieldLink RX2 50 "YearBook$Picture" "seen" "I", Cond.methodLink RX2 43 yX2_frame, Cond.instanceMethod yX2_frame, Cond.selects RX2 yX2_frame yX2_frame, Cond.initialized RX2, Cond.code yX2_frame cX2_frame 2 none, Cond.fieldLink RX2 24 "YearBook$Picture" "cut" "[I", Cond.fieldLink RX2 15 "YearBook$Picture" "xs" "[I", Cond.fieldLink RX2 21 "YearBook$Picture" "halves" "[I", Cond.methodLink RX2 53 Lib.Math.min.name, Cond.static Lib.Math.min.name, Cond.initialized "java/lang/Math", Cond.code Lib.Math.min.name Lib.Math.min.code 2 (some .int), Cond.fieldLink RX2 18 "YearBook$Picture" "ys" "[I", Cond.methodLink RX2 59 Lib.Math.max.name, Cond.static Lib.Math.max.name, Cond.code Lib.Math.max.name Lib.Math.max.code 2 (some .int), Cond.methodLink RX2 46 yX2_anotherTouchesCut, Cond.instanceMethod yX2_anotherTouchesCut, Cond.selects RX2 yX2_anotherTouchesCut yX2_anotherTouchesCut]
def wsX2_look_r2 : List Cond := [Cond.code yX2_anotherTouchesCut cX2_anotherTouchesCut 2 (some .boolean)]
def wsX2_look : List Cond := .code yX2_look cX2_look 5 none :: ((wsX2_look_r1 ++ wsX2_look_r2) ++ wsX20)
def wsX2_edge : List Cond := .code yX2_edge cX2_edge 2 (some .int) :: ([.fieldLink RX2 40 "YearBook$Picture" "allowed" "I", .fieldLink RX2 24 "YearBook$Picture" "cut" "[I"] ++ wsX20)
def wsX2_topRow : List Cond := .code yX2_topRow cX2_topRow 6 (some .int) :: ([.fieldLink RX2 37 "YearBook$Picture" "faces" "I", .fieldLink RX2 18 "YearBook$Picture" "ys" "[I", .methodLink RX2 53 Lib.Math.min.name, .static Lib.Math.min.name, .initialized "java/lang/Math", .code Lib.Math.min.name Lib.Math.min.code 2 (some .int)] ++ wsX20)
def wsX2_leftOf : List Cond := .code yX2_leftOf cX2_leftOf 5 (some .int) :: ([.fieldLink RX2 37 "YearBook$Picture" "faces" "I", .fieldLink RX2 15 "YearBook$Picture" "xs" "[I", .fieldLink RX2 9 "YearBook$Picture" "who" "[I"] ++ wsX20)
def wsX2_childInRow : List Cond := .code yX2_childInRow cX2_childInRow 4 (some .int) :: ([.fieldLink RX2 37 "YearBook$Picture" "faces" "I", .fieldLink RX2 9 "YearBook$Picture" "who" "[I", .methodLink RX2 74 yX2_leftOf, .instanceMethod yX2_leftOf, .selects RX2 yX2_leftOf yX2_leftOf, .initialized RX2, .code yX2_leftOf cX2_leftOf 5 (some .int), .fieldLink RX2 15 "YearBook$Picture" "xs" "[I"] ++ wsX20)
def wsX2_nameAt_r1 : List Cond := [Cond.fieldLink RX2 40 "YearBook$Picture" "allowed" "I", Cond.methodLink RX2 62 yX2_topRow, Cond.instanceMethod yX2_topRow, Cond.selects RX2 yX2_topRow yX2_topRow, Cond.initialized RX2, Cond.code yX2_topRow cX2_topRow 6 (some .int), Cond.fieldLink RX2 37 "YearBook$Picture" "faces" "I", Cond.fieldLink RX2 18 "YearBook$Picture" "ys" "[I", Cond.methodLink RX2 53 Lib.Math.min.name, Cond.static Lib.Math.min.name, Cond.initialized "java/lang/Math", Cond.code Lib.Math.min.name Lib.Math.min.code 2 (some .int), Cond.methodLink RX2 65 yJ6_bitCount_0f7a4, Cond.static yJ6_bitCount_0f7a4, Cond.initialized RJ6, Cond.code yJ6_bitCount_0f7a4 cJ6_bitCount_0f7a4 1 (some .int), Cond.constant RJ6 265 (1431655765), Cond.constant RJ6 266 (858993459), Cond.constant RJ6 267 (252645135), Cond.methodLink RX2 71 yX2_childInRow, Cond.instanceMethod yX2_childInRow, Cond.selects RX2 yX2_childInRow yX2_childInRow, Cond.code yX2_childInRow cX2_childInRow 4 (some .int), Cond.fieldLink RX2 9 "YearBook$Picture" "who" "[I"]
def wsX2_nameAt_r2 : List Cond := [Cond.methodLink RX2 74 yX2_leftOf, Cond.instanceMethod yX2_leftOf, Cond.selects RX2 yX2_leftOf yX2_leftOf, Cond.code yX2_leftOf cX2_leftOf 5 (some .int), Cond.fieldLink RX2 15 "YearBook$Picture" "xs" "[I"]
def wsX2_nameAt : List Cond := .code yX2_nameAt cX2_nameAt 8 (some .int) :: ((wsX2_nameAt_r1 ++ wsX2_nameAt_r2) ++ wsX20)
def wsX3_init_r1 : List Cond := [Cond.methodLink RX3 1 objectInit, Cond.instanceMethod objectInit, Cond.code objectInit ⟨#[0xb1]⟩ 1 none, Cond.arrayClass .int, Cond.fieldLink RX3 9 "YearBook" "rooms" "[I", Cond.fieldLink RX3 13 "YearBook" "consents" "[I", Cond.classLink RX3 16 RX2, Cond.fieldLink RX3 18 "YearBook" "pictures" "[LYearBook$Picture;", Cond.fieldLink RX3 22 "YearBook" "settings" "[I", Cond.classLink RX3 25 RX0, Cond.instantiable RX0 14, Cond.initialized RX0, Cond.fieldLink RX3 28 "YearBook" "chooser" "LYearBook$Chooser;", Cond.classLink RX3 32 RX1, Cond.instantiable RX1 10, Cond.initialized RX1, Cond.fieldLink RX3 35 "YearBook" "pages" "LYearBook$Pages;", Cond.instanceMethod yX0_init, Cond.code yX0_init cX0_init 1 none, Cond.methodLink RX0 3 objectInit, Cond.fieldLink RX0 9 "YearBook$Chooser" "bits" "[I", Cond.arrayClass .long, Cond.fieldLink RX0 15 "YearBook$Chooser" "shown" "[J", Cond.fieldLink RX0 19 "YearBook$Chooser" "marks" "[J"]
def wsX3_init_r2 : List Cond := [Cond.fieldLink RX0 22 "YearBook$Chooser" "shownFrom" "[J", Cond.fieldLink RX0 25 "YearBook$Chooser" "wishedShownFrom" "[J", Cond.fieldLink RX0 28 "YearBook$Chooser" "wishedBitsFrom" "[I", Cond.fieldLink RX0 31 "YearBook$Chooser" "wishedMarksFrom" "[J", Cond.instanceMethod yX1_init, Cond.code yX1_init cX1_init 1 none, Cond.methodLink RX1 3 objectInit, Cond.fieldLink RX1 9 "YearBook$Pages" "sizes" "[I", Cond.fieldLink RX1 15 "YearBook$Pages" "sets" "[I", Cond.fieldLink RX1 18 "YearBook$Pages" "packed" "[I"]
def wsX3_init : List Cond := .code yX3_init cX3_init 1 none :: ((wsX3_init_r1 ++ wsX3_init_r2) ++ wsX30 ++ wsX00 ++ wsX10)
def wsX3_within : List Cond := .code yX3_within cX3_within 3 (some .boolean) :: ([])
def wsX3_child : List Cond := .code yX3_child cX3_child 2 (some .int) :: ([.fieldLink RX3 43 "YearBook" "children" "I", .fieldLink RX3 9 "YearBook" "rooms" "[I", .fieldLink RX3 13 "YearBook" "consents" "[I", .methodLink RX3 39 yX3_within, .static yX3_within, .initialized RX3, .code yX3_within cX3_within 3 (some .boolean)] ++ wsX30)
def wsX3_isChild : List Cond := .code yX3_isChild cX3_isChild 2 (some .boolean) :: ([.fieldLink RX3 43 "YearBook" "children" "I"] ++ wsX30)
def wsX3_pictureAt : List Cond := .code yX3_pictureAt cX3_pictureAt 2 (some (.object "YearBook$Picture")) :: ([.fieldLink RX3 51 "YearBook" "pictureCount" "I", .fieldLink RX3 18 "YearBook" "pictures" "[LYearBook$Picture;"] ++ wsX30)
def wsX3_consent_r1 : List Cond := [Cond.fieldLink RX3 13 "YearBook" "consents" "[I", Cond.fieldLink RX3 51 "YearBook" "pictureCount" "I", Cond.methodLink RX3 47 yX3_isChild, Cond.instanceMethod yX3_isChild, Cond.selects RX3 yX3_isChild yX3_isChild, Cond.initialized RX3, Cond.code yX3_isChild cX3_isChild 2 (some .boolean), Cond.fieldLink RX3 43 "YearBook" "children" "I", Cond.methodLink RX3 39 yX3_within, Cond.static yX3_within, Cond.code yX3_within cX3_within 3 (some .boolean), Cond.methodLink RX3 54 yX3_pictureAt, Cond.instanceMethod yX3_pictureAt, Cond.selects RX3 yX3_pictureAt yX3_pictureAt, Cond.code yX3_pictureAt cX3_pictureAt 2 (some (.object "YearBook$Picture")), Cond.fieldLink RX3 18 "YearBook" "pictures" "[LYearBook$Picture;", Cond.methodLink RX3 58 yX2_look, Cond.instanceMethod yX2_look, Cond.selects RX2 yX2_look yX2_look, Cond.initialized RX2, Cond.code yX2_look cX2_look 5 none, Cond.fieldLink RX2 40 "YearBook$Picture" "allowed" "I", Cond.fieldLink RX2 37 "YearBook$Picture" "faces" "I", Cond.fieldLink RX2 9 "YearBook$Picture" "who" "[I"]
def wsX3_consent_r2 : List Cond := [Cond.fieldLink RX2 27 "YearBook$Picture" "kind" "I", Cond.fieldLink RX2 50 "YearBook$Picture" "seen" "I", Cond.methodLink RX2 43 yX2_frame, Cond.instanceMethod yX2_frame, Cond.selects RX2 yX2_frame yX2_frame, Cond.code yX2_frame cX2_frame 2 none, Cond.fieldLink RX2 24 "YearBook$Picture" "cut" "[I", Cond.fieldLink RX2 15 "YearBook$Picture" "xs" "[I", Cond.fieldLink RX2 21 "YearBook$Picture" "halves" "[I", Cond.methodLink RX2 53 Lib.Math.min.name, Cond.static Lib.Math.min.name, Cond.initialized "java/lang/Math", Cond.code Lib.Math.min.name Lib.Math.min.code 2 (some .int), Cond.fieldLink RX2 18 "YearBook$Picture" "ys" "[I", Cond.methodLink RX2 59 Lib.Math.max.name, Cond.static Lib.Math.max.name, Cond.code Lib.Math.max.name Lib.Math.max.code 2 (some .int), Cond.methodLink RX2 46 yX2_anotherTouchesCut, Cond.instanceMethod yX2_anotherTouchesCut, Cond.selects RX2 yX2_anotherTouchesCut yX2_anotherTouchesCut, Cond.code yX2_anotherTouchesCut cX2_anotherTouchesCut 2 (some .boolean)]
def wsX3_consent : List Cond := .code yX3_consent cX3_consent 6 (some .int) :: ((wsX3_consent_r1 ++ wsX3_consent_r2) ++ wsX30 ++ wsX20)
def wsX3_picture_r1 : List Cond := [Cond.fieldLink RX3 51 "YearBook" "pictureCount" "I", Cond.fieldLink RX3 18 "YearBook" "pictures" "[LYearBook$Picture;", Cond.classLink RX3 16 RX2, Cond.instantiable RX2 11, Cond.initialized RX2, Cond.fieldLink RX3 35 "YearBook" "pages" "LYearBook$Pages;", Cond.methodLink RX3 39 yX3_within, Cond.static yX3_within, Cond.initialized RX3, Cond.code yX3_within cX3_within 3 (some .boolean), Cond.methodLink RX3 62 yX2_init, Cond.instanceMethod yX2_init, Cond.code yX2_init cX2_init 4 none, Cond.methodLink RX2 3 objectInit, Cond.instanceMethod objectInit, Cond.code objectInit ⟨#[0xb1]⟩ 1 none, Cond.arrayClass .int, Cond.fieldLink RX2 9 "YearBook$Picture" "who" "[I", Cond.fieldLink RX2 15 "YearBook$Picture" "xs" "[I", Cond.fieldLink RX2 18 "YearBook$Picture" "ys" "[I", Cond.fieldLink RX2 21 "YearBook$Picture" "halves" "[I", Cond.fieldLink RX2 24 "YearBook$Picture" "cut" "[I", Cond.fieldLink RX2 27 "YearBook$Picture" "kind" "I", Cond.fieldLink RX2 31 "YearBook$Picture" "worth" "I"]
def wsX3_picture_r2 : List Cond := [Cond.fieldLink RX2 34 "YearBook$Picture" "size" "I", Cond.methodLink RX3 65 yX1_hearOf, Cond.instanceMethod yX1_hearOf, Cond.selects RX1 yX1_hearOf yX1_hearOf, Cond.initialized RX1, Cond.code yX1_hearOf cX1_hearOf 2 none, Cond.fieldLink RX1 21 "YearBook$Pages" "pictures" "I", Cond.fieldLink RX1 9 "YearBook$Pages" "sizes" "[I"]
def wsX3_picture : List Cond := .code yX3_picture cX3_picture 4 (some .int) :: ((wsX3_picture_r1 ++ wsX3_picture_r2) ++ wsX30 ++ wsX20 ++ wsX10)
def wsX3_face_r1 : List Cond := [Cond.fieldLink RX3 13 "YearBook" "consents" "[I", Cond.methodLink RX3 54 yX3_pictureAt, Cond.instanceMethod yX3_pictureAt, Cond.selects RX3 yX3_pictureAt yX3_pictureAt, Cond.initialized RX3, Cond.code yX3_pictureAt cX3_pictureAt 2 (some (.object "YearBook$Picture")), Cond.fieldLink RX3 51 "YearBook" "pictureCount" "I", Cond.fieldLink RX3 18 "YearBook" "pictures" "[LYearBook$Picture;", Cond.methodLink RX3 47 yX3_isChild, Cond.instanceMethod yX3_isChild, Cond.selects RX3 yX3_isChild yX3_isChild, Cond.code yX3_isChild cX3_isChild 2 (some .boolean), Cond.fieldLink RX3 43 "YearBook" "children" "I", Cond.methodLink RX3 39 yX3_within, Cond.static yX3_within, Cond.code yX3_within cX3_within 3 (some .boolean), Cond.methodLink RX3 69 yX2_canHold, Cond.instanceMethod yX2_canHold, Cond.selects RX2 yX2_canHold yX2_canHold, Cond.initialized RX2, Cond.code yX2_canHold cX2_canHold 3 (some .boolean), Cond.fieldLink RX2 37 "YearBook$Picture" "faces" "I", Cond.fieldLink RX2 9 "YearBook$Picture" "who" "[I", Cond.methodLink RX3 72 yX2_add]
def wsX3_face_r2 : List Cond := [Cond.instanceMethod yX2_add, Cond.selects RX2 yX2_add yX2_add, Cond.code yX2_add cX2_add 5 none, Cond.fieldLink RX2 15 "YearBook$Picture" "xs" "[I", Cond.fieldLink RX2 18 "YearBook$Picture" "ys" "[I", Cond.fieldLink RX2 21 "YearBook$Picture" "halves" "[I", Cond.methodLink RX3 58 yX2_look, Cond.instanceMethod yX2_look, Cond.selects RX2 yX2_look yX2_look, Cond.code yX2_look cX2_look 5 none, Cond.fieldLink RX2 40 "YearBook$Picture" "allowed" "I", Cond.fieldLink RX2 27 "YearBook$Picture" "kind" "I", Cond.fieldLink RX2 50 "YearBook$Picture" "seen" "I", Cond.methodLink RX2 43 yX2_frame, Cond.instanceMethod yX2_frame, Cond.selects RX2 yX2_frame yX2_frame, Cond.code yX2_frame cX2_frame 2 none, Cond.fieldLink RX2 24 "YearBook$Picture" "cut" "[I", Cond.methodLink RX2 53 Lib.Math.min.name, Cond.static Lib.Math.min.name, Cond.initialized "java/lang/Math", Cond.code Lib.Math.min.name Lib.Math.min.code 2 (some .int), Cond.methodLink RX2 59 Lib.Math.max.name, Cond.static Lib.Math.max.name]
def wsX3_face_r3 : List Cond := [Cond.code Lib.Math.max.name Lib.Math.max.code 2 (some .int), Cond.methodLink RX2 46 yX2_anotherTouchesCut, Cond.instanceMethod yX2_anotherTouchesCut, Cond.selects RX2 yX2_anotherTouchesCut yX2_anotherTouchesCut, Cond.code yX2_anotherTouchesCut cX2_anotherTouchesCut 2 (some .boolean)]
def wsX3_face : List Cond := .code yX3_face cX3_face 7 (some .int) :: ((wsX3_face_r1 ++ (wsX3_face_r2 ++ wsX3_face_r3)) ++ wsX30 ++ wsX20)
def wsX3_set : List Cond := .code yX3_set cX3_set 4 (some .int) :: ([.fieldLink RX3 79 "YearBook" "LEAST_SETTING" "[I", .fieldLink RX3 82 "YearBook" "MOST_SETTING" "[I", .fieldLink RX3 22 "YearBook" "settings" "[I", .methodLink RX3 39 yX3_within, .static yX3_within, .initialized RX3, .code yX3_within cX3_within 3 (some .boolean)] ++ wsX30)
def wsX3_isChosen : List Cond := .code yX3_isChosen cX3_isChosen 2 (some .boolean) :: ([.fieldLink RX3 85 "YearBook" "choice" "I"] ++ wsX30)
def wsX3_worthOf : List Cond := .code yX3_worthOf cX3_worthOf 3 (some .int) :: ([.methodLink RX3 54 yX3_pictureAt, .instanceMethod yX3_pictureAt, .selects RX3 yX3_pictureAt yX3_pictureAt, .initialized RX3, .code yX3_pictureAt cX3_pictureAt 2 (some (.object "YearBook$Picture")), .fieldLink RX3 51 "YearBook" "pictureCount" "I", .fieldLink RX3 18 "YearBook" "pictures" "[LYearBook$Picture;"] ++ wsX20 ++ wsX30)
def wsX3_worthOfChoice : List Cond := .code yX3_worthOfChoice cX3_worthOfChoice 3 (some .int) :: ([.fieldLink RX3 51 "YearBook" "pictureCount" "I", .methodLink RX3 134 yX3_isChosen, .instanceMethod yX3_isChosen, .selects RX3 yX3_isChosen yX3_isChosen, .initialized RX3, .code yX3_isChosen cX3_isChosen 2 (some .boolean), .fieldLink RX3 85 "YearBook" "choice" "I", .methodLink RX3 185 yX3_worthOf, .instanceMethod yX3_worthOf, .selects RX3 yX3_worthOf yX3_worthOf, .code yX3_worthOf cX3_worthOf 3 (some .int), .methodLink RX3 54 yX3_pictureAt, .instanceMethod yX3_pictureAt, .selects RX3 yX3_pictureAt yX3_pictureAt, .code yX3_pictureAt cX3_pictureAt 2 (some (.object "YearBook$Picture")), .fieldLink RX3 18 "YearBook" "pictures" "[LYearBook$Picture;"] ++ wsX30 ++ wsX20)
def wsX3_shownIn : List Cond := .code yX3_shownIn cX3_shownIn 3 (some .int) :: ([.methodLink RX3 54 yX3_pictureAt, .instanceMethod yX3_pictureAt, .selects RX3 yX3_pictureAt yX3_pictureAt, .initialized RX3, .code yX3_pictureAt cX3_pictureAt 2 (some (.object "YearBook$Picture")), .fieldLink RX3 51 "YearBook" "pictureCount" "I", .fieldLink RX3 18 "YearBook" "pictures" "[LYearBook$Picture;"] ++ wsX20 ++ wsX30)
def wsX3_goodPictures : List Cond := .code yX3_goodPictures cX3_goodPictures 3 (some .int) :: ([.fieldLink RX3 51 "YearBook" "pictureCount" "I", .methodLink RX3 137 yX3_shownIn, .instanceMethod yX3_shownIn, .selects RX3 yX3_shownIn yX3_shownIn, .initialized RX3, .code yX3_shownIn cX3_shownIn 3 (some .int), .methodLink RX3 54 yX3_pictureAt, .instanceMethod yX3_pictureAt, .selects RX3 yX3_pictureAt yX3_pictureAt, .code yX3_pictureAt cX3_pictureAt 2 (some (.object "YearBook$Picture")), .fieldLink RX3 18 "YearBook" "pictures" "[LYearBook$Picture;"] ++ wsX30 ++ wsX20)
def wsX3_childrenInGood : List Cond := .code yX3_childrenInGood cX3_childrenInGood 3 (some .int) :: ([.fieldLink RX3 51 "YearBook" "pictureCount" "I", .methodLink RX3 137 yX3_shownIn, .instanceMethod yX3_shownIn, .selects RX3 yX3_shownIn yX3_shownIn, .initialized RX3, .code yX3_shownIn cX3_shownIn 3 (some .int), .methodLink RX3 54 yX3_pictureAt, .instanceMethod yX3_pictureAt, .selects RX3 yX3_pictureAt yX3_pictureAt, .code yX3_pictureAt cX3_pictureAt 2 (some (.object "YearBook$Picture")), .fieldLink RX3 18 "YearBook" "pictures" "[LYearBook$Picture;"] ++ wsX30 ++ wsX20)
def wsX3_count_r1 : List Cond := [Cond.fieldLink RX3 43 "YearBook" "children" "I", Cond.fieldLink RX3 51 "YearBook" "pictureCount" "I", Cond.fieldLink RX3 85 "YearBook" "choice" "I", Cond.fieldLink RX3 35 "YearBook" "pages" "LYearBook$Pages;", Cond.methodLink RX3 88 yX3_worthOfChoice, Cond.instanceMethod yX3_worthOfChoice, Cond.selects RX3 yX3_worthOfChoice yX3_worthOfChoice, Cond.initialized RX3, Cond.code yX3_worthOfChoice cX3_worthOfChoice 3 (some .int), Cond.methodLink RX3 134 yX3_isChosen, Cond.instanceMethod yX3_isChosen, Cond.selects RX3 yX3_isChosen yX3_isChosen, Cond.code yX3_isChosen cX3_isChosen 2 (some .boolean), Cond.methodLink RX3 185 yX3_worthOf, Cond.instanceMethod yX3_worthOf, Cond.selects RX3 yX3_worthOf yX3_worthOf, Cond.code yX3_worthOf cX3_worthOf 3 (some .int), Cond.methodLink RX3 54 yX3_pictureAt, Cond.instanceMethod yX3_pictureAt, Cond.selects RX3 yX3_pictureAt yX3_pictureAt, Cond.code yX3_pictureAt cX3_pictureAt 2 (some (.object "YearBook$Picture")), Cond.fieldLink RX3 18 "YearBook" "pictures" "[LYearBook$Picture;", Cond.methodLink RX3 95 yX3_goodPictures, Cond.instanceMethod yX3_goodPictures]
def wsX3_count_r2 : List Cond := [Cond.selects RX3 yX3_goodPictures yX3_goodPictures, Cond.code yX3_goodPictures cX3_goodPictures 3 (some .int), Cond.methodLink RX3 137 yX3_shownIn, Cond.instanceMethod yX3_shownIn, Cond.selects RX3 yX3_shownIn yX3_shownIn, Cond.code yX3_shownIn cX3_shownIn 3 (some .int), Cond.methodLink RX3 98 yX3_childrenInGood, Cond.instanceMethod yX3_childrenInGood, Cond.selects RX3 yX3_childrenInGood yX3_childrenInGood, Cond.code yX3_childrenInGood cX3_childrenInGood 3 (some .int)]
def wsX3_count : List Cond := .code yX3_count cX3_count 2 (some .int) :: ((wsX3_count_r1 ++ wsX3_count_r2) ++ wsX30 ++ wsX10 ++ wsX20)
def wsX3_told_r1 : List Cond := [Cond.classLink RX3 101 "java/util/NoSuchElementException", Cond.initialized "java/util/NoSuchElementException", Cond.fieldLink RX3 35 "YearBook" "pages" "LYearBook$Pages;", Cond.methodLink RX3 54 yX3_pictureAt, Cond.instanceMethod yX3_pictureAt, Cond.selects RX3 yX3_pictureAt yX3_pictureAt, Cond.initialized RX3, Cond.code yX3_pictureAt cX3_pictureAt 2 (some (.object "YearBook$Picture")), Cond.fieldLink RX3 51 "YearBook" "pictureCount" "I", Cond.fieldLink RX3 18 "YearBook" "pictures" "[LYearBook$Picture;", Cond.methodLink RX3 39 yX3_within, Cond.static yX3_within, Cond.code yX3_within cX3_within 3 (some .boolean), Cond.methodLink RX3 120 yX1_pageOf, Cond.instanceMethod yX1_pageOf, Cond.selects RX1 yX1_pageOf yX1_pageOf, Cond.initialized RX1, Cond.code yX1_pageOf cX1_pageOf 3 (some .int), Cond.fieldLink RX1 25 "YearBook$Pages" "count" "I", Cond.fieldLink RX1 15 "YearBook$Pages" "sets" "[I", Cond.methodLink RX3 124 yX2_edge, Cond.instanceMethod yX2_edge, Cond.selects RX2 yX2_edge yX2_edge, Cond.initialized RX2]
def wsX3_told_r2 : List Cond := [Cond.code yX2_edge cX2_edge 2 (some .int), Cond.fieldLink RX2 40 "YearBook$Picture" "allowed" "I", Cond.fieldLink RX2 24 "YearBook$Picture" "cut" "[I"]
def wsX3_told : List Cond := .code yX3_told cX3_told 4 (some .int) :: ((wsX3_told_r1 ++ wsX3_told_r2) ++ wsX20 ++ wsX30 ++ wsX10 ++ (vx_atS RX3 105 "java/util/NoSuchElementException" ["java/lang/RuntimeException", "java/lang/Exception"]).filter goodWord)
def wsX3_name_r1 : List Cond := [Cond.fieldLink RX3 22 "YearBook" "settings" "[I", Cond.methodLink RX3 54 yX3_pictureAt, Cond.instanceMethod yX3_pictureAt, Cond.selects RX3 yX3_pictureAt yX3_pictureAt, Cond.initialized RX3, Cond.code yX3_pictureAt cX3_pictureAt 2 (some (.object "YearBook$Picture")), Cond.fieldLink RX3 51 "YearBook" "pictureCount" "I", Cond.fieldLink RX3 18 "YearBook" "pictures" "[LYearBook$Picture;", Cond.methodLink RX3 127 yX2_nameAt, Cond.instanceMethod yX2_nameAt, Cond.selects RX2 yX2_nameAt yX2_nameAt, Cond.initialized RX2, Cond.code yX2_nameAt cX2_nameAt 8 (some .int), Cond.fieldLink RX2 40 "YearBook$Picture" "allowed" "I", Cond.methodLink RX2 62 yX2_topRow, Cond.instanceMethod yX2_topRow, Cond.selects RX2 yX2_topRow yX2_topRow, Cond.code yX2_topRow cX2_topRow 6 (some .int), Cond.fieldLink RX2 37 "YearBook$Picture" "faces" "I", Cond.fieldLink RX2 18 "YearBook$Picture" "ys" "[I", Cond.methodLink RX2 53 Lib.Math.min.name, Cond.static Lib.Math.min.name, Cond.initialized "java/lang/Math", Cond.code Lib.Math.min.name Lib.Math.min.code 2 (some .int)]
def wsX3_name_r2 : List Cond := [Cond.methodLink RX2 65 yJ6_bitCount_0f7a4, Cond.static yJ6_bitCount_0f7a4, Cond.initialized RJ6, Cond.code yJ6_bitCount_0f7a4 cJ6_bitCount_0f7a4 1 (some .int), Cond.constant RJ6 265 (1431655765), Cond.constant RJ6 266 (858993459), Cond.constant RJ6 267 (252645135), Cond.methodLink RX2 71 yX2_childInRow, Cond.instanceMethod yX2_childInRow, Cond.selects RX2 yX2_childInRow yX2_childInRow, Cond.code yX2_childInRow cX2_childInRow 4 (some .int), Cond.fieldLink RX2 9 "YearBook$Picture" "who" "[I", Cond.methodLink RX2 74 yX2_leftOf, Cond.instanceMethod yX2_leftOf, Cond.selects RX2 yX2_leftOf yX2_leftOf, Cond.code yX2_leftOf cX2_leftOf 5 (some .int), Cond.fieldLink RX2 15 "YearBook$Picture" "xs" "[I"]
def wsX3_name : List Cond := .code yX3_name cX3_name 4 (some .int) :: ((wsX3_name_r1 ++ wsX3_name_r2) ++ wsX20 ++ wsX30)
def wsX3_chosenShowing : List Cond := .code yX3_chosenShowing cX3_chosenShowing 4 (some .int) :: ([.fieldLink RX3 51 "YearBook" "pictureCount" "I", .methodLink RX3 134 yX3_isChosen, .instanceMethod yX3_isChosen, .selects RX3 yX3_isChosen yX3_isChosen, .initialized RX3, .code yX3_isChosen cX3_isChosen 2 (some .boolean), .fieldLink RX3 85 "YearBook" "choice" "I", .methodLink RX3 137 yX3_shownIn, .instanceMethod yX3_shownIn, .selects RX3 yX3_shownIn yX3_shownIn, .code yX3_shownIn cX3_shownIn 3 (some .int), .methodLink RX3 54 yX3_pictureAt, .instanceMethod yX3_pictureAt, .selects RX3 yX3_pictureAt yX3_pictureAt, .code yX3_pictureAt cX3_pictureAt 2 (some (.object "YearBook$Picture")), .fieldLink RX3 18 "YearBook" "pictures" "[LYearBook$Picture;"] ++ wsX30 ++ wsX20)
def wsX3_seen_r1 : List Cond := [Cond.methodLink RX3 47 yX3_isChild, Cond.instanceMethod yX3_isChild, Cond.selects RX3 yX3_isChild yX3_isChild, Cond.initialized RX3, Cond.code yX3_isChild cX3_isChild 2 (some .boolean), Cond.fieldLink RX3 43 "YearBook" "children" "I", Cond.methodLink RX3 131 yX3_chosenShowing, Cond.instanceMethod yX3_chosenShowing, Cond.selects RX3 yX3_chosenShowing yX3_chosenShowing, Cond.code yX3_chosenShowing cX3_chosenShowing 4 (some .int), Cond.fieldLink RX3 51 "YearBook" "pictureCount" "I", Cond.methodLink RX3 134 yX3_isChosen, Cond.instanceMethod yX3_isChosen, Cond.selects RX3 yX3_isChosen yX3_isChosen, Cond.code yX3_isChosen cX3_isChosen 2 (some .boolean), Cond.fieldLink RX3 85 "YearBook" "choice" "I", Cond.methodLink RX3 137 yX3_shownIn, Cond.instanceMethod yX3_shownIn, Cond.selects RX3 yX3_shownIn yX3_shownIn, Cond.code yX3_shownIn cX3_shownIn 3 (some .int), Cond.methodLink RX3 54 yX3_pictureAt, Cond.instanceMethod yX3_pictureAt, Cond.selects RX3 yX3_pictureAt yX3_pictureAt, Cond.code yX3_pictureAt cX3_pictureAt 2 (some (.object "YearBook$Picture"))]
def wsX3_seen_r2 : List Cond := [Cond.fieldLink RX3 18 "YearBook" "pictures" "[LYearBook$Picture;"]
def wsX3_seen : List Cond := .code yX3_seen cX3_seen 2 (some .int) :: ((wsX3_seen_r1 ++ wsX3_seen_r2) ++ wsX30 ++ wsX20)
def wsX3_proof : List Cond := .code yX3_proof cX3_proof 5 (some .int) :: ([.fieldLink RX3 51 "YearBook" "pictureCount" "I", .methodLink RX3 47 yX3_isChild, .instanceMethod yX3_isChild, .selects RX3 yX3_isChild yX3_isChild, .initialized RX3, .code yX3_isChild cX3_isChild 2 (some .boolean), .fieldLink RX3 43 "YearBook" "children" "I", .methodLink RX3 134 yX3_isChosen, .instanceMethod yX3_isChosen, .selects RX3 yX3_isChosen yX3_isChosen, .code yX3_isChosen cX3_isChosen 2 (some .boolean), .fieldLink RX3 85 "YearBook" "choice" "I", .methodLink RX3 137 yX3_shownIn, .instanceMethod yX3_shownIn, .selects RX3 yX3_shownIn yX3_shownIn, .code yX3_shownIn cX3_shownIn 3 (some .int), .methodLink RX3 54 yX3_pictureAt, .instanceMethod yX3_pictureAt, .selects RX3 yX3_pictureAt yX3_pictureAt, .code yX3_pictureAt cX3_pictureAt 2 (some (.object "YearBook$Picture")), .fieldLink RX3 18 "YearBook" "pictures" "[LYearBook$Picture;"] ++ wsX30 ++ wsX20)
def wsX3_shows_r1 : List Cond := [Cond.fieldLink RX3 43 "YearBook" "children" "I", Cond.fieldLink RX3 9 "YearBook" "rooms" "[I", Cond.methodLink RX3 39 yX3_within, Cond.static yX3_within, Cond.initialized RX3, Cond.code yX3_within cX3_within 3 (some .boolean), Cond.methodLink RX3 131 yX3_chosenShowing, Cond.instanceMethod yX3_chosenShowing, Cond.selects RX3 yX3_chosenShowing yX3_chosenShowing, Cond.code yX3_chosenShowing cX3_chosenShowing 4 (some .int), Cond.fieldLink RX3 51 "YearBook" "pictureCount" "I", Cond.methodLink RX3 134 yX3_isChosen, Cond.instanceMethod yX3_isChosen, Cond.selects RX3 yX3_isChosen yX3_isChosen, Cond.code yX3_isChosen cX3_isChosen 2 (some .boolean), Cond.fieldLink RX3 85 "YearBook" "choice" "I", Cond.methodLink RX3 137 yX3_shownIn, Cond.instanceMethod yX3_shownIn, Cond.selects RX3 yX3_shownIn yX3_shownIn, Cond.code yX3_shownIn cX3_shownIn 3 (some .int), Cond.methodLink RX3 54 yX3_pictureAt, Cond.instanceMethod yX3_pictureAt, Cond.selects RX3 yX3_pictureAt yX3_pictureAt, Cond.code yX3_pictureAt cX3_pictureAt 2 (some (.object "YearBook$Picture"))]
def wsX3_shows_r2 : List Cond := [Cond.fieldLink RX3 18 "YearBook" "pictures" "[LYearBook$Picture;"]
def wsX3_shows : List Cond := .code yX3_shows cX3_shows 4 (some .int) :: ((wsX3_shows_r1 ++ wsX3_shows_r2) ++ wsX30 ++ wsX20)
def wsX3_decide : List Cond := .code yX3_decide cX3_decide 2 none :: ([.fieldLink RX3 85 "YearBook" "choice" "I", .fieldLink RX3 35 "YearBook" "pages" "LYearBook$Pages;", .methodLink RX3 188 yX1_clear, .instanceMethod yX1_clear, .selects RX1 yX1_clear yX1_clear, .initialized RX1, .code yX1_clear cX1_clear 1 none, .fieldLink RX1 25 "YearBook$Pages" "count" "I"] ++ wsX30 ++ wsX10)
def wsX3_choose : List Cond := .code yX3_choose cX3_choose 2 (some .boolean) :: ([.fieldLink RX3 51 "YearBook" "pictureCount" "I", .methodLink RX3 140 yX3_decide, .instanceMethod yX3_decide, .selects RX3 yX3_decide yX3_decide, .initialized RX3, .code yX3_decide cX3_decide 2 none, .fieldLink RX3 85 "YearBook" "choice" "I", .fieldLink RX3 35 "YearBook" "pages" "LYearBook$Pages;", .methodLink RX3 188 yX1_clear, .instanceMethod yX1_clear, .selects RX1 yX1_clear yX1_clear, .initialized RX1, .code yX1_clear cX1_clear 1 none, .fieldLink RX1 25 "YearBook$Pages" "count" "I"] ++ wsX30 ++ wsX10)
def wsX3_wrong_r1 : List Cond := [Cond.fieldLink RX3 85 "YearBook" "choice" "I", Cond.fieldLink RX3 43 "YearBook" "children" "I", Cond.fieldLink RX3 22 "YearBook" "settings" "[I", Cond.methodLink RX3 95 yX3_goodPictures, Cond.instanceMethod yX3_goodPictures, Cond.selects RX3 yX3_goodPictures yX3_goodPictures, Cond.initialized RX3, Cond.code yX3_goodPictures cX3_goodPictures 3 (some .int), Cond.fieldLink RX3 51 "YearBook" "pictureCount" "I", Cond.methodLink RX3 137 yX3_shownIn, Cond.instanceMethod yX3_shownIn, Cond.selects RX3 yX3_shownIn yX3_shownIn, Cond.code yX3_shownIn cX3_shownIn 3 (some .int), Cond.methodLink RX3 54 yX3_pictureAt, Cond.instanceMethod yX3_pictureAt, Cond.selects RX3 yX3_pictureAt yX3_pictureAt, Cond.code yX3_pictureAt cX3_pictureAt 2 (some (.object "YearBook$Picture")), Cond.fieldLink RX3 18 "YearBook" "pictures" "[LYearBook$Picture;", Cond.methodLink RX3 98 yX3_childrenInGood, Cond.instanceMethod yX3_childrenInGood, Cond.selects RX3 yX3_childrenInGood yX3_childrenInGood, Cond.code yX3_childrenInGood cX3_childrenInGood 3 (some .int), Cond.methodLink RX3 131 yX3_chosenShowing, Cond.instanceMethod yX3_chosenShowing]
def wsX3_wrong_r2 : List Cond := [Cond.selects RX3 yX3_chosenShowing yX3_chosenShowing, Cond.code yX3_chosenShowing cX3_chosenShowing 4 (some .int), Cond.methodLink RX3 134 yX3_isChosen, Cond.instanceMethod yX3_isChosen, Cond.selects RX3 yX3_isChosen yX3_isChosen, Cond.code yX3_isChosen cX3_isChosen 2 (some .boolean)]
def wsX3_wrong : List Cond := .code yX3_wrong cX3_wrong 5 (some .int) :: ((wsX3_wrong_r1 ++ wsX3_wrong_r2) ++ wsX30 ++ wsX20)
def wsX3_offerPictures_r1 : List Cond := [Cond.fieldLink RX3 28 "YearBook" "chooser" "LYearBook$Chooser;", Cond.fieldLink RX3 22 "YearBook" "settings" "[I", Cond.fieldLink RX3 51 "YearBook" "pictureCount" "I", Cond.constantLong RX3 195 (262144), Cond.constantLong RX3 197 (16384), Cond.methodLink RX3 191 yX0_begin, Cond.instanceMethod yX0_begin, Cond.selects RX0 yX0_begin yX0_begin, Cond.initialized RX0, Cond.code yX0_begin cX0_begin 3 none, Cond.fieldLink RX0 34 "YearBook$Chooser" "low" "I", Cond.fieldLink RX0 38 "YearBook$Chooser" "high" "I", Cond.fieldLink RX0 41 "YearBook$Chooser" "size" "I", Cond.constantLong RX0 44 (-1), Cond.fieldLink RX0 46 "YearBook$Chooser" "notCounted" "J", Cond.methodLink RX3 137 yX3_shownIn, Cond.instanceMethod yX3_shownIn, Cond.selects RX3 yX3_shownIn yX3_shownIn, Cond.initialized RX3, Cond.code yX3_shownIn cX3_shownIn 3 (some .int), Cond.methodLink RX3 54 yX3_pictureAt, Cond.instanceMethod yX3_pictureAt, Cond.selects RX3 yX3_pictureAt yX3_pictureAt, Cond.code yX3_pictureAt cX3_pictureAt 2 (some (.object "YearBook$Picture"))]
def wsX3_offerPictures_r2 : List Cond := [Cond.fieldLink RX3 18 "YearBook" "pictures" "[LYearBook$Picture;", Cond.methodLink RX3 185 yX3_worthOf, Cond.instanceMethod yX3_worthOf, Cond.selects RX3 yX3_worthOf yX3_worthOf, Cond.code yX3_worthOf cX3_worthOf 3 (some .int), Cond.methodLink RX3 134 yX3_isChosen, Cond.instanceMethod yX3_isChosen, Cond.selects RX3 yX3_isChosen yX3_isChosen, Cond.code yX3_isChosen cX3_isChosen 2 (some .boolean), Cond.fieldLink RX3 85 "YearBook" "choice" "I", Cond.methodLink RX3 199 yX0_offer, Cond.instanceMethod yX0_offer, Cond.selects RX0 yX0_offer yX0_offer, Cond.code yX0_offer cX0_offer 5 none, Cond.fieldLink RX0 9 "YearBook$Chooser" "bits" "[I", Cond.fieldLink RX0 15 "YearBook$Chooser" "shown" "[J", Cond.fieldLink RX0 19 "YearBook$Chooser" "marks" "[J", Cond.constantLong RX0 54 (15), Cond.methodLink RX0 50 yX0_inFours, Cond.static yX0_inFours, Cond.code yX0_inFours cX0_inFours 4 (some .long), Cond.methodLink RX3 203 yX0_sumUp, Cond.instanceMethod yX0_sumUp, Cond.selects RX0 yX0_sumUp yX0_sumUp]
def wsX3_offerPictures_r3 : List Cond := [Cond.code yX0_sumUp cX0_sumUp 3 none, Cond.fieldLink RX0 22 "YearBook$Chooser" "shownFrom" "[J", Cond.fieldLink RX0 25 "YearBook$Chooser" "wishedShownFrom" "[J", Cond.fieldLink RX0 28 "YearBook$Chooser" "wishedBitsFrom" "[I", Cond.fieldLink RX0 31 "YearBook$Chooser" "wishedMarksFrom" "[J"]
def wsX3_offerPictures : List Cond := .code yX3_offerPictures cX3_offerPictures 7 none :: ((wsX3_offerPictures_r1 ++ (wsX3_offerPictures_r2 ++ wsX3_offerPictures_r3)) ++ wsX30 ++ wsX00 ++ wsX20)
def wsX3_best_r1 : List Cond := [Cond.fieldLink RX3 28 "YearBook" "chooser" "LYearBook$Chooser;", Cond.methodLink RX3 143 yX3_offerPictures, Cond.instanceMethod yX3_offerPictures, Cond.selects RX3 yX3_offerPictures yX3_offerPictures, Cond.initialized RX3, Cond.code yX3_offerPictures cX3_offerPictures 7 none, Cond.fieldLink RX3 22 "YearBook" "settings" "[I", Cond.fieldLink RX3 51 "YearBook" "pictureCount" "I", Cond.constantLong RX3 195 (262144), Cond.constantLong RX3 197 (16384), Cond.methodLink RX3 191 yX0_begin, Cond.instanceMethod yX0_begin, Cond.selects RX0 yX0_begin yX0_begin, Cond.initialized RX0, Cond.code yX0_begin cX0_begin 3 none, Cond.fieldLink RX0 34 "YearBook$Chooser" "low" "I", Cond.fieldLink RX0 38 "YearBook$Chooser" "high" "I", Cond.fieldLink RX0 41 "YearBook$Chooser" "size" "I", Cond.constantLong RX0 44 (-1), Cond.fieldLink RX0 46 "YearBook$Chooser" "notCounted" "J", Cond.methodLink RX3 137 yX3_shownIn, Cond.instanceMethod yX3_shownIn, Cond.selects RX3 yX3_shownIn yX3_shownIn, Cond.code yX3_shownIn cX3_shownIn 3 (some .int)]
def wsX3_best_r2 : List Cond := [Cond.methodLink RX3 54 yX3_pictureAt, Cond.instanceMethod yX3_pictureAt, Cond.selects RX3 yX3_pictureAt yX3_pictureAt, Cond.code yX3_pictureAt cX3_pictureAt 2 (some (.object "YearBook$Picture")), Cond.fieldLink RX3 18 "YearBook" "pictures" "[LYearBook$Picture;", Cond.methodLink RX3 185 yX3_worthOf, Cond.instanceMethod yX3_worthOf, Cond.selects RX3 yX3_worthOf yX3_worthOf, Cond.code yX3_worthOf cX3_worthOf 3 (some .int), Cond.methodLink RX3 134 yX3_isChosen, Cond.instanceMethod yX3_isChosen, Cond.selects RX3 yX3_isChosen yX3_isChosen, Cond.code yX3_isChosen cX3_isChosen 2 (some .boolean), Cond.fieldLink RX3 85 "YearBook" "choice" "I", Cond.methodLink RX3 199 yX0_offer, Cond.instanceMethod yX0_offer, Cond.selects RX0 yX0_offer yX0_offer, Cond.code yX0_offer cX0_offer 5 none, Cond.fieldLink RX0 9 "YearBook$Chooser" "bits" "[I", Cond.fieldLink RX0 15 "YearBook$Chooser" "shown" "[J", Cond.fieldLink RX0 19 "YearBook$Chooser" "marks" "[J", Cond.constantLong RX0 54 (15), Cond.methodLink RX0 50 yX0_inFours, Cond.static yX0_inFours]
def wsX3_best_r3 : List Cond := [Cond.code yX0_inFours cX0_inFours 4 (some .long), Cond.methodLink RX3 203 yX0_sumUp, Cond.instanceMethod yX0_sumUp, Cond.selects RX0 yX0_sumUp yX0_sumUp, Cond.code yX0_sumUp cX0_sumUp 3 none, Cond.fieldLink RX0 22 "YearBook$Chooser" "shownFrom" "[J", Cond.fieldLink RX0 25 "YearBook$Chooser" "wishedShownFrom" "[J", Cond.fieldLink RX0 28 "YearBook$Chooser" "wishedBitsFrom" "[I", Cond.fieldLink RX0 31 "YearBook$Chooser" "wishedMarksFrom" "[J", Cond.methodLink RX3 147 yX0_findBest, Cond.instanceMethod yX0_findBest, Cond.selects RX0 yX0_findBest yX0_findBest, Cond.code yX0_findBest cX0_findBest 1 (some .boolean), Cond.fieldLink RX0 56 "YearBook$Chooser" "found" "Z", Cond.methodLink RX0 60 yX0_searchFrom, Cond.instanceMethod yX0_searchFrom, Cond.selects RX0 yX0_searchFrom yX0_searchFrom, Cond.code yX0_searchFrom cX0_searchFrom 10 none, Cond.fieldLink RX0 68 "YearBook$Chooser" "bestMark" "J", Cond.fieldLink RX0 82 "YearBook$Chooser" "bestSet" "I", Cond.methodLink RX0 71 yX0_isLost, Cond.instanceMethod yX0_isLost, Cond.selects RX0 yX0_isLost yX0_isLost, Cond.code yX0_isLost cX0_isLost 4 (some .boolean)]
def wsX3_best_r4 : List Cond := [Cond.methodLink RX0 75 yX0_someAbove, Cond.instanceMethod yX0_someAbove, Cond.selects RX0 yX0_someAbove yX0_someAbove, Cond.code yX0_someAbove cX0_someAbove 9 (some .boolean), Cond.constantLong RX0 85 (72340172838076673), Cond.constantLong RX0 87 (1085102592571150095), Cond.constantLong RX0 89 (-9187201950435737472), Cond.methodLink RX0 79 yX0_someBelow, Cond.instanceMethod yX0_someBelow, Cond.selects RX0 yX0_someBelow yX0_someBelow, Cond.code yX0_someBelow cX0_someBelow 11 (some .boolean), Cond.methodLink RX3 140 yX3_decide, Cond.instanceMethod yX3_decide, Cond.selects RX3 yX3_decide yX3_decide, Cond.code yX3_decide cX3_decide 2 none, Cond.fieldLink RX3 35 "YearBook" "pages" "LYearBook$Pages;", Cond.methodLink RX3 188 yX1_clear, Cond.instanceMethod yX1_clear, Cond.selects RX1 yX1_clear yX1_clear, Cond.initialized RX1, Cond.code yX1_clear cX1_clear 1 none, Cond.fieldLink RX1 25 "YearBook$Pages" "count" "I", Cond.methodLink RX3 88 yX3_worthOfChoice, Cond.instanceMethod yX3_worthOfChoice]
def wsX3_best_r5 : List Cond := [Cond.selects RX3 yX3_worthOfChoice yX3_worthOfChoice, Cond.code yX3_worthOfChoice cX3_worthOfChoice 3 (some .int)]
def wsX3_best : List Cond := .code yX3_best cX3_best 1 (some .int) :: ((wsX3_best_r1 ++ (wsX3_best_r2 ++ (wsX3_best_r3 ++ (wsX3_best_r4 ++ wsX3_best_r5)))) ++ wsX30 ++ wsX00 ++ wsX20 ++ wsX10)
def wsX3_mend_r1 : List Cond := [Cond.constantLong RX3 154 (4294967296), Cond.fieldLink RX3 28 "YearBook" "chooser" "LYearBook$Chooser;", Cond.fieldLink RX3 85 "YearBook" "choice" "I", Cond.methodLink RX3 143 yX3_offerPictures, Cond.instanceMethod yX3_offerPictures, Cond.selects RX3 yX3_offerPictures yX3_offerPictures, Cond.initialized RX3, Cond.code yX3_offerPictures cX3_offerPictures 7 none, Cond.fieldLink RX3 22 "YearBook" "settings" "[I", Cond.fieldLink RX3 51 "YearBook" "pictureCount" "I", Cond.constantLong RX3 195 (262144), Cond.constantLong RX3 197 (16384), Cond.methodLink RX3 191 yX0_begin, Cond.instanceMethod yX0_begin, Cond.selects RX0 yX0_begin yX0_begin, Cond.initialized RX0, Cond.code yX0_begin cX0_begin 3 none, Cond.fieldLink RX0 34 "YearBook$Chooser" "low" "I", Cond.fieldLink RX0 38 "YearBook$Chooser" "high" "I", Cond.fieldLink RX0 41 "YearBook$Chooser" "size" "I", Cond.constantLong RX0 44 (-1), Cond.fieldLink RX0 46 "YearBook$Chooser" "notCounted" "J", Cond.methodLink RX3 137 yX3_shownIn, Cond.instanceMethod yX3_shownIn]
def wsX3_mend_r2 : List Cond := [Cond.selects RX3 yX3_shownIn yX3_shownIn, Cond.code yX3_shownIn cX3_shownIn 3 (some .int), Cond.methodLink RX3 54 yX3_pictureAt, Cond.instanceMethod yX3_pictureAt, Cond.selects RX3 yX3_pictureAt yX3_pictureAt, Cond.code yX3_pictureAt cX3_pictureAt 2 (some (.object "YearBook$Picture")), Cond.fieldLink RX3 18 "YearBook" "pictures" "[LYearBook$Picture;", Cond.methodLink RX3 185 yX3_worthOf, Cond.instanceMethod yX3_worthOf, Cond.selects RX3 yX3_worthOf yX3_worthOf, Cond.code yX3_worthOf cX3_worthOf 3 (some .int), Cond.methodLink RX3 134 yX3_isChosen, Cond.instanceMethod yX3_isChosen, Cond.selects RX3 yX3_isChosen yX3_isChosen, Cond.code yX3_isChosen cX3_isChosen 2 (some .boolean), Cond.methodLink RX3 199 yX0_offer, Cond.instanceMethod yX0_offer, Cond.selects RX0 yX0_offer yX0_offer, Cond.code yX0_offer cX0_offer 5 none, Cond.fieldLink RX0 9 "YearBook$Chooser" "bits" "[I", Cond.fieldLink RX0 15 "YearBook$Chooser" "shown" "[J", Cond.fieldLink RX0 19 "YearBook$Chooser" "marks" "[J", Cond.constantLong RX0 54 (15), Cond.methodLink RX0 50 yX0_inFours]
def wsX3_mend_r3 : List Cond := [Cond.static yX0_inFours, Cond.code yX0_inFours cX0_inFours 4 (some .long), Cond.methodLink RX3 203 yX0_sumUp, Cond.instanceMethod yX0_sumUp, Cond.selects RX0 yX0_sumUp yX0_sumUp, Cond.code yX0_sumUp cX0_sumUp 3 none, Cond.fieldLink RX0 22 "YearBook$Chooser" "shownFrom" "[J", Cond.fieldLink RX0 25 "YearBook$Chooser" "wishedShownFrom" "[J", Cond.fieldLink RX0 28 "YearBook$Chooser" "wishedBitsFrom" "[I", Cond.fieldLink RX0 31 "YearBook$Chooser" "wishedMarksFrom" "[J", Cond.methodLink RX3 147 yX0_findBest, Cond.instanceMethod yX0_findBest, Cond.selects RX0 yX0_findBest yX0_findBest, Cond.code yX0_findBest cX0_findBest 1 (some .boolean), Cond.fieldLink RX0 56 "YearBook$Chooser" "found" "Z", Cond.methodLink RX0 60 yX0_searchFrom, Cond.instanceMethod yX0_searchFrom, Cond.selects RX0 yX0_searchFrom yX0_searchFrom, Cond.code yX0_searchFrom cX0_searchFrom 10 none, Cond.fieldLink RX0 68 "YearBook$Chooser" "bestMark" "J", Cond.fieldLink RX0 82 "YearBook$Chooser" "bestSet" "I", Cond.methodLink RX0 71 yX0_isLost, Cond.instanceMethod yX0_isLost, Cond.selects RX0 yX0_isLost yX0_isLost]
def wsX3_mend_r4 : List Cond := [Cond.code yX0_isLost cX0_isLost 4 (some .boolean), Cond.methodLink RX0 75 yX0_someAbove, Cond.instanceMethod yX0_someAbove, Cond.selects RX0 yX0_someAbove yX0_someAbove, Cond.code yX0_someAbove cX0_someAbove 9 (some .boolean), Cond.constantLong RX0 85 (72340172838076673), Cond.constantLong RX0 87 (1085102592571150095), Cond.constantLong RX0 89 (-9187201950435737472), Cond.methodLink RX0 79 yX0_someBelow, Cond.instanceMethod yX0_someBelow, Cond.selects RX0 yX0_someBelow yX0_someBelow, Cond.code yX0_someBelow cX0_someBelow 11 (some .boolean), Cond.methodLink RX3 140 yX3_decide, Cond.instanceMethod yX3_decide, Cond.selects RX3 yX3_decide yX3_decide, Cond.code yX3_decide cX3_decide 2 none, Cond.fieldLink RX3 35 "YearBook" "pages" "LYearBook$Pages;", Cond.methodLink RX3 188 yX1_clear, Cond.instanceMethod yX1_clear, Cond.selects RX1 yX1_clear yX1_clear, Cond.initialized RX1, Cond.code yX1_clear cX1_clear 1 none, Cond.fieldLink RX1 25 "YearBook$Pages" "count" "I", Cond.methodLink RX3 156 yJ6_bitCount_0f7a4]
def wsX3_mend_r5 : List Cond := [Cond.static yJ6_bitCount_0f7a4, Cond.initialized RJ6, Cond.code yJ6_bitCount_0f7a4 cJ6_bitCount_0f7a4 1 (some .int), Cond.constant RJ6 265 (1431655765), Cond.constant RJ6 266 (858993459), Cond.constant RJ6 267 (252645135)]
def wsX3_mend : List Cond := .code yX3_mend cX3_mend 2 (some .int) :: ((wsX3_mend_r1 ++ (wsX3_mend_r2 ++ (wsX3_mend_r3 ++ (wsX3_mend_r4 ++ wsX3_mend_r5)))) ++ wsX30 ++ wsX00 ++ wsX20 ++ wsX10)
def wsX3_choices_r1 : List Cond := [Cond.fieldLink RX3 28 "YearBook" "chooser" "LYearBook$Chooser;", Cond.methodLink RX3 143 yX3_offerPictures, Cond.instanceMethod yX3_offerPictures, Cond.selects RX3 yX3_offerPictures yX3_offerPictures, Cond.initialized RX3, Cond.code yX3_offerPictures cX3_offerPictures 7 none, Cond.fieldLink RX3 22 "YearBook" "settings" "[I", Cond.fieldLink RX3 51 "YearBook" "pictureCount" "I", Cond.constantLong RX3 195 (262144), Cond.constantLong RX3 197 (16384), Cond.methodLink RX3 191 yX0_begin, Cond.instanceMethod yX0_begin, Cond.selects RX0 yX0_begin yX0_begin, Cond.initialized RX0, Cond.code yX0_begin cX0_begin 3 none, Cond.fieldLink RX0 34 "YearBook$Chooser" "low" "I", Cond.fieldLink RX0 38 "YearBook$Chooser" "high" "I", Cond.fieldLink RX0 41 "YearBook$Chooser" "size" "I", Cond.constantLong RX0 44 (-1), Cond.fieldLink RX0 46 "YearBook$Chooser" "notCounted" "J", Cond.methodLink RX3 137 yX3_shownIn, Cond.instanceMethod yX3_shownIn, Cond.selects RX3 yX3_shownIn yX3_shownIn, Cond.code yX3_shownIn cX3_shownIn 3 (some .int)]
def wsX3_choices_r2 : List Cond := [Cond.methodLink RX3 54 yX3_pictureAt, Cond.instanceMethod yX3_pictureAt, Cond.selects RX3 yX3_pictureAt yX3_pictureAt, Cond.code yX3_pictureAt cX3_pictureAt 2 (some (.object "YearBook$Picture")), Cond.fieldLink RX3 18 "YearBook" "pictures" "[LYearBook$Picture;", Cond.methodLink RX3 185 yX3_worthOf, Cond.instanceMethod yX3_worthOf, Cond.selects RX3 yX3_worthOf yX3_worthOf, Cond.code yX3_worthOf cX3_worthOf 3 (some .int), Cond.methodLink RX3 134 yX3_isChosen, Cond.instanceMethod yX3_isChosen, Cond.selects RX3 yX3_isChosen yX3_isChosen, Cond.code yX3_isChosen cX3_isChosen 2 (some .boolean), Cond.fieldLink RX3 85 "YearBook" "choice" "I", Cond.methodLink RX3 199 yX0_offer, Cond.instanceMethod yX0_offer, Cond.selects RX0 yX0_offer yX0_offer, Cond.code yX0_offer cX0_offer 5 none, Cond.fieldLink RX0 9 "YearBook$Chooser" "bits" "[I", Cond.fieldLink RX0 15 "YearBook$Chooser" "shown" "[J", Cond.fieldLink RX0 19 "YearBook$Chooser" "marks" "[J", Cond.constantLong RX0 54 (15), Cond.methodLink RX0 50 yX0_inFours, Cond.static yX0_inFours]
def wsX3_choices_r3 : List Cond := [Cond.code yX0_inFours cX0_inFours 4 (some .long), Cond.methodLink RX3 203 yX0_sumUp, Cond.instanceMethod yX0_sumUp, Cond.selects RX0 yX0_sumUp yX0_sumUp, Cond.code yX0_sumUp cX0_sumUp 3 none, Cond.fieldLink RX0 22 "YearBook$Chooser" "shownFrom" "[J", Cond.fieldLink RX0 25 "YearBook$Chooser" "wishedShownFrom" "[J", Cond.fieldLink RX0 28 "YearBook$Chooser" "wishedBitsFrom" "[I", Cond.fieldLink RX0 31 "YearBook$Chooser" "wishedMarksFrom" "[J", Cond.methodLink RX3 161 yX0_countFitting, Cond.instanceMethod yX0_countFitting, Cond.selects RX0 yX0_countFitting yX0_countFitting, Cond.code yX0_countFitting cX0_countFitting 1 (some .int), Cond.methodLink RX0 64 yX0_fittingFrom, Cond.instanceMethod yX0_fittingFrom, Cond.selects RX0 yX0_fittingFrom yX0_fittingFrom, Cond.code yX0_fittingFrom cX0_fittingFrom 4 (some .int), Cond.methodLink RX0 71 yX0_isLost, Cond.instanceMethod yX0_isLost, Cond.selects RX0 yX0_isLost yX0_isLost, Cond.code yX0_isLost cX0_isLost 4 (some .boolean), Cond.methodLink RX0 75 yX0_someAbove, Cond.instanceMethod yX0_someAbove, Cond.selects RX0 yX0_someAbove yX0_someAbove]
def wsX3_choices_r4 : List Cond := [Cond.code yX0_someAbove cX0_someAbove 9 (some .boolean), Cond.constantLong RX0 85 (72340172838076673), Cond.constantLong RX0 87 (1085102592571150095), Cond.constantLong RX0 89 (-9187201950435737472), Cond.methodLink RX0 79 yX0_someBelow, Cond.instanceMethod yX0_someBelow, Cond.selects RX0 yX0_someBelow yX0_someBelow, Cond.code yX0_someBelow cX0_someBelow 11 (some .boolean)]
def wsX3_choices : List Cond := .code yX3_choices cX3_choices 1 (some .int) :: ((wsX3_choices_r1 ++ (wsX3_choices_r2 ++ (wsX3_choices_r3 ++ wsX3_choices_r4))) ++ wsX30 ++ wsX00 ++ wsX20)
def wsX3_lacking : List Cond := .code yX3_lacking cX3_lacking 4 (some .int) :: ([.fieldLink RX3 43 "YearBook" "children" "I", .fieldLink RX3 51 "YearBook" "pictureCount" "I", .fieldLink RX3 22 "YearBook" "settings" "[I", .methodLink RX3 137 yX3_shownIn, .instanceMethod yX3_shownIn, .selects RX3 yX3_shownIn yX3_shownIn, .initialized RX3, .code yX3_shownIn cX3_shownIn 3 (some .int), .methodLink RX3 54 yX3_pictureAt, .instanceMethod yX3_pictureAt, .selects RX3 yX3_pictureAt yX3_pictureAt, .code yX3_pictureAt cX3_pictureAt 2 (some (.object "YearBook$Picture")), .fieldLink RX3 18 "YearBook" "pictures" "[LYearBook$Picture;"] ++ wsX30 ++ wsX20)
def wsX3_fewest_r1 : List Cond := [Cond.fieldLink RX3 35 "YearBook" "pages" "LYearBook$Pages;", Cond.fieldLink RX3 85 "YearBook" "choice" "I", Cond.methodLink RX3 164 yX1_pagesFor, Cond.instanceMethod yX1_pagesFor, Cond.selects RX1 yX1_pagesFor yX1_pagesFor, Cond.initialized RX1, Cond.code yX1_pagesFor cX1_pagesFor 3 (some .int), Cond.fieldLink RX1 28 "YearBook$Pages" "learnt" "I", Cond.fieldLink RX1 21 "YearBook$Pages" "pictures" "I", Cond.fieldLink RX1 18 "YearBook$Pages" "packed" "[I", Cond.methodLink RX1 31 yX1_learnSetsWith, Cond.instanceMethod yX1_learnSetsWith, Cond.selects RX1 yX1_learnSetsWith yX1_learnSetsWith, Cond.code yX1_learnSetsWith cX1_learnSetsWith 6 none, Cond.fieldLink RX1 9 "YearBook$Pages" "sizes" "[I", Cond.methodLink RX1 45 Lib.Math.min.name, Cond.static Lib.Math.min.name, Cond.initialized "java/lang/Math", Cond.code Lib.Math.min.name Lib.Math.min.code 2 (some .int), Cond.methodLink RX1 35 yJ7_copyOf_59c91, Cond.static yJ7_copyOf_59c91, Cond.initialized RJ7, Cond.code yJ7_copyOf_59c91 cJ7_copyOf_59c91 3 (some (.array .int)), Cond.methodLink RJ7 316 ⟨"[I", "clone", "()Ljava/lang/Object;"⟩]
def wsX3_fewest_r2 : List Cond := [Cond.sameMethod "[I" "java/lang/Object" "clone" "()Ljava/lang/Object;", Cond.native ⟨"java/lang/Object", "clone", "()Ljava/lang/Object;"⟩, Cond.instanceMethod ⟨"java/lang/Object", "clone", "()Ljava/lang/Object;"⟩, Cond.selects "[I" ⟨"[I", "clone", "()Ljava/lang/Object;"⟩ ⟨"java/lang/Object", "clone", "()Ljava/lang/Object;"⟩, Cond.classLink RJ7 317 "[I", Cond.arrayClass .int, Cond.methodLink RJ7 304 Lib.Math.min.name, Cond.methodLink RJ7 150 arraycopyName, Cond.native arraycopyName, Cond.static arraycopyName, Cond.initialized "java/lang/System", Cond.methodLink RX1 41 yX1_withOneMore, Cond.static yX1_withOneMore, Cond.code yX1_withOneMore cX1_withOneMore 3 (some .int)]
def wsX3_fewest : List Cond := .code yX3_fewest cX3_fewest 1 (some .int) :: ((wsX3_fewest_r1 ++ wsX3_fewest_r2) ++ wsX30 ++ wsX10)
def wsX3_lay_r1 : List Cond := [Cond.fieldLink RX3 35 "YearBook" "pages" "LYearBook$Pages;", Cond.fieldLink RX3 85 "YearBook" "choice" "I", Cond.fieldLink RX3 22 "YearBook" "settings" "[I", Cond.methodLink RX3 167 yX1_layOut, Cond.instanceMethod yX1_layOut, Cond.selects RX1 yX1_layOut yX1_layOut, Cond.initialized RX1, Cond.code yX1_layOut cX1_layOut 4 (some .int), Cond.fieldLink RX1 25 "YearBook$Pages" "count" "I", Cond.methodLink RX1 50 yX1_pagesFor, Cond.instanceMethod yX1_pagesFor, Cond.selects RX1 yX1_pagesFor yX1_pagesFor, Cond.code yX1_pagesFor cX1_pagesFor 3 (some .int), Cond.fieldLink RX1 28 "YearBook$Pages" "learnt" "I", Cond.fieldLink RX1 21 "YearBook$Pages" "pictures" "I", Cond.fieldLink RX1 18 "YearBook$Pages" "packed" "[I", Cond.methodLink RX1 31 yX1_learnSetsWith, Cond.instanceMethod yX1_learnSetsWith, Cond.selects RX1 yX1_learnSetsWith yX1_learnSetsWith, Cond.code yX1_learnSetsWith cX1_learnSetsWith 6 none, Cond.fieldLink RX1 9 "YearBook$Pages" "sizes" "[I", Cond.methodLink RX1 45 Lib.Math.min.name, Cond.static Lib.Math.min.name, Cond.initialized "java/lang/Math"]
def wsX3_lay_r2 : List Cond := [Cond.code Lib.Math.min.name Lib.Math.min.code 2 (some .int), Cond.methodLink RX1 35 yJ7_copyOf_59c91, Cond.static yJ7_copyOf_59c91, Cond.initialized RJ7, Cond.code yJ7_copyOf_59c91 cJ7_copyOf_59c91 3 (some (.array .int)), Cond.methodLink RJ7 316 ⟨"[I", "clone", "()Ljava/lang/Object;"⟩, Cond.sameMethod "[I" "java/lang/Object" "clone" "()Ljava/lang/Object;", Cond.native ⟨"java/lang/Object", "clone", "()Ljava/lang/Object;"⟩, Cond.instanceMethod ⟨"java/lang/Object", "clone", "()Ljava/lang/Object;"⟩, Cond.selects "[I" ⟨"[I", "clone", "()Ljava/lang/Object;"⟩ ⟨"java/lang/Object", "clone", "()Ljava/lang/Object;"⟩, Cond.classLink RJ7 317 "[I", Cond.arrayClass .int, Cond.methodLink RJ7 304 Lib.Math.min.name, Cond.methodLink RJ7 150 arraycopyName, Cond.native arraycopyName, Cond.static arraycopyName, Cond.initialized "java/lang/System", Cond.methodLink RX1 41 yX1_withOneMore, Cond.static yX1_withOneMore, Cond.code yX1_withOneMore cX1_withOneMore 3 (some .int), Cond.methodLink RX1 54 yX1_layOnto, Cond.instanceMethod yX1_layOnto, Cond.selects RX1 yX1_layOnto yX1_layOnto, Cond.code yX1_layOnto cX1_layOnto 5 none]
def wsX3_lay_r3 : List Cond := [Cond.fieldLink RX1 15 "YearBook$Pages" "sets" "[I", Cond.methodLink RX1 58 yX1_nextPage, Cond.instanceMethod yX1_nextPage, Cond.selects RX1 yX1_nextPage yX1_nextPage, Cond.code yX1_nextPage cX1_nextPage 3 (some .int), Cond.fieldLink RX1 61 "YearBook$Pages" "waiting" "I", Cond.fieldLink RX1 64 "YearBook$Pages" "pagesForRest" "I", Cond.fieldLink RX1 67 "YearBook$Pages" "fullest" "I", Cond.fieldLink RX1 70 "YearBook$Pages" "fullestPoints" "I", Cond.methodLink RX1 73 yX1_fillPage, Cond.instanceMethod yX1_fillPage, Cond.selects RX1 yX1_fillPage yX1_fillPage, Cond.code yX1_fillPage cX1_fillPage 6 none]
def wsX3_lay : List Cond := .code yX3_lay cX3_lay 1 (some .int) :: ((wsX3_lay_r1 ++ (wsX3_lay_r2 ++ wsX3_lay_r3)) ++ wsX30 ++ wsX10)
def wsX3_page : List Cond := .code yX3_page cX3_page 2 (some .int) :: ([.fieldLink RX3 35 "YearBook" "pages" "LYearBook$Pages;", .methodLink RX3 170 yX1_has, .instanceMethod yX1_has, .selects RX1 yX1_has yX1_has, .initialized RX1, .code yX1_has cX1_has 2 (some .boolean), .fieldLink RX1 25 "YearBook$Pages" "count" "I"] ++ wsX30 ++ wsX10)
def wsX3_left : List Cond := .code yX3_left cX3_left 2 (some .int) :: ([.fieldLink RX3 35 "YearBook" "pages" "LYearBook$Pages;", .methodLink RX3 170 yX1_has, .instanceMethod yX1_has, .selects RX1 yX1_has yX1_has, .initialized RX1, .code yX1_has cX1_has 2 (some .boolean), .fieldLink RX1 25 "YearBook$Pages" "count" "I", .methodLink RX3 176 yX1_pointsOf, .instanceMethod yX1_pointsOf, .selects RX1 yX1_pointsOf yX1_pointsOf, .code yX1_pointsOf cX1_pointsOf 4 (some .int), .fieldLink RX1 21 "YearBook$Pages" "pictures" "I", .fieldLink RX1 9 "YearBook$Pages" "sizes" "[I"] ++ wsX30 ++ wsX10)
def wsX3_late_r1 : List Cond := [Cond.fieldLink RX3 35 "YearBook" "pages" "LYearBook$Pages;", Cond.fieldLink RX3 22 "YearBook" "settings" "[I", Cond.fieldLink RX3 85 "YearBook" "choice" "I", Cond.methodLink RX3 54 yX3_pictureAt, Cond.instanceMethod yX3_pictureAt, Cond.selects RX3 yX3_pictureAt yX3_pictureAt, Cond.initialized RX3, Cond.code yX3_pictureAt cX3_pictureAt 2 (some (.object "YearBook$Picture")), Cond.fieldLink RX3 51 "YearBook" "pictureCount" "I", Cond.fieldLink RX3 18 "YearBook" "pictures" "[LYearBook$Picture;", Cond.methodLink RX3 134 yX3_isChosen, Cond.instanceMethod yX3_isChosen, Cond.selects RX3 yX3_isChosen yX3_isChosen, Cond.code yX3_isChosen cX3_isChosen 2 (some .boolean), Cond.methodLink RX3 179 yX1_bringIn, Cond.instanceMethod yX1_bringIn, Cond.selects RX1 yX1_bringIn yX1_bringIn, Cond.initialized RX1, Cond.code yX1_bringIn cX1_bringIn 6 (some .int), Cond.fieldLink RX1 25 "YearBook$Pages" "count" "I", Cond.fieldLink RX1 15 "YearBook$Pages" "sets" "[I", Cond.methodLink RX1 77 yX1_pagesToChange, Cond.instanceMethod yX1_pagesToChange, Cond.selects RX1 yX1_pagesToChange yX1_pagesToChange]
def wsX3_late_r2 : List Cond := [Cond.code yX1_pagesToChange cX1_pagesToChange 5 (some .int), Cond.methodLink RX1 85 yX1_pointsOf, Cond.instanceMethod yX1_pointsOf, Cond.selects RX1 yX1_pointsOf yX1_pointsOf, Cond.code yX1_pointsOf cX1_pointsOf 4 (some .int), Cond.fieldLink RX1 21 "YearBook$Pages" "pictures" "I", Cond.fieldLink RX1 9 "YearBook$Pages" "sizes" "[I", Cond.methodLink RX1 88 yX1_leastPages, Cond.instanceMethod yX1_leastPages, Cond.selects RX1 yX1_leastPages yX1_leastPages, Cond.code yX1_leastPages cX1_leastPages 7 (some .int), Cond.methodLink RX1 50 yX1_pagesFor, Cond.instanceMethod yX1_pagesFor, Cond.selects RX1 yX1_pagesFor yX1_pagesFor, Cond.code yX1_pagesFor cX1_pagesFor 3 (some .int), Cond.fieldLink RX1 28 "YearBook$Pages" "learnt" "I", Cond.fieldLink RX1 18 "YearBook$Pages" "packed" "[I", Cond.methodLink RX1 31 yX1_learnSetsWith, Cond.instanceMethod yX1_learnSetsWith, Cond.selects RX1 yX1_learnSetsWith yX1_learnSetsWith, Cond.code yX1_learnSetsWith cX1_learnSetsWith 6 none, Cond.methodLink RX1 45 Lib.Math.min.name, Cond.static Lib.Math.min.name, Cond.initialized "java/lang/Math"]
def wsX3_late_r3 : List Cond := [Cond.code Lib.Math.min.name Lib.Math.min.code 2 (some .int), Cond.methodLink RX1 35 yJ7_copyOf_59c91, Cond.static yJ7_copyOf_59c91, Cond.initialized RJ7, Cond.code yJ7_copyOf_59c91 cJ7_copyOf_59c91 3 (some (.array .int)), Cond.methodLink RJ7 316 ⟨"[I", "clone", "()Ljava/lang/Object;"⟩, Cond.sameMethod "[I" "java/lang/Object" "clone" "()Ljava/lang/Object;", Cond.native ⟨"java/lang/Object", "clone", "()Ljava/lang/Object;"⟩, Cond.instanceMethod ⟨"java/lang/Object", "clone", "()Ljava/lang/Object;"⟩, Cond.selects "[I" ⟨"[I", "clone", "()Ljava/lang/Object;"⟩ ⟨"java/lang/Object", "clone", "()Ljava/lang/Object;"⟩, Cond.classLink RJ7 317 "[I", Cond.arrayClass .int, Cond.methodLink RJ7 304 Lib.Math.min.name, Cond.methodLink RJ7 150 arraycopyName, Cond.native arraycopyName, Cond.static arraycopyName, Cond.initialized "java/lang/System", Cond.methodLink RX1 41 yX1_withOneMore, Cond.static yX1_withOneMore, Cond.code yX1_withOneMore cX1_withOneMore 3 (some .int), Cond.methodLink RX1 54 yX1_layOnto, Cond.instanceMethod yX1_layOnto, Cond.selects RX1 yX1_layOnto yX1_layOnto, Cond.code yX1_layOnto cX1_layOnto 5 none]
def wsX3_late_r4 : List Cond := [Cond.methodLink RX1 58 yX1_nextPage, Cond.instanceMethod yX1_nextPage, Cond.selects RX1 yX1_nextPage yX1_nextPage, Cond.code yX1_nextPage cX1_nextPage 3 (some .int), Cond.fieldLink RX1 61 "YearBook$Pages" "waiting" "I", Cond.fieldLink RX1 64 "YearBook$Pages" "pagesForRest" "I", Cond.fieldLink RX1 67 "YearBook$Pages" "fullest" "I", Cond.fieldLink RX1 70 "YearBook$Pages" "fullestPoints" "I", Cond.methodLink RX1 73 yX1_fillPage, Cond.instanceMethod yX1_fillPage, Cond.selects RX1 yX1_fillPage yX1_fillPage, Cond.code yX1_fillPage cX1_fillPage 6 none, Cond.methodLink RX1 80 yJ6_bitCount_0f7a4, Cond.static yJ6_bitCount_0f7a4, Cond.initialized RJ6, Cond.code yJ6_bitCount_0f7a4 cJ6_bitCount_0f7a4 1 (some .int), Cond.constant RJ6 265 (1431655765), Cond.constant RJ6 266 (858993459), Cond.constant RJ6 267 (252645135)]
def wsX3_late : List Cond := .code yX3_late cX3_late 3 (some .int) :: ((wsX3_late_r1 ++ (wsX3_late_r2 ++ (wsX3_late_r3 ++ wsX3_late_r4))) ++ wsX30 ++ wsX10)
def wsX3_drop : List Cond := .code yX3_drop cX3_drop 2 (some .boolean) :: ([.fieldLink RX3 35 "YearBook" "pages" "LYearBook$Pages;", .fieldLink RX3 85 "YearBook" "choice" "I", .methodLink RX3 54 yX3_pictureAt, .instanceMethod yX3_pictureAt, .selects RX3 yX3_pictureAt yX3_pictureAt, .initialized RX3, .code yX3_pictureAt cX3_pictureAt 2 (some (.object "YearBook$Picture")), .fieldLink RX3 51 "YearBook" "pictureCount" "I", .fieldLink RX3 18 "YearBook" "pictures" "[LYearBook$Picture;", .methodLink RX3 182 yX1_takeOut, .instanceMethod yX1_takeOut, .selects RX1 yX1_takeOut yX1_takeOut, .initialized RX1, .code yX1_takeOut cX1_takeOut 3 (some .boolean), .fieldLink RX1 25 "YearBook$Pages" "count" "I", .fieldLink RX1 15 "YearBook$Pages" "sets" "[I", .methodLink RX1 92 yX1_pageOf, .instanceMethod yX1_pageOf, .selects RX1 yX1_pageOf yX1_pageOf, .code yX1_pageOf cX1_pageOf 3 (some .int)] ++ wsX30 ++ wsX10)
def wsX4_init : List Cond := .code yX4_init cX4_init 1 none :: ([.methodLink RX4 3 objectInit, .instanceMethod objectInit, .code objectInit ⟨#[0xb1]⟩ 1 none, .arrayClass .int, .fieldLink RX4 9 "YearBookModel" "room" "[I", .fieldLink RX4 13 "YearBookModel" "consent" "[I", .fieldLink RX4 16 "YearBookModel" "kind" "[I", .fieldLink RX4 19 "YearBookModel" "worth" "[I", .fieldLink RX4 22 "YearBookModel" "size" "[I", .fieldLink RX4 25 "YearBookModel" "faces" "[I", .fieldLink RX4 28 "YearBookModel" "who" "[I", .fieldLink RX4 31 "YearBookModel" "x" "[I", .fieldLink RX4 34 "YearBookModel" "y" "[I", .fieldLink RX4 37 "YearBookModel" "\x72" "[I", .fieldLink RX4 40 "YearBookModel" "span" "I", .fieldLink RX4 44 "YearBookModel" "high" "I", .fieldLink RX4 47 "YearBookModel" "last" "I", .fieldLink RX4 50 "YearBookModel" "pages" "[I", .fieldLink RX4 53 "YearBookModel" "cut" "[I", .fieldLink RX4 56 "YearBookModel" "names" "[I", .fieldLink RX4 59 "YearBookModel" "seenBits" "[I", .fieldLink RX4 62 "YearBookModel" "points" "[I", .fieldLink RX4 65 "YearBookModel" "least" "[I", .fieldLink RX4 68 "YearBookModel" "laid" "[I"] ++ wsX40)
def wsX4_thrown : List Cond := .code yX4_thrown cX4_thrown 1 (some .int) :: ([.fieldLink RX4 71 "YearBookModel" "thrown" "I"] ++ wsX40)
def wsX4_in : List Cond := .code yX4_in cX4_in 3 (some .boolean) :: ([])
def wsX4_isPicture : List Cond := .code yX4_isPicture cX4_isPicture 2 (some .boolean) :: ([.fieldLink RX4 74 "YearBookModel" "pictures" "I", .methodLink RX4 77 yX4_in, .static yX4_in, .initialized RX4, .code yX4_in cX4_in 3 (some .boolean)] ++ wsX40)
def wsX4_isChild : List Cond := .code yX4_isChild cX4_isChild 2 (some .boolean) :: ([.fieldLink RX4 81 "YearBookModel" "children" "I", .methodLink RX4 77 yX4_in, .static yX4_in, .initialized RX4, .code yX4_in cX4_in 3 (some .boolean)] ++ wsX40)
def wsX4_child : List Cond := .code yX4_child cX4_child 2 (some .int) :: ([.fieldLink RX4 71 "YearBookModel" "thrown" "I", .fieldLink RX4 81 "YearBookModel" "children" "I", .fieldLink RX4 9 "YearBookModel" "room" "[I", .fieldLink RX4 13 "YearBookModel" "consent" "[I", .methodLink RX4 77 yX4_in, .static yX4_in, .initialized RX4, .code yX4_in cX4_in 3 (some .boolean)] ++ wsX40)
def wsX4_consent : List Cond := .code yX4_consent cX4_consent 4 (some .int) :: ([.fieldLink RX4 71 "YearBookModel" "thrown" "I", .fieldLink RX4 13 "YearBookModel" "consent" "[I", .methodLink RX4 84 yX4_isChild, .instanceMethod yX4_isChild, .selects RX4 yX4_isChild yX4_isChild, .initialized RX4, .code yX4_isChild cX4_isChild 2 (some .boolean), .fieldLink RX4 81 "YearBookModel" "children" "I", .methodLink RX4 77 yX4_in, .static yX4_in, .code yX4_in cX4_in 3 (some .boolean)] ++ wsX40)
def wsX4_picture : List Cond := .code yX4_picture cX4_picture 4 (some .int) :: ([.fieldLink RX4 71 "YearBookModel" "thrown" "I", .fieldLink RX4 74 "YearBookModel" "pictures" "I", .fieldLink RX4 16 "YearBookModel" "kind" "[I", .fieldLink RX4 19 "YearBookModel" "worth" "[I", .fieldLink RX4 22 "YearBookModel" "size" "[I", .fieldLink RX4 25 "YearBookModel" "faces" "[I", .methodLink RX4 77 yX4_in, .static yX4_in, .initialized RX4, .code yX4_in cX4_in 3 (some .boolean)] ++ wsX40)
def wsX4_face : List Cond := .code yX4_face cX4_face 7 (some .int) :: ([.fieldLink RX4 71 "YearBookModel" "thrown" "I", .fieldLink RX4 25 "YearBookModel" "faces" "[I", .fieldLink RX4 28 "YearBookModel" "who" "[I", .fieldLink RX4 31 "YearBookModel" "x" "[I", .fieldLink RX4 34 "YearBookModel" "y" "[I", .fieldLink RX4 37 "YearBookModel" "\x72" "[I", .methodLink RX4 88 yX4_isPicture, .instanceMethod yX4_isPicture, .selects RX4 yX4_isPicture yX4_isPicture, .initialized RX4, .code yX4_isPicture cX4_isPicture 2 (some .boolean), .fieldLink RX4 74 "YearBookModel" "pictures" "I", .methodLink RX4 77 yX4_in, .static yX4_in, .code yX4_in cX4_in 3 (some .boolean), .methodLink RX4 84 yX4_isChild, .instanceMethod yX4_isChild, .selects RX4 yX4_isChild yX4_isChild, .code yX4_isChild cX4_isChild 2 (some .boolean), .fieldLink RX4 81 "YearBookModel" "children" "I"] ++ wsX40)
def wsX4_set : List Cond := .code yX4_set cX4_set 4 (some .int) :: ([.fieldLink RX4 71 "YearBookModel" "thrown" "I", .fieldLink RX4 40 "YearBookModel" "span" "I", .fieldLink RX4 91 "YearBookModel" "low" "I", .fieldLink RX4 44 "YearBookModel" "high" "I", .fieldLink RX4 47 "YearBookModel" "last" "I", .methodLink RX4 77 yX4_in, .static yX4_in, .initialized RX4, .code yX4_in cX4_in 3 (some .boolean)] ++ wsX40)
def wsX4_may : List Cond := .code yX4_may cX4_may 3 (some .boolean) :: ([.fieldLink RX4 13 "YearBookModel" "consent" "[I", .fieldLink RX4 28 "YearBookModel" "who" "[I", .fieldLink RX4 16 "YearBookModel" "kind" "[I"] ++ wsX40)
def wsX4_cutOf : List Cond := .code yX4_cutOf cX4_cutOf 9 (some .boolean) :: ([.fieldLink RX4 25 "YearBookModel" "faces" "[I", .fieldLink RX4 31 "YearBookModel" "x" "[I", .fieldLink RX4 37 "YearBookModel" "\x72" "[I", .fieldLink RX4 34 "YearBookModel" "y" "[I", .fieldLink RX4 53 "YearBookModel" "cut" "[I", .methodLink RX4 94 yX4_may, .instanceMethod yX4_may, .selects RX4 yX4_may yX4_may, .initialized RX4, .code yX4_may cX4_may 3 (some .boolean), .fieldLink RX4 13 "YearBookModel" "consent" "[I", .fieldLink RX4 28 "YearBookModel" "who" "[I", .fieldLink RX4 16 "YearBookModel" "kind" "[I"] ++ wsX40)
def wsX4_isGood : List Cond := .code yX4_isGood cX4_isGood 5 (some .boolean) :: ([.fieldLink RX4 25 "YearBookModel" "faces" "[I", .fieldLink RX4 31 "YearBookModel" "x" "[I", .fieldLink RX4 37 "YearBookModel" "\x72" "[I", .fieldLink RX4 53 "YearBookModel" "cut" "[I", .fieldLink RX4 34 "YearBookModel" "y" "[I", .methodLink RX4 98 yX4_cutOf, .instanceMethod yX4_cutOf, .selects RX4 yX4_cutOf yX4_cutOf, .initialized RX4, .code yX4_cutOf cX4_cutOf 9 (some .boolean), .methodLink RX4 94 yX4_may, .instanceMethod yX4_may, .selects RX4 yX4_may yX4_may, .code yX4_may cX4_may 3 (some .boolean), .fieldLink RX4 13 "YearBookModel" "consent" "[I", .fieldLink RX4 28 "YearBookModel" "who" "[I", .fieldLink RX4 16 "YearBookModel" "kind" "[I"] ++ wsX40)
def wsX4_seenIn : List Cond := .code yX4_seenIn cX4_seenIn 4 (some .int) :: ([.fieldLink RX4 25 "YearBookModel" "faces" "[I", .fieldLink RX4 28 "YearBookModel" "who" "[I", .methodLink RX4 101 yX4_isGood, .instanceMethod yX4_isGood, .selects RX4 yX4_isGood yX4_isGood, .initialized RX4, .code yX4_isGood cX4_isGood 5 (some .boolean), .fieldLink RX4 31 "YearBookModel" "x" "[I", .fieldLink RX4 37 "YearBookModel" "\x72" "[I", .fieldLink RX4 53 "YearBookModel" "cut" "[I", .fieldLink RX4 34 "YearBookModel" "y" "[I", .methodLink RX4 98 yX4_cutOf, .instanceMethod yX4_cutOf, .selects RX4 yX4_cutOf yX4_cutOf, .code yX4_cutOf cX4_cutOf 9 (some .boolean), .methodLink RX4 94 yX4_may, .instanceMethod yX4_may, .selects RX4 yX4_may yX4_may, .code yX4_may cX4_may 3 (some .boolean), .fieldLink RX4 13 "YearBookModel" "consent" "[I", .fieldLink RX4 16 "YearBookModel" "kind" "[I"] ++ wsX40)
def wsX4_good : List Cond := .code yX4_good cX4_good 3 (some .int) :: ([.fieldLink RX4 74 "YearBookModel" "pictures" "I", .methodLink RX4 101 yX4_isGood, .instanceMethod yX4_isGood, .selects RX4 yX4_isGood yX4_isGood, .initialized RX4, .code yX4_isGood cX4_isGood 5 (some .boolean), .fieldLink RX4 25 "YearBookModel" "faces" "[I", .fieldLink RX4 31 "YearBookModel" "x" "[I", .fieldLink RX4 37 "YearBookModel" "\x72" "[I", .fieldLink RX4 53 "YearBookModel" "cut" "[I", .fieldLink RX4 34 "YearBookModel" "y" "[I", .methodLink RX4 98 yX4_cutOf, .instanceMethod yX4_cutOf, .selects RX4 yX4_cutOf yX4_cutOf, .code yX4_cutOf cX4_cutOf 9 (some .boolean), .methodLink RX4 94 yX4_may, .instanceMethod yX4_may, .selects RX4 yX4_may yX4_may, .code yX4_may cX4_may 3 (some .boolean), .fieldLink RX4 13 "YearBookModel" "consent" "[I", .fieldLink RX4 28 "YearBookModel" "who" "[I", .fieldLink RX4 16 "YearBookModel" "kind" "[I"] ++ wsX40)
def wsX4_shown_r1 : List Cond := [Cond.fieldLink RX4 74 "YearBookModel" "pictures" "I", Cond.methodLink RX4 104 yX4_seenIn, Cond.instanceMethod yX4_seenIn, Cond.selects RX4 yX4_seenIn yX4_seenIn, Cond.initialized RX4, Cond.code yX4_seenIn cX4_seenIn 4 (some .int), Cond.fieldLink RX4 25 "YearBookModel" "faces" "[I", Cond.fieldLink RX4 28 "YearBookModel" "who" "[I", Cond.methodLink RX4 101 yX4_isGood, Cond.instanceMethod yX4_isGood, Cond.selects RX4 yX4_isGood yX4_isGood, Cond.code yX4_isGood cX4_isGood 5 (some .boolean), Cond.fieldLink RX4 31 "YearBookModel" "x" "[I", Cond.fieldLink RX4 37 "YearBookModel" "\x72" "[I", Cond.fieldLink RX4 53 "YearBookModel" "cut" "[I", Cond.fieldLink RX4 34 "YearBookModel" "y" "[I", Cond.methodLink RX4 98 yX4_cutOf, Cond.instanceMethod yX4_cutOf, Cond.selects RX4 yX4_cutOf yX4_cutOf, Cond.code yX4_cutOf cX4_cutOf 9 (some .boolean), Cond.methodLink RX4 94 yX4_may, Cond.instanceMethod yX4_may, Cond.selects RX4 yX4_may yX4_may, Cond.code yX4_may cX4_may 3 (some .boolean)]
def wsX4_shown_r2 : List Cond := [Cond.fieldLink RX4 13 "YearBookModel" "consent" "[I", Cond.fieldLink RX4 16 "YearBookModel" "kind" "[I"]
def wsX4_shown : List Cond := .code yX4_shown cX4_shown 3 (some .int) :: ((wsX4_shown_r1 ++ wsX4_shown_r2) ++ wsX40)
def wsX4_sum : List Cond := .code yX4_sum cX4_sum 4 (some .int) :: ([.fieldLink RX4 74 "YearBookModel" "pictures" "I", .fieldLink RX4 19 "YearBookModel" "worth" "[I"] ++ wsX40)
def wsX4_count_r1 : List Cond := [Cond.fieldLink RX4 71 "YearBookModel" "thrown" "I", Cond.fieldLink RX4 81 "YearBookModel" "children" "I", Cond.fieldLink RX4 74 "YearBookModel" "pictures" "I", Cond.fieldLink RX4 108 "YearBookModel" "choice" "I", Cond.fieldLink RX4 114 "YearBookModel" "pageMany" "I", Cond.methodLink RX4 111 yX4_sum, Cond.instanceMethod yX4_sum, Cond.selects RX4 yX4_sum yX4_sum, Cond.initialized RX4, Cond.code yX4_sum cX4_sum 4 (some .int), Cond.fieldLink RX4 19 "YearBookModel" "worth" "[I", Cond.methodLink RX4 117 yX4_good, Cond.instanceMethod yX4_good, Cond.selects RX4 yX4_good yX4_good, Cond.code yX4_good cX4_good 3 (some .int), Cond.methodLink RX4 101 yX4_isGood, Cond.instanceMethod yX4_isGood, Cond.selects RX4 yX4_isGood yX4_isGood, Cond.code yX4_isGood cX4_isGood 5 (some .boolean), Cond.fieldLink RX4 25 "YearBookModel" "faces" "[I", Cond.fieldLink RX4 31 "YearBookModel" "x" "[I", Cond.fieldLink RX4 37 "YearBookModel" "\x72" "[I", Cond.fieldLink RX4 53 "YearBookModel" "cut" "[I", Cond.fieldLink RX4 34 "YearBookModel" "y" "[I"]
def wsX4_count_r2 : List Cond := [Cond.methodLink RX4 98 yX4_cutOf, Cond.instanceMethod yX4_cutOf, Cond.selects RX4 yX4_cutOf yX4_cutOf, Cond.code yX4_cutOf cX4_cutOf 9 (some .boolean), Cond.methodLink RX4 94 yX4_may, Cond.instanceMethod yX4_may, Cond.selects RX4 yX4_may yX4_may, Cond.code yX4_may cX4_may 3 (some .boolean), Cond.fieldLink RX4 13 "YearBookModel" "consent" "[I", Cond.fieldLink RX4 28 "YearBookModel" "who" "[I", Cond.fieldLink RX4 16 "YearBookModel" "kind" "[I", Cond.methodLink RX4 121 yX4_shown, Cond.instanceMethod yX4_shown, Cond.selects RX4 yX4_shown yX4_shown, Cond.code yX4_shown cX4_shown 3 (some .int), Cond.methodLink RX4 104 yX4_seenIn, Cond.instanceMethod yX4_seenIn, Cond.selects RX4 yX4_seenIn yX4_seenIn, Cond.code yX4_seenIn cX4_seenIn 4 (some .int)]
def wsX4_count : List Cond := .code yX4_count cX4_count 2 (some .int) :: ((wsX4_count_r1 ++ wsX4_count_r2) ++ wsX40)
def wsX4_pageOf : List Cond := .code yX4_pageOf cX4_pageOf 3 (some .int) :: ([.fieldLink RX4 114 "YearBookModel" "pageMany" "I", .fieldLink RX4 50 "YearBookModel" "pages" "[I"] ++ wsX40)
def wsX4_told_r1 : List Cond := [Cond.fieldLink RX4 71 "YearBookModel" "thrown" "I", Cond.fieldLink RX4 16 "YearBookModel" "kind" "[I", Cond.fieldLink RX4 19 "YearBookModel" "worth" "[I", Cond.fieldLink RX4 22 "YearBookModel" "size" "[I", Cond.fieldLink RX4 25 "YearBookModel" "faces" "[I", Cond.fieldLink RX4 53 "YearBookModel" "cut" "[I", Cond.methodLink RX4 88 yX4_isPicture, Cond.instanceMethod yX4_isPicture, Cond.selects RX4 yX4_isPicture yX4_isPicture, Cond.initialized RX4, Cond.code yX4_isPicture cX4_isPicture 2 (some .boolean), Cond.fieldLink RX4 74 "YearBookModel" "pictures" "I", Cond.methodLink RX4 77 yX4_in, Cond.static yX4_in, Cond.code yX4_in cX4_in 3 (some .boolean), Cond.methodLink RX4 101 yX4_isGood, Cond.instanceMethod yX4_isGood, Cond.selects RX4 yX4_isGood yX4_isGood, Cond.code yX4_isGood cX4_isGood 5 (some .boolean), Cond.fieldLink RX4 31 "YearBookModel" "x" "[I", Cond.fieldLink RX4 37 "YearBookModel" "\x72" "[I", Cond.fieldLink RX4 34 "YearBookModel" "y" "[I", Cond.methodLink RX4 98 yX4_cutOf, Cond.instanceMethod yX4_cutOf]
def wsX4_told_r2 : List Cond := [Cond.selects RX4 yX4_cutOf yX4_cutOf, Cond.code yX4_cutOf cX4_cutOf 9 (some .boolean), Cond.methodLink RX4 94 yX4_may, Cond.instanceMethod yX4_may, Cond.selects RX4 yX4_may yX4_may, Cond.code yX4_may cX4_may 3 (some .boolean), Cond.fieldLink RX4 13 "YearBookModel" "consent" "[I", Cond.fieldLink RX4 28 "YearBookModel" "who" "[I", Cond.methodLink RX4 104 yX4_seenIn, Cond.instanceMethod yX4_seenIn, Cond.selects RX4 yX4_seenIn yX4_seenIn, Cond.code yX4_seenIn cX4_seenIn 4 (some .int), Cond.methodLink RX4 124 yX4_pageOf, Cond.instanceMethod yX4_pageOf, Cond.selects RX4 yX4_pageOf yX4_pageOf, Cond.code yX4_pageOf cX4_pageOf 3 (some .int), Cond.fieldLink RX4 114 "YearBookModel" "pageMany" "I", Cond.fieldLink RX4 50 "YearBookModel" "pages" "[I"]
def wsX4_told : List Cond := .code yX4_told cX4_told 3 (some .int) :: ((wsX4_told_r1 ++ wsX4_told_r2) ++ wsX40)
def wsX4_nameAll : List Cond := .code yX4_nameAll cX4_nameAll 10 (some .int) :: ([.fieldLink RX4 25 "YearBookModel" "faces" "[I", .fieldLink RX4 34 "YearBookModel" "y" "[I", .fieldLink RX4 40 "YearBookModel" "span" "I", .fieldLink RX4 31 "YearBookModel" "x" "[I", .fieldLink RX4 28 "YearBookModel" "who" "[I", .fieldLink RX4 56 "YearBookModel" "names" "[I", .methodLink RX4 94 yX4_may, .instanceMethod yX4_may, .selects RX4 yX4_may yX4_may, .initialized RX4, .code yX4_may cX4_may 3 (some .boolean), .fieldLink RX4 13 "YearBookModel" "consent" "[I", .fieldLink RX4 16 "YearBookModel" "kind" "[I"] ++ wsX40)
def wsX4_name_r1 : List Cond := [Cond.fieldLink RX4 71 "YearBookModel" "thrown" "I", Cond.fieldLink RX4 56 "YearBookModel" "names" "[I", Cond.methodLink RX4 88 yX4_isPicture, Cond.instanceMethod yX4_isPicture, Cond.selects RX4 yX4_isPicture yX4_isPicture, Cond.initialized RX4, Cond.code yX4_isPicture cX4_isPicture 2 (some .boolean), Cond.fieldLink RX4 74 "YearBookModel" "pictures" "I", Cond.methodLink RX4 77 yX4_in, Cond.static yX4_in, Cond.code yX4_in cX4_in 3 (some .boolean), Cond.methodLink RX4 101 yX4_isGood, Cond.instanceMethod yX4_isGood, Cond.selects RX4 yX4_isGood yX4_isGood, Cond.code yX4_isGood cX4_isGood 5 (some .boolean), Cond.fieldLink RX4 25 "YearBookModel" "faces" "[I", Cond.fieldLink RX4 31 "YearBookModel" "x" "[I", Cond.fieldLink RX4 37 "YearBookModel" "\x72" "[I", Cond.fieldLink RX4 53 "YearBookModel" "cut" "[I", Cond.fieldLink RX4 34 "YearBookModel" "y" "[I", Cond.methodLink RX4 98 yX4_cutOf, Cond.instanceMethod yX4_cutOf, Cond.selects RX4 yX4_cutOf yX4_cutOf, Cond.code yX4_cutOf cX4_cutOf 9 (some .boolean)]
def wsX4_name_r2 : List Cond := [Cond.methodLink RX4 94 yX4_may, Cond.instanceMethod yX4_may, Cond.selects RX4 yX4_may yX4_may, Cond.code yX4_may cX4_may 3 (some .boolean), Cond.fieldLink RX4 13 "YearBookModel" "consent" "[I", Cond.fieldLink RX4 28 "YearBookModel" "who" "[I", Cond.fieldLink RX4 16 "YearBookModel" "kind" "[I", Cond.methodLink RX4 127 yX4_nameAll, Cond.instanceMethod yX4_nameAll, Cond.selects RX4 yX4_nameAll yX4_nameAll, Cond.code yX4_nameAll cX4_nameAll 10 (some .int), Cond.fieldLink RX4 40 "YearBookModel" "span" "I"]
def wsX4_name : List Cond := .code yX4_name cX4_name 4 (some .int) :: ((wsX4_name_r1 ++ wsX4_name_r2) ++ wsX40)
def wsX4_timesIn_r1 : List Cond := [Cond.fieldLink RX4 74 "YearBookModel" "pictures" "I", Cond.methodLink RX4 104 yX4_seenIn, Cond.instanceMethod yX4_seenIn, Cond.selects RX4 yX4_seenIn yX4_seenIn, Cond.initialized RX4, Cond.code yX4_seenIn cX4_seenIn 4 (some .int), Cond.fieldLink RX4 25 "YearBookModel" "faces" "[I", Cond.fieldLink RX4 28 "YearBookModel" "who" "[I", Cond.methodLink RX4 101 yX4_isGood, Cond.instanceMethod yX4_isGood, Cond.selects RX4 yX4_isGood yX4_isGood, Cond.code yX4_isGood cX4_isGood 5 (some .boolean), Cond.fieldLink RX4 31 "YearBookModel" "x" "[I", Cond.fieldLink RX4 37 "YearBookModel" "\x72" "[I", Cond.fieldLink RX4 53 "YearBookModel" "cut" "[I", Cond.fieldLink RX4 34 "YearBookModel" "y" "[I", Cond.methodLink RX4 98 yX4_cutOf, Cond.instanceMethod yX4_cutOf, Cond.selects RX4 yX4_cutOf yX4_cutOf, Cond.code yX4_cutOf cX4_cutOf 9 (some .boolean), Cond.methodLink RX4 94 yX4_may, Cond.instanceMethod yX4_may, Cond.selects RX4 yX4_may yX4_may, Cond.code yX4_may cX4_may 3 (some .boolean)]
def wsX4_timesIn_r2 : List Cond := [Cond.fieldLink RX4 13 "YearBookModel" "consent" "[I", Cond.fieldLink RX4 16 "YearBookModel" "kind" "[I"]
def wsX4_timesIn : List Cond := .code yX4_timesIn cX4_timesIn 5 (some .int) :: ((wsX4_timesIn_r1 ++ wsX4_timesIn_r2) ++ wsX40)
def wsX4_seen_r1 : List Cond := [Cond.fieldLink RX4 71 "YearBookModel" "thrown" "I", Cond.fieldLink RX4 108 "YearBookModel" "choice" "I", Cond.methodLink RX4 84 yX4_isChild, Cond.instanceMethod yX4_isChild, Cond.selects RX4 yX4_isChild yX4_isChild, Cond.initialized RX4, Cond.code yX4_isChild cX4_isChild 2 (some .boolean), Cond.fieldLink RX4 81 "YearBookModel" "children" "I", Cond.methodLink RX4 77 yX4_in, Cond.static yX4_in, Cond.code yX4_in cX4_in 3 (some .boolean), Cond.methodLink RX4 130 yX4_timesIn, Cond.instanceMethod yX4_timesIn, Cond.selects RX4 yX4_timesIn yX4_timesIn, Cond.code yX4_timesIn cX4_timesIn 5 (some .int), Cond.fieldLink RX4 74 "YearBookModel" "pictures" "I", Cond.methodLink RX4 104 yX4_seenIn, Cond.instanceMethod yX4_seenIn, Cond.selects RX4 yX4_seenIn yX4_seenIn, Cond.code yX4_seenIn cX4_seenIn 4 (some .int), Cond.fieldLink RX4 25 "YearBookModel" "faces" "[I", Cond.fieldLink RX4 28 "YearBookModel" "who" "[I", Cond.methodLink RX4 101 yX4_isGood, Cond.instanceMethod yX4_isGood]
def wsX4_seen_r2 : List Cond := [Cond.selects RX4 yX4_isGood yX4_isGood, Cond.code yX4_isGood cX4_isGood 5 (some .boolean), Cond.fieldLink RX4 31 "YearBookModel" "x" "[I", Cond.fieldLink RX4 37 "YearBookModel" "\x72" "[I", Cond.fieldLink RX4 53 "YearBookModel" "cut" "[I", Cond.fieldLink RX4 34 "YearBookModel" "y" "[I", Cond.methodLink RX4 98 yX4_cutOf, Cond.instanceMethod yX4_cutOf, Cond.selects RX4 yX4_cutOf yX4_cutOf, Cond.code yX4_cutOf cX4_cutOf 9 (some .boolean), Cond.methodLink RX4 94 yX4_may, Cond.instanceMethod yX4_may, Cond.selects RX4 yX4_may yX4_may, Cond.code yX4_may cX4_may 3 (some .boolean), Cond.fieldLink RX4 13 "YearBookModel" "consent" "[I", Cond.fieldLink RX4 16 "YearBookModel" "kind" "[I"]
def wsX4_seen : List Cond := .code yX4_seen cX4_seen 2 (some .int) :: ((wsX4_seen_r1 ++ wsX4_seen_r2) ++ wsX40)
def wsX4_proof_r1 : List Cond := [Cond.fieldLink RX4 71 "YearBookModel" "thrown" "I", Cond.fieldLink RX4 74 "YearBookModel" "pictures" "I", Cond.fieldLink RX4 108 "YearBookModel" "choice" "I", Cond.methodLink RX4 84 yX4_isChild, Cond.instanceMethod yX4_isChild, Cond.selects RX4 yX4_isChild yX4_isChild, Cond.initialized RX4, Cond.code yX4_isChild cX4_isChild 2 (some .boolean), Cond.fieldLink RX4 81 "YearBookModel" "children" "I", Cond.methodLink RX4 77 yX4_in, Cond.static yX4_in, Cond.code yX4_in cX4_in 3 (some .boolean), Cond.methodLink RX4 104 yX4_seenIn, Cond.instanceMethod yX4_seenIn, Cond.selects RX4 yX4_seenIn yX4_seenIn, Cond.code yX4_seenIn cX4_seenIn 4 (some .int), Cond.fieldLink RX4 25 "YearBookModel" "faces" "[I", Cond.fieldLink RX4 28 "YearBookModel" "who" "[I", Cond.methodLink RX4 101 yX4_isGood, Cond.instanceMethod yX4_isGood, Cond.selects RX4 yX4_isGood yX4_isGood, Cond.code yX4_isGood cX4_isGood 5 (some .boolean), Cond.fieldLink RX4 31 "YearBookModel" "x" "[I", Cond.fieldLink RX4 37 "YearBookModel" "\x72" "[I"]
def wsX4_proof_r2 : List Cond := [Cond.fieldLink RX4 53 "YearBookModel" "cut" "[I", Cond.fieldLink RX4 34 "YearBookModel" "y" "[I", Cond.methodLink RX4 98 yX4_cutOf, Cond.instanceMethod yX4_cutOf, Cond.selects RX4 yX4_cutOf yX4_cutOf, Cond.code yX4_cutOf cX4_cutOf 9 (some .boolean), Cond.methodLink RX4 94 yX4_may, Cond.instanceMethod yX4_may, Cond.selects RX4 yX4_may yX4_may, Cond.code yX4_may cX4_may 3 (some .boolean), Cond.fieldLink RX4 13 "YearBookModel" "consent" "[I", Cond.fieldLink RX4 16 "YearBookModel" "kind" "[I"]
def wsX4_proof : List Cond := .code yX4_proof cX4_proof 5 (some .int) :: ((wsX4_proof_r1 ++ wsX4_proof_r2) ++ wsX40)
def wsX4_shows_r1 : List Cond := [Cond.fieldLink RX4 71 "YearBookModel" "thrown" "I", Cond.fieldLink RX4 81 "YearBookModel" "children" "I", Cond.fieldLink RX4 9 "YearBookModel" "room" "[I", Cond.fieldLink RX4 74 "YearBookModel" "pictures" "I", Cond.fieldLink RX4 108 "YearBookModel" "choice" "I", Cond.methodLink RX4 77 yX4_in, Cond.static yX4_in, Cond.initialized RX4, Cond.code yX4_in cX4_in 3 (some .boolean), Cond.methodLink RX4 104 yX4_seenIn, Cond.instanceMethod yX4_seenIn, Cond.selects RX4 yX4_seenIn yX4_seenIn, Cond.code yX4_seenIn cX4_seenIn 4 (some .int), Cond.fieldLink RX4 25 "YearBookModel" "faces" "[I", Cond.fieldLink RX4 28 "YearBookModel" "who" "[I", Cond.methodLink RX4 101 yX4_isGood, Cond.instanceMethod yX4_isGood, Cond.selects RX4 yX4_isGood yX4_isGood, Cond.code yX4_isGood cX4_isGood 5 (some .boolean), Cond.fieldLink RX4 31 "YearBookModel" "x" "[I", Cond.fieldLink RX4 37 "YearBookModel" "\x72" "[I", Cond.fieldLink RX4 53 "YearBookModel" "cut" "[I", Cond.fieldLink RX4 34 "YearBookModel" "y" "[I", Cond.methodLink RX4 98 yX4_cutOf]
def wsX4_shows_r2 : List Cond := [Cond.instanceMethod yX4_cutOf, Cond.selects RX4 yX4_cutOf yX4_cutOf, Cond.code yX4_cutOf cX4_cutOf 9 (some .boolean), Cond.methodLink RX4 94 yX4_may, Cond.instanceMethod yX4_may, Cond.selects RX4 yX4_may yX4_may, Cond.code yX4_may cX4_may 3 (some .boolean), Cond.fieldLink RX4 13 "YearBookModel" "consent" "[I", Cond.fieldLink RX4 16 "YearBookModel" "kind" "[I"]
def wsX4_shows : List Cond := .code yX4_shows cX4_shows 5 (some .int) :: ((wsX4_shows_r1 ++ wsX4_shows_r2) ++ wsX40)
def wsX4_choose : List Cond := .code yX4_choose cX4_choose 2 (some .boolean) :: ([.fieldLink RX4 71 "YearBookModel" "thrown" "I", .fieldLink RX4 74 "YearBookModel" "pictures" "I", .fieldLink RX4 108 "YearBookModel" "choice" "I", .fieldLink RX4 114 "YearBookModel" "pageMany" "I", .methodLink RX4 77 yX4_in, .static yX4_in, .initialized RX4, .code yX4_in cX4_in 3 (some .boolean)] ++ wsX40)
def wsX4_takeSeen_r1 : List Cond := [Cond.fieldLink RX4 134 "YearBookModel" "allShown" "I", Cond.fieldLink RX4 74 "YearBookModel" "pictures" "I", Cond.fieldLink RX4 59 "YearBookModel" "seenBits" "[I", Cond.methodLink RX4 104 yX4_seenIn, Cond.instanceMethod yX4_seenIn, Cond.selects RX4 yX4_seenIn yX4_seenIn, Cond.initialized RX4, Cond.code yX4_seenIn cX4_seenIn 4 (some .int), Cond.fieldLink RX4 25 "YearBookModel" "faces" "[I", Cond.fieldLink RX4 28 "YearBookModel" "who" "[I", Cond.methodLink RX4 101 yX4_isGood, Cond.instanceMethod yX4_isGood, Cond.selects RX4 yX4_isGood yX4_isGood, Cond.code yX4_isGood cX4_isGood 5 (some .boolean), Cond.fieldLink RX4 31 "YearBookModel" "x" "[I", Cond.fieldLink RX4 37 "YearBookModel" "\x72" "[I", Cond.fieldLink RX4 53 "YearBookModel" "cut" "[I", Cond.fieldLink RX4 34 "YearBookModel" "y" "[I", Cond.methodLink RX4 98 yX4_cutOf, Cond.instanceMethod yX4_cutOf, Cond.selects RX4 yX4_cutOf yX4_cutOf, Cond.code yX4_cutOf cX4_cutOf 9 (some .boolean), Cond.methodLink RX4 94 yX4_may, Cond.instanceMethod yX4_may]
def wsX4_takeSeen_r2 : List Cond := [Cond.selects RX4 yX4_may yX4_may, Cond.code yX4_may cX4_may 3 (some .boolean), Cond.fieldLink RX4 13 "YearBookModel" "consent" "[I", Cond.fieldLink RX4 16 "YearBookModel" "kind" "[I"]
def wsX4_takeSeen : List Cond := .code yX4_takeSeen cX4_takeSeen 2 none :: ((wsX4_takeSeen_r1 ++ wsX4_takeSeen_r2) ++ wsX40)
def wsX4_why : List Cond := .code yX4_why cX4_why 7 (some .int) :: ([.fieldLink RX4 81 "YearBookModel" "children" "I", .fieldLink RX4 134 "YearBookModel" "allShown" "I", .fieldLink RX4 74 "YearBookModel" "pictures" "I", .fieldLink RX4 59 "YearBookModel" "seenBits" "[I", .fieldLink RX4 91 "YearBookModel" "low" "I", .fieldLink RX4 44 "YearBookModel" "high" "I"] ++ wsX40)
def wsX4_wrong_r1 : List Cond := [Cond.fieldLink RX4 71 "YearBookModel" "thrown" "I", Cond.fieldLink RX4 108 "YearBookModel" "choice" "I", Cond.methodLink RX4 117 yX4_good, Cond.instanceMethod yX4_good, Cond.selects RX4 yX4_good yX4_good, Cond.initialized RX4, Cond.code yX4_good cX4_good 3 (some .int), Cond.fieldLink RX4 74 "YearBookModel" "pictures" "I", Cond.methodLink RX4 101 yX4_isGood, Cond.instanceMethod yX4_isGood, Cond.selects RX4 yX4_isGood yX4_isGood, Cond.code yX4_isGood cX4_isGood 5 (some .boolean), Cond.fieldLink RX4 25 "YearBookModel" "faces" "[I", Cond.fieldLink RX4 31 "YearBookModel" "x" "[I", Cond.fieldLink RX4 37 "YearBookModel" "\x72" "[I", Cond.fieldLink RX4 53 "YearBookModel" "cut" "[I", Cond.fieldLink RX4 34 "YearBookModel" "y" "[I", Cond.methodLink RX4 98 yX4_cutOf, Cond.instanceMethod yX4_cutOf, Cond.selects RX4 yX4_cutOf yX4_cutOf, Cond.code yX4_cutOf cX4_cutOf 9 (some .boolean), Cond.methodLink RX4 94 yX4_may, Cond.instanceMethod yX4_may, Cond.selects RX4 yX4_may yX4_may]
def wsX4_wrong_r2 : List Cond := [Cond.code yX4_may cX4_may 3 (some .boolean), Cond.fieldLink RX4 13 "YearBookModel" "consent" "[I", Cond.fieldLink RX4 28 "YearBookModel" "who" "[I", Cond.fieldLink RX4 16 "YearBookModel" "kind" "[I", Cond.methodLink RX4 137 yX4_takeSeen, Cond.instanceMethod yX4_takeSeen, Cond.selects RX4 yX4_takeSeen yX4_takeSeen, Cond.code yX4_takeSeen cX4_takeSeen 2 none, Cond.fieldLink RX4 134 "YearBookModel" "allShown" "I", Cond.fieldLink RX4 59 "YearBookModel" "seenBits" "[I", Cond.methodLink RX4 104 yX4_seenIn, Cond.instanceMethod yX4_seenIn, Cond.selects RX4 yX4_seenIn yX4_seenIn, Cond.code yX4_seenIn cX4_seenIn 4 (some .int), Cond.methodLink RX4 140 yX4_why, Cond.instanceMethod yX4_why, Cond.selects RX4 yX4_why yX4_why, Cond.code yX4_why cX4_why 7 (some .int), Cond.fieldLink RX4 81 "YearBookModel" "children" "I", Cond.fieldLink RX4 91 "YearBookModel" "low" "I", Cond.fieldLink RX4 44 "YearBookModel" "high" "I"]
def wsX4_wrong : List Cond := .code yX4_wrong cX4_wrong 1 (some .int) :: ((wsX4_wrong_r1 ++ wsX4_wrong_r2) ++ wsX40)
def wsX4_isAhead : List Cond := .code yX4_isAhead cX4_isAhead 6 (some .boolean) :: ([.fieldLink RX4 108 "YearBookModel" "choice" "I", .methodLink RX4 147 yJ6_bitCount_0f7a4, .static yJ6_bitCount_0f7a4, .initialized RJ6, .code yJ6_bitCount_0f7a4 cJ6_bitCount_0f7a4 1 (some .int), .constant RJ6 265 (1431655765), .constant RJ6 266 (858993459), .constant RJ6 267 (252645135), .methodLink RX4 111 yX4_sum, .instanceMethod yX4_sum, .selects RX4 yX4_sum yX4_sum, .initialized RX4, .code yX4_sum cX4_sum 4 (some .int), .fieldLink RX4 74 "YearBookModel" "pictures" "I", .fieldLink RX4 19 "YearBookModel" "worth" "[I"] ++ wsX40)
def wsX4_search_r1 : List Cond := [Cond.fieldLink RX4 74 "YearBookModel" "pictures" "I", Cond.methodLink RX4 117 yX4_good, Cond.instanceMethod yX4_good, Cond.selects RX4 yX4_good yX4_good, Cond.initialized RX4, Cond.code yX4_good cX4_good 3 (some .int), Cond.methodLink RX4 101 yX4_isGood, Cond.instanceMethod yX4_isGood, Cond.selects RX4 yX4_isGood yX4_isGood, Cond.code yX4_isGood cX4_isGood 5 (some .boolean), Cond.fieldLink RX4 25 "YearBookModel" "faces" "[I", Cond.fieldLink RX4 31 "YearBookModel" "x" "[I", Cond.fieldLink RX4 37 "YearBookModel" "\x72" "[I", Cond.fieldLink RX4 53 "YearBookModel" "cut" "[I", Cond.fieldLink RX4 34 "YearBookModel" "y" "[I", Cond.methodLink RX4 98 yX4_cutOf, Cond.instanceMethod yX4_cutOf, Cond.selects RX4 yX4_cutOf yX4_cutOf, Cond.code yX4_cutOf cX4_cutOf 9 (some .boolean), Cond.methodLink RX4 94 yX4_may, Cond.instanceMethod yX4_may, Cond.selects RX4 yX4_may yX4_may, Cond.code yX4_may cX4_may 3 (some .boolean), Cond.fieldLink RX4 13 "YearBookModel" "consent" "[I"]
def wsX4_search_r2 : List Cond := [Cond.fieldLink RX4 28 "YearBookModel" "who" "[I", Cond.fieldLink RX4 16 "YearBookModel" "kind" "[I", Cond.methodLink RX4 137 yX4_takeSeen, Cond.instanceMethod yX4_takeSeen, Cond.selects RX4 yX4_takeSeen yX4_takeSeen, Cond.code yX4_takeSeen cX4_takeSeen 2 none, Cond.fieldLink RX4 134 "YearBookModel" "allShown" "I", Cond.fieldLink RX4 59 "YearBookModel" "seenBits" "[I", Cond.methodLink RX4 104 yX4_seenIn, Cond.instanceMethod yX4_seenIn, Cond.selects RX4 yX4_seenIn yX4_seenIn, Cond.code yX4_seenIn cX4_seenIn 4 (some .int), Cond.methodLink RX4 140 yX4_why, Cond.instanceMethod yX4_why, Cond.selects RX4 yX4_why yX4_why, Cond.code yX4_why cX4_why 7 (some .int), Cond.fieldLink RX4 81 "YearBookModel" "children" "I", Cond.fieldLink RX4 91 "YearBookModel" "low" "I", Cond.fieldLink RX4 44 "YearBookModel" "high" "I", Cond.methodLink RX4 143 yX4_isAhead, Cond.instanceMethod yX4_isAhead, Cond.selects RX4 yX4_isAhead yX4_isAhead, Cond.code yX4_isAhead cX4_isAhead 6 (some .boolean), Cond.fieldLink RX4 108 "YearBookModel" "choice" "I"]
def wsX4_search_r3 : List Cond := [Cond.methodLink RX4 147 yJ6_bitCount_0f7a4, Cond.static yJ6_bitCount_0f7a4, Cond.initialized RJ6, Cond.code yJ6_bitCount_0f7a4 cJ6_bitCount_0f7a4 1 (some .int), Cond.constant RJ6 265 (1431655765), Cond.constant RJ6 266 (858993459), Cond.constant RJ6 267 (252645135), Cond.methodLink RX4 111 yX4_sum, Cond.instanceMethod yX4_sum, Cond.selects RX4 yX4_sum yX4_sum, Cond.code yX4_sum cX4_sum 4 (some .int), Cond.fieldLink RX4 19 "YearBookModel" "worth" "[I"]
def wsX4_search : List Cond := .code yX4_search cX4_search 5 (some .int) :: ((wsX4_search_r1 ++ (wsX4_search_r2 ++ wsX4_search_r3)) ++ wsX40)
def wsX4_best_r1 : List Cond := [Cond.fieldLink RX4 71 "YearBookModel" "thrown" "I", Cond.fieldLink RX4 108 "YearBookModel" "choice" "I", Cond.fieldLink RX4 114 "YearBookModel" "pageMany" "I", Cond.methodLink RX4 152 yX4_search, Cond.instanceMethod yX4_search, Cond.selects RX4 yX4_search yX4_search, Cond.initialized RX4, Cond.code yX4_search cX4_search 5 (some .int), Cond.fieldLink RX4 74 "YearBookModel" "pictures" "I", Cond.methodLink RX4 117 yX4_good, Cond.instanceMethod yX4_good, Cond.selects RX4 yX4_good yX4_good, Cond.code yX4_good cX4_good 3 (some .int), Cond.methodLink RX4 101 yX4_isGood, Cond.instanceMethod yX4_isGood, Cond.selects RX4 yX4_isGood yX4_isGood, Cond.code yX4_isGood cX4_isGood 5 (some .boolean), Cond.fieldLink RX4 25 "YearBookModel" "faces" "[I", Cond.fieldLink RX4 31 "YearBookModel" "x" "[I", Cond.fieldLink RX4 37 "YearBookModel" "\x72" "[I", Cond.fieldLink RX4 53 "YearBookModel" "cut" "[I", Cond.fieldLink RX4 34 "YearBookModel" "y" "[I", Cond.methodLink RX4 98 yX4_cutOf, Cond.instanceMethod yX4_cutOf]
def wsX4_best_r2 : List Cond := [Cond.selects RX4 yX4_cutOf yX4_cutOf, Cond.code yX4_cutOf cX4_cutOf 9 (some .boolean), Cond.methodLink RX4 94 yX4_may, Cond.instanceMethod yX4_may, Cond.selects RX4 yX4_may yX4_may, Cond.code yX4_may cX4_may 3 (some .boolean), Cond.fieldLink RX4 13 "YearBookModel" "consent" "[I", Cond.fieldLink RX4 28 "YearBookModel" "who" "[I", Cond.fieldLink RX4 16 "YearBookModel" "kind" "[I", Cond.methodLink RX4 137 yX4_takeSeen, Cond.instanceMethod yX4_takeSeen, Cond.selects RX4 yX4_takeSeen yX4_takeSeen, Cond.code yX4_takeSeen cX4_takeSeen 2 none, Cond.fieldLink RX4 134 "YearBookModel" "allShown" "I", Cond.fieldLink RX4 59 "YearBookModel" "seenBits" "[I", Cond.methodLink RX4 104 yX4_seenIn, Cond.instanceMethod yX4_seenIn, Cond.selects RX4 yX4_seenIn yX4_seenIn, Cond.code yX4_seenIn cX4_seenIn 4 (some .int), Cond.methodLink RX4 140 yX4_why, Cond.instanceMethod yX4_why, Cond.selects RX4 yX4_why yX4_why, Cond.code yX4_why cX4_why 7 (some .int), Cond.fieldLink RX4 81 "YearBookModel" "children" "I"]
def wsX4_best_r3 : List Cond := [Cond.fieldLink RX4 91 "YearBookModel" "low" "I", Cond.fieldLink RX4 44 "YearBookModel" "high" "I", Cond.methodLink RX4 143 yX4_isAhead, Cond.instanceMethod yX4_isAhead, Cond.selects RX4 yX4_isAhead yX4_isAhead, Cond.code yX4_isAhead cX4_isAhead 6 (some .boolean), Cond.methodLink RX4 147 yJ6_bitCount_0f7a4, Cond.static yJ6_bitCount_0f7a4, Cond.initialized RJ6, Cond.code yJ6_bitCount_0f7a4 cJ6_bitCount_0f7a4 1 (some .int), Cond.constant RJ6 265 (1431655765), Cond.constant RJ6 266 (858993459), Cond.constant RJ6 267 (252645135), Cond.methodLink RX4 111 yX4_sum, Cond.instanceMethod yX4_sum, Cond.selects RX4 yX4_sum yX4_sum, Cond.code yX4_sum cX4_sum 4 (some .int), Cond.fieldLink RX4 19 "YearBookModel" "worth" "[I"]
def wsX4_best : List Cond := .code yX4_best cX4_best 2 (some .int) :: ((wsX4_best_r1 ++ (wsX4_best_r2 ++ wsX4_best_r3)) ++ wsX40)
def wsX4_mend_r1 : List Cond := [Cond.fieldLink RX4 71 "YearBookModel" "thrown" "I", Cond.fieldLink RX4 108 "YearBookModel" "choice" "I", Cond.fieldLink RX4 114 "YearBookModel" "pageMany" "I", Cond.methodLink RX4 152 yX4_search, Cond.instanceMethod yX4_search, Cond.selects RX4 yX4_search yX4_search, Cond.initialized RX4, Cond.code yX4_search cX4_search 5 (some .int), Cond.fieldLink RX4 74 "YearBookModel" "pictures" "I", Cond.methodLink RX4 117 yX4_good, Cond.instanceMethod yX4_good, Cond.selects RX4 yX4_good yX4_good, Cond.code yX4_good cX4_good 3 (some .int), Cond.methodLink RX4 101 yX4_isGood, Cond.instanceMethod yX4_isGood, Cond.selects RX4 yX4_isGood yX4_isGood, Cond.code yX4_isGood cX4_isGood 5 (some .boolean), Cond.fieldLink RX4 25 "YearBookModel" "faces" "[I", Cond.fieldLink RX4 31 "YearBookModel" "x" "[I", Cond.fieldLink RX4 37 "YearBookModel" "\x72" "[I", Cond.fieldLink RX4 53 "YearBookModel" "cut" "[I", Cond.fieldLink RX4 34 "YearBookModel" "y" "[I", Cond.methodLink RX4 98 yX4_cutOf, Cond.instanceMethod yX4_cutOf]
def wsX4_mend_r2 : List Cond := [Cond.selects RX4 yX4_cutOf yX4_cutOf, Cond.code yX4_cutOf cX4_cutOf 9 (some .boolean), Cond.methodLink RX4 94 yX4_may, Cond.instanceMethod yX4_may, Cond.selects RX4 yX4_may yX4_may, Cond.code yX4_may cX4_may 3 (some .boolean), Cond.fieldLink RX4 13 "YearBookModel" "consent" "[I", Cond.fieldLink RX4 28 "YearBookModel" "who" "[I", Cond.fieldLink RX4 16 "YearBookModel" "kind" "[I", Cond.methodLink RX4 137 yX4_takeSeen, Cond.instanceMethod yX4_takeSeen, Cond.selects RX4 yX4_takeSeen yX4_takeSeen, Cond.code yX4_takeSeen cX4_takeSeen 2 none, Cond.fieldLink RX4 134 "YearBookModel" "allShown" "I", Cond.fieldLink RX4 59 "YearBookModel" "seenBits" "[I", Cond.methodLink RX4 104 yX4_seenIn, Cond.instanceMethod yX4_seenIn, Cond.selects RX4 yX4_seenIn yX4_seenIn, Cond.code yX4_seenIn cX4_seenIn 4 (some .int), Cond.methodLink RX4 140 yX4_why, Cond.instanceMethod yX4_why, Cond.selects RX4 yX4_why yX4_why, Cond.code yX4_why cX4_why 7 (some .int), Cond.fieldLink RX4 81 "YearBookModel" "children" "I"]
def wsX4_mend_r3 : List Cond := [Cond.fieldLink RX4 91 "YearBookModel" "low" "I", Cond.fieldLink RX4 44 "YearBookModel" "high" "I", Cond.methodLink RX4 143 yX4_isAhead, Cond.instanceMethod yX4_isAhead, Cond.selects RX4 yX4_isAhead yX4_isAhead, Cond.code yX4_isAhead cX4_isAhead 6 (some .boolean), Cond.methodLink RX4 147 yJ6_bitCount_0f7a4, Cond.static yJ6_bitCount_0f7a4, Cond.initialized RJ6, Cond.code yJ6_bitCount_0f7a4 cJ6_bitCount_0f7a4 1 (some .int), Cond.constant RJ6 265 (1431655765), Cond.constant RJ6 266 (858993459), Cond.constant RJ6 267 (252645135), Cond.methodLink RX4 111 yX4_sum, Cond.instanceMethod yX4_sum, Cond.selects RX4 yX4_sum yX4_sum, Cond.code yX4_sum cX4_sum 4 (some .int), Cond.fieldLink RX4 19 "YearBookModel" "worth" "[I"]
def wsX4_mend : List Cond := .code yX4_mend cX4_mend 3 (some .int) :: ((wsX4_mend_r1 ++ (wsX4_mend_r2 ++ wsX4_mend_r3)) ++ wsX40)
def wsX4_choices_r1 : List Cond := [Cond.fieldLink RX4 71 "YearBookModel" "thrown" "I", Cond.fieldLink RX4 74 "YearBookModel" "pictures" "I", Cond.methodLink RX4 117 yX4_good, Cond.instanceMethod yX4_good, Cond.selects RX4 yX4_good yX4_good, Cond.initialized RX4, Cond.code yX4_good cX4_good 3 (some .int), Cond.methodLink RX4 101 yX4_isGood, Cond.instanceMethod yX4_isGood, Cond.selects RX4 yX4_isGood yX4_isGood, Cond.code yX4_isGood cX4_isGood 5 (some .boolean), Cond.fieldLink RX4 25 "YearBookModel" "faces" "[I", Cond.fieldLink RX4 31 "YearBookModel" "x" "[I", Cond.fieldLink RX4 37 "YearBookModel" "\x72" "[I", Cond.fieldLink RX4 53 "YearBookModel" "cut" "[I", Cond.fieldLink RX4 34 "YearBookModel" "y" "[I", Cond.methodLink RX4 98 yX4_cutOf, Cond.instanceMethod yX4_cutOf, Cond.selects RX4 yX4_cutOf yX4_cutOf, Cond.code yX4_cutOf cX4_cutOf 9 (some .boolean), Cond.methodLink RX4 94 yX4_may, Cond.instanceMethod yX4_may, Cond.selects RX4 yX4_may yX4_may, Cond.code yX4_may cX4_may 3 (some .boolean)]
def wsX4_choices_r2 : List Cond := [Cond.fieldLink RX4 13 "YearBookModel" "consent" "[I", Cond.fieldLink RX4 28 "YearBookModel" "who" "[I", Cond.fieldLink RX4 16 "YearBookModel" "kind" "[I", Cond.methodLink RX4 137 yX4_takeSeen, Cond.instanceMethod yX4_takeSeen, Cond.selects RX4 yX4_takeSeen yX4_takeSeen, Cond.code yX4_takeSeen cX4_takeSeen 2 none, Cond.fieldLink RX4 134 "YearBookModel" "allShown" "I", Cond.fieldLink RX4 59 "YearBookModel" "seenBits" "[I", Cond.methodLink RX4 104 yX4_seenIn, Cond.instanceMethod yX4_seenIn, Cond.selects RX4 yX4_seenIn yX4_seenIn, Cond.code yX4_seenIn cX4_seenIn 4 (some .int), Cond.methodLink RX4 140 yX4_why, Cond.instanceMethod yX4_why, Cond.selects RX4 yX4_why yX4_why, Cond.code yX4_why cX4_why 7 (some .int), Cond.fieldLink RX4 81 "YearBookModel" "children" "I", Cond.fieldLink RX4 91 "YearBookModel" "low" "I", Cond.fieldLink RX4 44 "YearBookModel" "high" "I"]
def wsX4_choices : List Cond := .code yX4_choices cX4_choices 4 (some .int) :: ((wsX4_choices_r1 ++ wsX4_choices_r2) ++ wsX40)
def wsX4_lacking_r1 : List Cond := [Cond.fieldLink RX4 71 "YearBookModel" "thrown" "I", Cond.fieldLink RX4 81 "YearBookModel" "children" "I", Cond.fieldLink RX4 74 "YearBookModel" "pictures" "I", Cond.fieldLink RX4 91 "YearBookModel" "low" "I", Cond.methodLink RX4 130 yX4_timesIn, Cond.instanceMethod yX4_timesIn, Cond.selects RX4 yX4_timesIn yX4_timesIn, Cond.initialized RX4, Cond.code yX4_timesIn cX4_timesIn 5 (some .int), Cond.methodLink RX4 104 yX4_seenIn, Cond.instanceMethod yX4_seenIn, Cond.selects RX4 yX4_seenIn yX4_seenIn, Cond.code yX4_seenIn cX4_seenIn 4 (some .int), Cond.fieldLink RX4 25 "YearBookModel" "faces" "[I", Cond.fieldLink RX4 28 "YearBookModel" "who" "[I", Cond.methodLink RX4 101 yX4_isGood, Cond.instanceMethod yX4_isGood, Cond.selects RX4 yX4_isGood yX4_isGood, Cond.code yX4_isGood cX4_isGood 5 (some .boolean), Cond.fieldLink RX4 31 "YearBookModel" "x" "[I", Cond.fieldLink RX4 37 "YearBookModel" "\x72" "[I", Cond.fieldLink RX4 53 "YearBookModel" "cut" "[I", Cond.fieldLink RX4 34 "YearBookModel" "y" "[I", Cond.methodLink RX4 98 yX4_cutOf]
def wsX4_lacking_r2 : List Cond := [Cond.instanceMethod yX4_cutOf, Cond.selects RX4 yX4_cutOf yX4_cutOf, Cond.code yX4_cutOf cX4_cutOf 9 (some .boolean), Cond.methodLink RX4 94 yX4_may, Cond.instanceMethod yX4_may, Cond.selects RX4 yX4_may yX4_may, Cond.code yX4_may cX4_may 3 (some .boolean), Cond.fieldLink RX4 13 "YearBookModel" "consent" "[I", Cond.fieldLink RX4 16 "YearBookModel" "kind" "[I"]
def wsX4_lacking : List Cond := .code yX4_lacking cX4_lacking 2 (some .int) :: ((wsX4_lacking_r1 ++ wsX4_lacking_r2) ++ wsX40)
def wsX4_pack : List Cond := .code yX4_pack cX4_pack 6 none :: ([.fieldLink RX4 62 "YearBookModel" "points" "[I", .fieldLink RX4 74 "YearBookModel" "pictures" "I", .fieldLink RX4 22 "YearBookModel" "size" "[I", .fieldLink RX4 65 "YearBookModel" "least" "[I", .methodLink RX4 156 Lib.Math.min.name, .static Lib.Math.min.name, .initialized "java/lang/Math", .code Lib.Math.min.name Lib.Math.min.code 2 (some .int)] ++ wsX40)
def wsX4_fewest : List Cond := .code yX4_fewest cX4_fewest 1 (some .int) :: ([.fieldLink RX4 71 "YearBookModel" "thrown" "I", .fieldLink RX4 108 "YearBookModel" "choice" "I", .fieldLink RX4 65 "YearBookModel" "least" "[I", .methodLink RX4 161 yX4_pack, .instanceMethod yX4_pack, .selects RX4 yX4_pack yX4_pack, .initialized RX4, .code yX4_pack cX4_pack 6 none, .fieldLink RX4 62 "YearBookModel" "points" "[I", .fieldLink RX4 74 "YearBookModel" "pictures" "I", .fieldLink RX4 22 "YearBookModel" "size" "[I", .methodLink RX4 156 Lib.Math.min.name, .static Lib.Math.min.name, .initialized "java/lang/Math", .code Lib.Math.min.name Lib.Math.min.code 2 (some .int)] ++ wsX40)
def wsX4_layAll : List Cond := .code yX4_layAll cX4_layAll 10 (some .int) :: ([.fieldLink RX4 62 "YearBookModel" "points" "[I", .fieldLink RX4 65 "YearBookModel" "least" "[I", .fieldLink RX4 68 "YearBookModel" "laid" "[I", .methodLink RX4 161 yX4_pack, .instanceMethod yX4_pack, .selects RX4 yX4_pack yX4_pack, .initialized RX4, .code yX4_pack cX4_pack 6 none, .fieldLink RX4 74 "YearBookModel" "pictures" "I", .fieldLink RX4 22 "YearBookModel" "size" "[I", .methodLink RX4 156 Lib.Math.min.name, .static Lib.Math.min.name, .initialized "java/lang/Math", .code Lib.Math.min.name Lib.Math.min.code 2 (some .int)] ++ wsX40)
def wsX4_lay : List Cond := .code yX4_lay cX4_lay 2 (some .int) :: ([.fieldLink RX4 71 "YearBookModel" "thrown" "I", .fieldLink RX4 108 "YearBookModel" "choice" "I", .fieldLink RX4 65 "YearBookModel" "least" "[I", .fieldLink RX4 47 "YearBookModel" "last" "I", .fieldLink RX4 114 "YearBookModel" "pageMany" "I", .fieldLink RX4 50 "YearBookModel" "pages" "[I", .fieldLink RX4 68 "YearBookModel" "laid" "[I", .methodLink RX4 161 yX4_pack, .instanceMethod yX4_pack, .selects RX4 yX4_pack yX4_pack, .initialized RX4, .code yX4_pack cX4_pack 6 none, .fieldLink RX4 62 "YearBookModel" "points" "[I", .fieldLink RX4 74 "YearBookModel" "pictures" "I", .fieldLink RX4 22 "YearBookModel" "size" "[I", .methodLink RX4 156 Lib.Math.min.name, .static Lib.Math.min.name, .initialized "java/lang/Math", .code Lib.Math.min.name Lib.Math.min.code 2 (some .int), .methodLink RX4 165 yX4_layAll, .instanceMethod yX4_layAll, .selects RX4 yX4_layAll yX4_layAll, .code yX4_layAll cX4_layAll 10 (some .int)] ++ wsX40)
def wsX4_page : List Cond := .code yX4_page cX4_page 2 (some .int) :: ([.fieldLink RX4 71 "YearBookModel" "thrown" "I", .fieldLink RX4 114 "YearBookModel" "pageMany" "I", .fieldLink RX4 50 "YearBookModel" "pages" "[I", .methodLink RX4 77 yX4_in, .static yX4_in, .initialized RX4, .code yX4_in cX4_in 3 (some .boolean)] ++ wsX40)
def wsX4_pointsOf : List Cond := .code yX4_pointsOf cX4_pointsOf 4 (some .int) :: ([.fieldLink RX4 74 "YearBookModel" "pictures" "I", .fieldLink RX4 22 "YearBookModel" "size" "[I"] ++ wsX40)
def wsX4_left : List Cond := .code yX4_left cX4_left 2 (some .int) :: ([.fieldLink RX4 71 "YearBookModel" "thrown" "I", .fieldLink RX4 114 "YearBookModel" "pageMany" "I", .fieldLink RX4 50 "YearBookModel" "pages" "[I", .methodLink RX4 77 yX4_in, .static yX4_in, .initialized RX4, .code yX4_in cX4_in 3 (some .boolean), .methodLink RX4 168 yX4_pointsOf, .instanceMethod yX4_pointsOf, .selects RX4 yX4_pointsOf yX4_pointsOf, .code yX4_pointsOf cX4_pointsOf 4 (some .int), .fieldLink RX4 74 "YearBookModel" "pictures" "I", .fieldLink RX4 22 "YearBookModel" "size" "[I"] ++ wsX40)
def wsX4_on : List Cond := .code yX4_on cX4_on 4 (some .int) :: ([.fieldLink RX4 114 "YearBookModel" "pageMany" "I", .fieldLink RX4 50 "YearBookModel" "pages" "[I"] ++ wsX40)
def wsX4_late_r1 : List Cond := [Cond.fieldLink RX4 71 "YearBookModel" "thrown" "I", Cond.fieldLink RX4 108 "YearBookModel" "choice" "I", Cond.fieldLink RX4 114 "YearBookModel" "pageMany" "I", Cond.fieldLink RX4 65 "YearBookModel" "least" "[I", Cond.fieldLink RX4 47 "YearBookModel" "last" "I", Cond.fieldLink RX4 50 "YearBookModel" "pages" "[I", Cond.fieldLink RX4 68 "YearBookModel" "laid" "[I", Cond.methodLink RX4 88 yX4_isPicture, Cond.instanceMethod yX4_isPicture, Cond.selects RX4 yX4_isPicture yX4_isPicture, Cond.initialized RX4, Cond.code yX4_isPicture cX4_isPicture 2 (some .boolean), Cond.fieldLink RX4 74 "YearBookModel" "pictures" "I", Cond.methodLink RX4 77 yX4_in, Cond.static yX4_in, Cond.code yX4_in cX4_in 3 (some .boolean), Cond.methodLink RX4 171 yX4_on, Cond.instanceMethod yX4_on, Cond.selects RX4 yX4_on yX4_on, Cond.code yX4_on cX4_on 4 (some .int), Cond.methodLink RX4 161 yX4_pack, Cond.instanceMethod yX4_pack, Cond.selects RX4 yX4_pack yX4_pack, Cond.code yX4_pack cX4_pack 6 none]
def wsX4_late_r2 : List Cond := [Cond.fieldLink RX4 62 "YearBookModel" "points" "[I", Cond.fieldLink RX4 22 "YearBookModel" "size" "[I", Cond.methodLink RX4 156 Lib.Math.min.name, Cond.static Lib.Math.min.name, Cond.initialized "java/lang/Math", Cond.code Lib.Math.min.name Lib.Math.min.code 2 (some .int), Cond.methodLink RX4 147 yJ6_bitCount_0f7a4, Cond.static yJ6_bitCount_0f7a4, Cond.initialized RJ6, Cond.code yJ6_bitCount_0f7a4 cJ6_bitCount_0f7a4 1 (some .int), Cond.constant RJ6 265 (1431655765), Cond.constant RJ6 266 (858993459), Cond.constant RJ6 267 (252645135), Cond.methodLink RX4 165 yX4_layAll, Cond.instanceMethod yX4_layAll, Cond.selects RX4 yX4_layAll yX4_layAll, Cond.code yX4_layAll cX4_layAll 10 (some .int)]
def wsX4_late : List Cond := .code yX4_late cX4_late 6 (some .int) :: ((wsX4_late_r1 ++ wsX4_late_r2) ++ wsX40)
def wsX4_drop : List Cond := .code yX4_drop cX4_drop 2 (some .boolean) :: ([.fieldLink RX4 71 "YearBookModel" "thrown" "I", .fieldLink RX4 50 "YearBookModel" "pages" "[I", .fieldLink RX4 108 "YearBookModel" "choice" "I", .methodLink RX4 88 yX4_isPicture, .instanceMethod yX4_isPicture, .selects RX4 yX4_isPicture yX4_isPicture, .initialized RX4, .code yX4_isPicture cX4_isPicture 2 (some .boolean), .fieldLink RX4 74 "YearBookModel" "pictures" "I", .methodLink RX4 77 yX4_in, .static yX4_in, .code yX4_in cX4_in 3 (some .boolean), .methodLink RX4 124 yX4_pageOf, .instanceMethod yX4_pageOf, .selects RX4 yX4_pageOf yX4_pageOf, .code yX4_pageOf cX4_pageOf 3 (some .int), .fieldLink RX4 114 "YearBookModel" "pageMany" "I"] ++ wsX40)
def wsJ9_max_7cf53 : List Cond := .code yJ9_max_7cf53 cJ9_max_7cf53 2 (some .int) :: ([])
def wsJ9_min_7cf53 : List Cond := .code yJ9_min_7cf53 cJ9_min_7cf53 2 (some .int) :: ([])
def wsL_told_r1 : List Cond := [Cond.classLink RL 13 "java/util/NoSuchElementException", Cond.methodLink RL 7 yX3_told, Cond.instanceMethod yX3_told, Cond.selects RX3 yX3_told yX3_told, Cond.initialized RX3, Cond.code yX3_told cX3_told 4 (some .int), Cond.classLink RX3 101 "java/util/NoSuchElementException", Cond.initialized "java/util/NoSuchElementException", Cond.fieldLink RX3 35 "YearBook" "pages" "LYearBook$Pages;", Cond.methodLink RX3 54 yX3_pictureAt, Cond.instanceMethod yX3_pictureAt, Cond.selects RX3 yX3_pictureAt yX3_pictureAt, Cond.code yX3_pictureAt cX3_pictureAt 2 (some (.object "YearBook$Picture")), Cond.fieldLink RX3 51 "YearBook" "pictureCount" "I", Cond.fieldLink RX3 18 "YearBook" "pictures" "[LYearBook$Picture;", Cond.methodLink RX3 39 yX3_within, Cond.static yX3_within, Cond.code yX3_within cX3_within 3 (some .boolean), Cond.methodLink RX3 120 yX1_pageOf, Cond.instanceMethod yX1_pageOf, Cond.selects RX1 yX1_pageOf yX1_pageOf, Cond.initialized RX1, Cond.code yX1_pageOf cX1_pageOf 3 (some .int), Cond.fieldLink RX1 25 "YearBook$Pages" "count" "I"]
def wsL_told_r2 : List Cond := [Cond.fieldLink RX1 15 "YearBook$Pages" "sets" "[I", Cond.methodLink RX3 124 yX2_edge, Cond.instanceMethod yX2_edge, Cond.selects RX2 yX2_edge yX2_edge, Cond.initialized RX2, Cond.code yX2_edge cX2_edge 2 (some .int), Cond.fieldLink RX2 40 "YearBook$Picture" "allowed" "I", Cond.fieldLink RX2 24 "YearBook$Picture" "cut" "[I"]
def wsL_told : List Cond := .codeWith yL_told cL_told 5 (some .int) [(0, 10, 13, 13)] :: ((wsL_told_r1 ++ wsL_told_r2) ++ wsX20 ++ wsX30 ++ wsX10 ++ (vx_atS RX3 105 "java/util/NoSuchElementException" ["java/lang/RuntimeException", "java/lang/Exception"]).filter goodWord)
def wsL_law0_r1 : List Cond := [Cond.classLink RL 8 RX3, Cond.instantiable RX3 9, Cond.initialized RX3, Cond.classLink RL 16 RX4, Cond.instantiable RX4 27, Cond.initialized RX4, Cond.arrayClass .long, Cond.methodLink RL 15 yX3_init, Cond.instanceMethod yX3_init, Cond.code yX3_init cX3_init 1 none, Cond.methodLink RX3 1 objectInit, Cond.instanceMethod objectInit, Cond.code objectInit ⟨#[0xb1]⟩ 1 none, Cond.arrayClass .int, Cond.fieldLink RX3 9 "YearBook" "rooms" "[I", Cond.fieldLink RX3 13 "YearBook" "consents" "[I", Cond.classLink RX3 16 RX2, Cond.fieldLink RX3 18 "YearBook" "pictures" "[LYearBook$Picture;", Cond.fieldLink RX3 22 "YearBook" "settings" "[I", Cond.classLink RX3 25 RX0, Cond.instantiable RX0 14, Cond.initialized RX0, Cond.fieldLink RX3 28 "YearBook" "chooser" "LYearBook$Chooser;", Cond.classLink RX3 32 RX1]
def wsL_law0_r2 : List Cond := [Cond.instantiable RX1 10, Cond.initialized RX1, Cond.fieldLink RX3 35 "YearBook" "pages" "LYearBook$Pages;", Cond.instanceMethod yX0_init, Cond.code yX0_init cX0_init 1 none, Cond.methodLink RX0 3 objectInit, Cond.fieldLink RX0 9 "YearBook$Chooser" "bits" "[I", Cond.fieldLink RX0 15 "YearBook$Chooser" "shown" "[J", Cond.fieldLink RX0 19 "YearBook$Chooser" "marks" "[J", Cond.fieldLink RX0 22 "YearBook$Chooser" "shownFrom" "[J", Cond.fieldLink RX0 25 "YearBook$Chooser" "wishedShownFrom" "[J", Cond.fieldLink RX0 28 "YearBook$Chooser" "wishedBitsFrom" "[I", Cond.fieldLink RX0 31 "YearBook$Chooser" "wishedMarksFrom" "[J", Cond.instanceMethod yX1_init, Cond.code yX1_init cX1_init 1 none, Cond.methodLink RX1 3 objectInit, Cond.fieldLink RX1 9 "YearBook$Pages" "sizes" "[I", Cond.fieldLink RX1 15 "YearBook$Pages" "sets" "[I", Cond.fieldLink RX1 18 "YearBook$Pages" "packed" "[I", Cond.methodLink RL 18 yX4_init, Cond.instanceMethod yX4_init, Cond.code yX4_init cX4_init 1 none, Cond.methodLink RX4 3 objectInit, Cond.fieldLink RX4 9 "YearBookModel" "room" "[I"]
def wsL_law0_r3 : List Cond := [Cond.fieldLink RX4 13 "YearBookModel" "consent" "[I", Cond.fieldLink RX4 16 "YearBookModel" "kind" "[I", Cond.fieldLink RX4 19 "YearBookModel" "worth" "[I", Cond.fieldLink RX4 22 "YearBookModel" "size" "[I", Cond.fieldLink RX4 25 "YearBookModel" "faces" "[I", Cond.fieldLink RX4 28 "YearBookModel" "who" "[I", Cond.fieldLink RX4 31 "YearBookModel" "x" "[I", Cond.fieldLink RX4 34 "YearBookModel" "y" "[I", Cond.fieldLink RX4 37 "YearBookModel" "\x72" "[I", Cond.fieldLink RX4 40 "YearBookModel" "span" "I", Cond.fieldLink RX4 44 "YearBookModel" "high" "I", Cond.fieldLink RX4 47 "YearBookModel" "last" "I", Cond.fieldLink RX4 50 "YearBookModel" "pages" "[I", Cond.fieldLink RX4 53 "YearBookModel" "cut" "[I", Cond.fieldLink RX4 56 "YearBookModel" "names" "[I", Cond.fieldLink RX4 59 "YearBookModel" "seenBits" "[I", Cond.fieldLink RX4 62 "YearBookModel" "points" "[I", Cond.fieldLink RX4 65 "YearBookModel" "least" "[I", Cond.fieldLink RX4 68 "YearBookModel" "laid" "[I", Cond.methodLink RL 19 yX3_child, Cond.instanceMethod yX3_child, Cond.selects RX3 yX3_child yX3_child, Cond.code yX3_child cX3_child 2 (some .int), Cond.fieldLink RX3 43 "YearBook" "children" "I"]
def wsL_law0_r4 : List Cond := [Cond.methodLink RX3 39 yX3_within, Cond.static yX3_within, Cond.code yX3_within cX3_within 3 (some .boolean), Cond.methodLink RL 23 yX4_child, Cond.instanceMethod yX4_child, Cond.selects RX4 yX4_child yX4_child, Cond.code yX4_child cX4_child 2 (some .int), Cond.fieldLink RX4 71 "YearBookModel" "thrown" "I", Cond.fieldLink RX4 81 "YearBookModel" "children" "I", Cond.methodLink RX4 77 yX4_in, Cond.static yX4_in, Cond.code yX4_in cX4_in 3 (some .boolean), Cond.methodLink RL 24 yX3_consent, Cond.instanceMethod yX3_consent, Cond.selects RX3 yX3_consent yX3_consent, Cond.code yX3_consent cX3_consent 6 (some .int), Cond.fieldLink RX3 51 "YearBook" "pictureCount" "I", Cond.methodLink RX3 47 yX3_isChild, Cond.instanceMethod yX3_isChild, Cond.selects RX3 yX3_isChild yX3_isChild, Cond.code yX3_isChild cX3_isChild 2 (some .boolean), Cond.methodLink RX3 54 yX3_pictureAt, Cond.instanceMethod yX3_pictureAt, Cond.selects RX3 yX3_pictureAt yX3_pictureAt]
def wsL_law0_r5 : List Cond := [Cond.code yX3_pictureAt cX3_pictureAt 2 (some (.object "YearBook$Picture")), Cond.methodLink RX3 58 yX2_look, Cond.instanceMethod yX2_look, Cond.selects RX2 yX2_look yX2_look, Cond.initialized RX2, Cond.code yX2_look cX2_look 5 none, Cond.fieldLink RX2 40 "YearBook$Picture" "allowed" "I", Cond.fieldLink RX2 37 "YearBook$Picture" "faces" "I", Cond.fieldLink RX2 9 "YearBook$Picture" "who" "[I", Cond.fieldLink RX2 27 "YearBook$Picture" "kind" "I", Cond.fieldLink RX2 50 "YearBook$Picture" "seen" "I", Cond.methodLink RX2 43 yX2_frame, Cond.instanceMethod yX2_frame, Cond.selects RX2 yX2_frame yX2_frame, Cond.code yX2_frame cX2_frame 2 none, Cond.fieldLink RX2 24 "YearBook$Picture" "cut" "[I", Cond.fieldLink RX2 15 "YearBook$Picture" "xs" "[I", Cond.fieldLink RX2 21 "YearBook$Picture" "halves" "[I", Cond.methodLink RX2 53 Lib.Math.min.name, Cond.static Lib.Math.min.name, Cond.initialized "java/lang/Math", Cond.code Lib.Math.min.name Lib.Math.min.code 2 (some .int), Cond.fieldLink RX2 18 "YearBook$Picture" "ys" "[I", Cond.methodLink RX2 59 Lib.Math.max.name]
def wsL_law0_r6 : List Cond := [Cond.static Lib.Math.max.name, Cond.code Lib.Math.max.name Lib.Math.max.code 2 (some .int), Cond.methodLink RX2 46 yX2_anotherTouchesCut, Cond.instanceMethod yX2_anotherTouchesCut, Cond.selects RX2 yX2_anotherTouchesCut yX2_anotherTouchesCut, Cond.code yX2_anotherTouchesCut cX2_anotherTouchesCut 2 (some .boolean), Cond.methodLink RL 27 yX4_consent, Cond.instanceMethod yX4_consent, Cond.selects RX4 yX4_consent yX4_consent, Cond.code yX4_consent cX4_consent 4 (some .int), Cond.methodLink RX4 84 yX4_isChild, Cond.instanceMethod yX4_isChild, Cond.selects RX4 yX4_isChild yX4_isChild, Cond.code yX4_isChild cX4_isChild 2 (some .boolean), Cond.methodLink RL 28 yX3_picture, Cond.instanceMethod yX3_picture, Cond.selects RX3 yX3_picture yX3_picture, Cond.code yX3_picture cX3_picture 4 (some .int), Cond.instantiable RX2 11, Cond.methodLink RX3 62 yX2_init, Cond.instanceMethod yX2_init, Cond.code yX2_init cX2_init 4 none, Cond.methodLink RX2 3 objectInit, Cond.fieldLink RX2 31 "YearBook$Picture" "worth" "I"]
def wsL_law0_r7 : List Cond := [Cond.fieldLink RX2 34 "YearBook$Picture" "size" "I", Cond.methodLink RX3 65 yX1_hearOf, Cond.instanceMethod yX1_hearOf, Cond.selects RX1 yX1_hearOf yX1_hearOf, Cond.code yX1_hearOf cX1_hearOf 2 none, Cond.fieldLink RX1 21 "YearBook$Pages" "pictures" "I", Cond.methodLink RL 32 yX4_picture, Cond.instanceMethod yX4_picture, Cond.selects RX4 yX4_picture yX4_picture, Cond.code yX4_picture cX4_picture 4 (some .int), Cond.fieldLink RX4 74 "YearBookModel" "pictures" "I", Cond.methodLink RL 33 yX3_face, Cond.instanceMethod yX3_face, Cond.selects RX3 yX3_face yX3_face, Cond.code yX3_face cX3_face 7 (some .int), Cond.methodLink RX3 69 yX2_canHold, Cond.instanceMethod yX2_canHold, Cond.selects RX2 yX2_canHold yX2_canHold, Cond.code yX2_canHold cX2_canHold 3 (some .boolean), Cond.methodLink RX3 72 yX2_add, Cond.instanceMethod yX2_add, Cond.selects RX2 yX2_add yX2_add, Cond.code yX2_add cX2_add 5 none, Cond.methodLink RL 37 yX4_face]
def wsL_law0_r8 : List Cond := [Cond.instanceMethod yX4_face, Cond.selects RX4 yX4_face yX4_face, Cond.code yX4_face cX4_face 7 (some .int), Cond.methodLink RX4 88 yX4_isPicture, Cond.instanceMethod yX4_isPicture, Cond.selects RX4 yX4_isPicture yX4_isPicture, Cond.code yX4_isPicture cX4_isPicture 2 (some .boolean), Cond.methodLink RL 38 yX3_set, Cond.instanceMethod yX3_set, Cond.selects RX3 yX3_set yX3_set, Cond.code yX3_set cX3_set 4 (some .int), Cond.fieldLink RX3 79 "YearBook" "LEAST_SETTING" "[I", Cond.fieldLink RX3 82 "YearBook" "MOST_SETTING" "[I", Cond.methodLink RL 41 yX4_set, Cond.instanceMethod yX4_set, Cond.selects RX4 yX4_set yX4_set, Cond.code yX4_set cX4_set 4 (some .int), Cond.fieldLink RX4 91 "YearBookModel" "low" "I", Cond.methodLink RL 42 yX3_count, Cond.instanceMethod yX3_count, Cond.selects RX3 yX3_count yX3_count, Cond.code yX3_count cX3_count 2 (some .int), Cond.fieldLink RX3 85 "YearBook" "choice" "I", Cond.methodLink RX3 88 yX3_worthOfChoice]
def wsL_law0_r9 : List Cond := [Cond.instanceMethod yX3_worthOfChoice, Cond.selects RX3 yX3_worthOfChoice yX3_worthOfChoice, Cond.code yX3_worthOfChoice cX3_worthOfChoice 3 (some .int), Cond.methodLink RX3 134 yX3_isChosen, Cond.instanceMethod yX3_isChosen, Cond.selects RX3 yX3_isChosen yX3_isChosen, Cond.code yX3_isChosen cX3_isChosen 2 (some .boolean), Cond.methodLink RX3 185 yX3_worthOf, Cond.instanceMethod yX3_worthOf, Cond.selects RX3 yX3_worthOf yX3_worthOf, Cond.code yX3_worthOf cX3_worthOf 3 (some .int), Cond.methodLink RX3 95 yX3_goodPictures, Cond.instanceMethod yX3_goodPictures, Cond.selects RX3 yX3_goodPictures yX3_goodPictures, Cond.code yX3_goodPictures cX3_goodPictures 3 (some .int), Cond.methodLink RX3 137 yX3_shownIn, Cond.instanceMethod yX3_shownIn, Cond.selects RX3 yX3_shownIn yX3_shownIn, Cond.code yX3_shownIn cX3_shownIn 3 (some .int), Cond.methodLink RX3 98 yX3_childrenInGood, Cond.instanceMethod yX3_childrenInGood, Cond.selects RX3 yX3_childrenInGood yX3_childrenInGood, Cond.code yX3_childrenInGood cX3_childrenInGood 3 (some .int), Cond.methodLink RL 45 yX4_count]
def wsL_law0_r10 : List Cond := [Cond.instanceMethod yX4_count, Cond.selects RX4 yX4_count yX4_count, Cond.code yX4_count cX4_count 2 (some .int), Cond.fieldLink RX4 108 "YearBookModel" "choice" "I", Cond.fieldLink RX4 114 "YearBookModel" "pageMany" "I", Cond.methodLink RX4 111 yX4_sum, Cond.instanceMethod yX4_sum, Cond.selects RX4 yX4_sum yX4_sum, Cond.code yX4_sum cX4_sum 4 (some .int), Cond.methodLink RX4 117 yX4_good, Cond.instanceMethod yX4_good, Cond.selects RX4 yX4_good yX4_good, Cond.code yX4_good cX4_good 3 (some .int), Cond.methodLink RX4 101 yX4_isGood, Cond.instanceMethod yX4_isGood, Cond.selects RX4 yX4_isGood yX4_isGood, Cond.code yX4_isGood cX4_isGood 5 (some .boolean), Cond.methodLink RX4 98 yX4_cutOf, Cond.instanceMethod yX4_cutOf, Cond.selects RX4 yX4_cutOf yX4_cutOf, Cond.code yX4_cutOf cX4_cutOf 9 (some .boolean), Cond.methodLink RX4 94 yX4_may, Cond.instanceMethod yX4_may, Cond.selects RX4 yX4_may yX4_may]
def wsL_law0_r11 : List Cond := [Cond.code yX4_may cX4_may 3 (some .boolean), Cond.methodLink RX4 121 yX4_shown, Cond.instanceMethod yX4_shown, Cond.selects RX4 yX4_shown yX4_shown, Cond.code yX4_shown cX4_shown 3 (some .int), Cond.methodLink RX4 104 yX4_seenIn, Cond.instanceMethod yX4_seenIn, Cond.selects RX4 yX4_seenIn yX4_seenIn, Cond.code yX4_seenIn cX4_seenIn 4 (some .int), Cond.methodLink RL 46 yL_told, Cond.static yL_told, Cond.initialized RL, Cond.codeWith yL_told cL_told 5 (some .int) [(0, 10, 13, 13)], Cond.classLink RL 13 "java/util/NoSuchElementException", Cond.methodLink RL 7 yX3_told, Cond.instanceMethod yX3_told, Cond.selects RX3 yX3_told yX3_told, Cond.code yX3_told cX3_told 4 (some .int), Cond.classLink RX3 101 "java/util/NoSuchElementException", Cond.initialized "java/util/NoSuchElementException", Cond.methodLink RX3 120 yX1_pageOf, Cond.instanceMethod yX1_pageOf, Cond.selects RX1 yX1_pageOf yX1_pageOf, Cond.code yX1_pageOf cX1_pageOf 3 (some .int)]
def wsL_law0_r12 : List Cond := [Cond.fieldLink RX1 25 "YearBook$Pages" "count" "I", Cond.methodLink RX3 124 yX2_edge, Cond.instanceMethod yX2_edge, Cond.selects RX2 yX2_edge yX2_edge, Cond.code yX2_edge cX2_edge 2 (some .int), Cond.methodLink RL 51 yX4_told, Cond.instanceMethod yX4_told, Cond.selects RX4 yX4_told yX4_told, Cond.code yX4_told cX4_told 3 (some .int), Cond.methodLink RX4 124 yX4_pageOf, Cond.instanceMethod yX4_pageOf, Cond.selects RX4 yX4_pageOf yX4_pageOf, Cond.code yX4_pageOf cX4_pageOf 3 (some .int), Cond.methodLink RL 52 yX4_thrown, Cond.instanceMethod yX4_thrown, Cond.selects RX4 yX4_thrown yX4_thrown, Cond.code yX4_thrown cX4_thrown 1 (some .int), Cond.methodLink RL 56 yX3_name, Cond.instanceMethod yX3_name, Cond.selects RX3 yX3_name yX3_name, Cond.code yX3_name cX3_name 4 (some .int), Cond.methodLink RX3 127 yX2_nameAt, Cond.instanceMethod yX2_nameAt, Cond.selects RX2 yX2_nameAt yX2_nameAt]
def wsL_law0_r13 : List Cond := [Cond.code yX2_nameAt cX2_nameAt 8 (some .int), Cond.methodLink RX2 62 yX2_topRow, Cond.instanceMethod yX2_topRow, Cond.selects RX2 yX2_topRow yX2_topRow, Cond.code yX2_topRow cX2_topRow 6 (some .int), Cond.methodLink RX2 65 yJ6_bitCount_0f7a4, Cond.static yJ6_bitCount_0f7a4, Cond.initialized RJ6, Cond.code yJ6_bitCount_0f7a4 cJ6_bitCount_0f7a4 1 (some .int), Cond.constant RJ6 265 (1431655765), Cond.constant RJ6 266 (858993459), Cond.constant RJ6 267 (252645135), Cond.methodLink RX2 71 yX2_childInRow, Cond.instanceMethod yX2_childInRow, Cond.selects RX2 yX2_childInRow yX2_childInRow, Cond.code yX2_childInRow cX2_childInRow 4 (some .int), Cond.methodLink RX2 74 yX2_leftOf, Cond.instanceMethod yX2_leftOf, Cond.selects RX2 yX2_leftOf yX2_leftOf, Cond.code yX2_leftOf cX2_leftOf 5 (some .int), Cond.methodLink RL 59 yX4_name, Cond.instanceMethod yX4_name, Cond.selects RX4 yX4_name yX4_name, Cond.code yX4_name cX4_name 4 (some .int)]
def wsL_law0_r14 : List Cond := [Cond.methodLink RX4 127 yX4_nameAll, Cond.instanceMethod yX4_nameAll, Cond.selects RX4 yX4_nameAll yX4_nameAll, Cond.code yX4_nameAll cX4_nameAll 10 (some .int), Cond.methodLink RL 60 yX3_seen, Cond.instanceMethod yX3_seen, Cond.selects RX3 yX3_seen yX3_seen, Cond.code yX3_seen cX3_seen 2 (some .int), Cond.methodLink RX3 131 yX3_chosenShowing, Cond.instanceMethod yX3_chosenShowing, Cond.selects RX3 yX3_chosenShowing yX3_chosenShowing, Cond.code yX3_chosenShowing cX3_chosenShowing 4 (some .int), Cond.methodLink RL 63 yX4_seen, Cond.instanceMethod yX4_seen, Cond.selects RX4 yX4_seen yX4_seen, Cond.code yX4_seen cX4_seen 2 (some .int), Cond.methodLink RX4 130 yX4_timesIn, Cond.instanceMethod yX4_timesIn, Cond.selects RX4 yX4_timesIn yX4_timesIn, Cond.code yX4_timesIn cX4_timesIn 5 (some .int), Cond.methodLink RL 64 yX3_proof, Cond.instanceMethod yX3_proof, Cond.selects RX3 yX3_proof yX3_proof, Cond.code yX3_proof cX3_proof 5 (some .int)]
def wsL_law0_r15 : List Cond := [Cond.methodLink RL 67 yX4_proof, Cond.instanceMethod yX4_proof, Cond.selects RX4 yX4_proof yX4_proof, Cond.code yX4_proof cX4_proof 5 (some .int), Cond.methodLink RL 68 yX3_shows, Cond.instanceMethod yX3_shows, Cond.selects RX3 yX3_shows yX3_shows, Cond.code yX3_shows cX3_shows 4 (some .int), Cond.methodLink RL 71 yX4_shows, Cond.instanceMethod yX4_shows, Cond.selects RX4 yX4_shows yX4_shows, Cond.code yX4_shows cX4_shows 5 (some .int), Cond.methodLink RL 72 yX3_choose, Cond.instanceMethod yX3_choose, Cond.selects RX3 yX3_choose yX3_choose, Cond.code yX3_choose cX3_choose 2 (some .boolean), Cond.methodLink RX3 140 yX3_decide, Cond.instanceMethod yX3_decide, Cond.selects RX3 yX3_decide yX3_decide, Cond.code yX3_decide cX3_decide 2 none, Cond.methodLink RX3 188 yX1_clear, Cond.instanceMethod yX1_clear, Cond.selects RX1 yX1_clear yX1_clear, Cond.code yX1_clear cX1_clear 1 none]
def wsL_law0_r16 : List Cond := [Cond.methodLink RL 76 yX4_choose, Cond.instanceMethod yX4_choose, Cond.selects RX4 yX4_choose yX4_choose, Cond.code yX4_choose cX4_choose 2 (some .boolean), Cond.methodLink RL 77 yX3_wrong, Cond.instanceMethod yX3_wrong, Cond.selects RX3 yX3_wrong yX3_wrong, Cond.code yX3_wrong cX3_wrong 5 (some .int), Cond.methodLink RL 80 yX4_wrong, Cond.instanceMethod yX4_wrong, Cond.selects RX4 yX4_wrong yX4_wrong, Cond.code yX4_wrong cX4_wrong 1 (some .int), Cond.methodLink RX4 137 yX4_takeSeen, Cond.instanceMethod yX4_takeSeen, Cond.selects RX4 yX4_takeSeen yX4_takeSeen, Cond.code yX4_takeSeen cX4_takeSeen 2 none, Cond.fieldLink RX4 134 "YearBookModel" "allShown" "I", Cond.methodLink RX4 140 yX4_why, Cond.instanceMethod yX4_why, Cond.selects RX4 yX4_why yX4_why, Cond.code yX4_why cX4_why 7 (some .int), Cond.methodLink RL 81 yX3_best, Cond.instanceMethod yX3_best, Cond.selects RX3 yX3_best yX3_best]
def wsL_law0_r17 : List Cond := [Cond.code yX3_best cX3_best 1 (some .int), Cond.methodLink RX3 143 yX3_offerPictures, Cond.instanceMethod yX3_offerPictures, Cond.selects RX3 yX3_offerPictures yX3_offerPictures, Cond.code yX3_offerPictures cX3_offerPictures 7 none, Cond.constantLong RX3 195 (262144), Cond.constantLong RX3 197 (16384), Cond.methodLink RX3 191 yX0_begin, Cond.instanceMethod yX0_begin, Cond.selects RX0 yX0_begin yX0_begin, Cond.code yX0_begin cX0_begin 3 none, Cond.fieldLink RX0 34 "YearBook$Chooser" "low" "I", Cond.fieldLink RX0 38 "YearBook$Chooser" "high" "I", Cond.fieldLink RX0 41 "YearBook$Chooser" "size" "I", Cond.constantLong RX0 44 (-1), Cond.fieldLink RX0 46 "YearBook$Chooser" "notCounted" "J", Cond.methodLink RX3 199 yX0_offer, Cond.instanceMethod yX0_offer, Cond.selects RX0 yX0_offer yX0_offer, Cond.code yX0_offer cX0_offer 5 none, Cond.constantLong RX0 54 (15), Cond.methodLink RX0 50 yX0_inFours, Cond.static yX0_inFours, Cond.code yX0_inFours cX0_inFours 4 (some .long)]
def wsL_law0_r18 : List Cond := [Cond.methodLink RX3 203 yX0_sumUp, Cond.instanceMethod yX0_sumUp, Cond.selects RX0 yX0_sumUp yX0_sumUp, Cond.code yX0_sumUp cX0_sumUp 3 none, Cond.methodLink RX3 147 yX0_findBest, Cond.instanceMethod yX0_findBest, Cond.selects RX0 yX0_findBest yX0_findBest, Cond.code yX0_findBest cX0_findBest 1 (some .boolean), Cond.fieldLink RX0 56 "YearBook$Chooser" "found" "Z", Cond.methodLink RX0 60 yX0_searchFrom, Cond.instanceMethod yX0_searchFrom, Cond.selects RX0 yX0_searchFrom yX0_searchFrom, Cond.code yX0_searchFrom cX0_searchFrom 10 none, Cond.fieldLink RX0 68 "YearBook$Chooser" "bestMark" "J", Cond.fieldLink RX0 82 "YearBook$Chooser" "bestSet" "I", Cond.methodLink RX0 71 yX0_isLost, Cond.instanceMethod yX0_isLost, Cond.selects RX0 yX0_isLost yX0_isLost, Cond.code yX0_isLost cX0_isLost 4 (some .boolean), Cond.methodLink RX0 75 yX0_someAbove, Cond.instanceMethod yX0_someAbove, Cond.selects RX0 yX0_someAbove yX0_someAbove, Cond.code yX0_someAbove cX0_someAbove 9 (some .boolean), Cond.constantLong RX0 85 (72340172838076673)]
def wsL_law0_r19 : List Cond := [Cond.constantLong RX0 87 (1085102592571150095), Cond.constantLong RX0 89 (-9187201950435737472), Cond.methodLink RX0 79 yX0_someBelow, Cond.instanceMethod yX0_someBelow, Cond.selects RX0 yX0_someBelow yX0_someBelow, Cond.code yX0_someBelow cX0_someBelow 11 (some .boolean), Cond.methodLink RL 84 yX4_best, Cond.instanceMethod yX4_best, Cond.selects RX4 yX4_best yX4_best, Cond.code yX4_best cX4_best 2 (some .int), Cond.methodLink RX4 152 yX4_search, Cond.instanceMethod yX4_search, Cond.selects RX4 yX4_search yX4_search, Cond.code yX4_search cX4_search 5 (some .int), Cond.methodLink RX4 143 yX4_isAhead, Cond.instanceMethod yX4_isAhead, Cond.selects RX4 yX4_isAhead yX4_isAhead, Cond.code yX4_isAhead cX4_isAhead 6 (some .boolean), Cond.methodLink RX4 147 yJ6_bitCount_0f7a4, Cond.methodLink RL 85 yX3_mend, Cond.instanceMethod yX3_mend, Cond.selects RX3 yX3_mend yX3_mend, Cond.code yX3_mend cX3_mend 2 (some .int), Cond.constantLong RX3 154 (4294967296)]
def wsL_law0_r20 : List Cond := [Cond.methodLink RX3 156 yJ6_bitCount_0f7a4, Cond.methodLink RL 88 yX4_mend, Cond.instanceMethod yX4_mend, Cond.selects RX4 yX4_mend yX4_mend, Cond.code yX4_mend cX4_mend 3 (some .int), Cond.methodLink RL 89 yX3_choices, Cond.instanceMethod yX3_choices, Cond.selects RX3 yX3_choices yX3_choices, Cond.code yX3_choices cX3_choices 1 (some .int), Cond.methodLink RX3 161 yX0_countFitting, Cond.instanceMethod yX0_countFitting, Cond.selects RX0 yX0_countFitting yX0_countFitting, Cond.code yX0_countFitting cX0_countFitting 1 (some .int), Cond.methodLink RX0 64 yX0_fittingFrom, Cond.instanceMethod yX0_fittingFrom, Cond.selects RX0 yX0_fittingFrom yX0_fittingFrom, Cond.code yX0_fittingFrom cX0_fittingFrom 4 (some .int), Cond.methodLink RL 92 yX4_choices, Cond.instanceMethod yX4_choices, Cond.selects RX4 yX4_choices yX4_choices, Cond.code yX4_choices cX4_choices 4 (some .int), Cond.methodLink RL 93 yX3_lacking, Cond.instanceMethod yX3_lacking, Cond.selects RX3 yX3_lacking yX3_lacking]
def wsL_law0_r21 : List Cond := [Cond.code yX3_lacking cX3_lacking 4 (some .int), Cond.methodLink RL 96 yX4_lacking, Cond.instanceMethod yX4_lacking, Cond.selects RX4 yX4_lacking yX4_lacking, Cond.code yX4_lacking cX4_lacking 2 (some .int), Cond.methodLink RL 97 yX3_fewest, Cond.instanceMethod yX3_fewest, Cond.selects RX3 yX3_fewest yX3_fewest, Cond.code yX3_fewest cX3_fewest 1 (some .int), Cond.methodLink RX3 164 yX1_pagesFor, Cond.instanceMethod yX1_pagesFor, Cond.selects RX1 yX1_pagesFor yX1_pagesFor, Cond.code yX1_pagesFor cX1_pagesFor 3 (some .int), Cond.fieldLink RX1 28 "YearBook$Pages" "learnt" "I", Cond.methodLink RX1 31 yX1_learnSetsWith, Cond.instanceMethod yX1_learnSetsWith, Cond.selects RX1 yX1_learnSetsWith yX1_learnSetsWith, Cond.code yX1_learnSetsWith cX1_learnSetsWith 6 none, Cond.methodLink RX1 45 Lib.Math.min.name, Cond.methodLink RX1 35 yJ7_copyOf_59c91, Cond.static yJ7_copyOf_59c91, Cond.initialized RJ7, Cond.code yJ7_copyOf_59c91 cJ7_copyOf_59c91 3 (some (.array .int)), Cond.methodLink RJ7 316 ⟨"[I", "clone", "()Ljava/lang/Object;"⟩]
def wsL_law0_r22 : List Cond := [Cond.sameMethod "[I" "java/lang/Object" "clone" "()Ljava/lang/Object;", Cond.native ⟨"java/lang/Object", "clone", "()Ljava/lang/Object;"⟩, Cond.instanceMethod ⟨"java/lang/Object", "clone", "()Ljava/lang/Object;"⟩, Cond.selects "[I" ⟨"[I", "clone", "()Ljava/lang/Object;"⟩ ⟨"java/lang/Object", "clone", "()Ljava/lang/Object;"⟩, Cond.classLink RJ7 317 "[I", Cond.methodLink RJ7 304 Lib.Math.min.name, Cond.methodLink RJ7 150 arraycopyName, Cond.native arraycopyName, Cond.static arraycopyName, Cond.initialized "java/lang/System", Cond.methodLink RX1 41 yX1_withOneMore, Cond.static yX1_withOneMore, Cond.code yX1_withOneMore cX1_withOneMore 3 (some .int), Cond.methodLink RL 100 yX4_fewest, Cond.instanceMethod yX4_fewest, Cond.selects RX4 yX4_fewest yX4_fewest, Cond.code yX4_fewest cX4_fewest 1 (some .int), Cond.methodLink RX4 161 yX4_pack, Cond.instanceMethod yX4_pack, Cond.selects RX4 yX4_pack yX4_pack, Cond.code yX4_pack cX4_pack 6 none, Cond.methodLink RX4 156 Lib.Math.min.name, Cond.methodLink RL 101 yX3_lay, Cond.instanceMethod yX3_lay]
def wsL_law0_r23 : List Cond := [Cond.selects RX3 yX3_lay yX3_lay, Cond.code yX3_lay cX3_lay 1 (some .int), Cond.methodLink RX3 167 yX1_layOut, Cond.instanceMethod yX1_layOut, Cond.selects RX1 yX1_layOut yX1_layOut, Cond.code yX1_layOut cX1_layOut 4 (some .int), Cond.methodLink RX1 50 yX1_pagesFor, Cond.methodLink RX1 54 yX1_layOnto, Cond.instanceMethod yX1_layOnto, Cond.selects RX1 yX1_layOnto yX1_layOnto, Cond.code yX1_layOnto cX1_layOnto 5 none, Cond.methodLink RX1 58 yX1_nextPage, Cond.instanceMethod yX1_nextPage, Cond.selects RX1 yX1_nextPage yX1_nextPage, Cond.code yX1_nextPage cX1_nextPage 3 (some .int), Cond.fieldLink RX1 61 "YearBook$Pages" "waiting" "I", Cond.fieldLink RX1 64 "YearBook$Pages" "pagesForRest" "I", Cond.fieldLink RX1 67 "YearBook$Pages" "fullest" "I", Cond.fieldLink RX1 70 "YearBook$Pages" "fullestPoints" "I", Cond.methodLink RX1 73 yX1_fillPage, Cond.instanceMethod yX1_fillPage, Cond.selects RX1 yX1_fillPage yX1_fillPage, Cond.code yX1_fillPage cX1_fillPage 6 none, Cond.methodLink RL 104 yX4_lay]
def wsL_law0_r24 : List Cond := [Cond.instanceMethod yX4_lay, Cond.selects RX4 yX4_lay yX4_lay, Cond.code yX4_lay cX4_lay 2 (some .int), Cond.methodLink RX4 165 yX4_layAll, Cond.instanceMethod yX4_layAll, Cond.selects RX4 yX4_layAll yX4_layAll, Cond.code yX4_layAll cX4_layAll 10 (some .int), Cond.methodLink RL 105 yX3_page, Cond.instanceMethod yX3_page, Cond.selects RX3 yX3_page yX3_page, Cond.code yX3_page cX3_page 2 (some .int), Cond.methodLink RX3 170 yX1_has, Cond.instanceMethod yX1_has, Cond.selects RX1 yX1_has yX1_has, Cond.code yX1_has cX1_has 2 (some .boolean), Cond.methodLink RL 108 yX4_page, Cond.instanceMethod yX4_page, Cond.selects RX4 yX4_page yX4_page, Cond.code yX4_page cX4_page 2 (some .int), Cond.methodLink RL 109 yX3_left, Cond.instanceMethod yX3_left, Cond.selects RX3 yX3_left yX3_left, Cond.code yX3_left cX3_left 2 (some .int), Cond.methodLink RX3 176 yX1_pointsOf]
def wsL_law0_r25 : List Cond := [Cond.instanceMethod yX1_pointsOf, Cond.selects RX1 yX1_pointsOf yX1_pointsOf, Cond.code yX1_pointsOf cX1_pointsOf 4 (some .int), Cond.methodLink RL 112 yX4_left, Cond.instanceMethod yX4_left, Cond.selects RX4 yX4_left yX4_left, Cond.code yX4_left cX4_left 2 (some .int), Cond.methodLink RX4 168 yX4_pointsOf, Cond.instanceMethod yX4_pointsOf, Cond.selects RX4 yX4_pointsOf yX4_pointsOf, Cond.code yX4_pointsOf cX4_pointsOf 4 (some .int), Cond.methodLink RL 113 yX3_late, Cond.instanceMethod yX3_late, Cond.selects RX3 yX3_late yX3_late, Cond.code yX3_late cX3_late 3 (some .int), Cond.methodLink RX3 179 yX1_bringIn, Cond.instanceMethod yX1_bringIn, Cond.selects RX1 yX1_bringIn yX1_bringIn, Cond.code yX1_bringIn cX1_bringIn 6 (some .int), Cond.methodLink RX1 77 yX1_pagesToChange, Cond.instanceMethod yX1_pagesToChange, Cond.selects RX1 yX1_pagesToChange yX1_pagesToChange, Cond.code yX1_pagesToChange cX1_pagesToChange 5 (some .int), Cond.methodLink RX1 85 yX1_pointsOf]
def wsL_law0_r26 : List Cond := [Cond.methodLink RX1 88 yX1_leastPages, Cond.instanceMethod yX1_leastPages, Cond.selects RX1 yX1_leastPages yX1_leastPages, Cond.code yX1_leastPages cX1_leastPages 7 (some .int), Cond.methodLink RX1 80 yJ6_bitCount_0f7a4, Cond.methodLink RL 116 yX4_late, Cond.instanceMethod yX4_late, Cond.selects RX4 yX4_late yX4_late, Cond.code yX4_late cX4_late 6 (some .int), Cond.methodLink RX4 171 yX4_on, Cond.instanceMethod yX4_on, Cond.selects RX4 yX4_on yX4_on, Cond.code yX4_on cX4_on 4 (some .int), Cond.methodLink RL 117 yX3_drop, Cond.instanceMethod yX3_drop, Cond.selects RX3 yX3_drop yX3_drop, Cond.code yX3_drop cX3_drop 2 (some .boolean), Cond.methodLink RX3 182 yX1_takeOut, Cond.instanceMethod yX1_takeOut, Cond.selects RX1 yX1_takeOut yX1_takeOut, Cond.code yX1_takeOut cX1_takeOut 3 (some .boolean), Cond.methodLink RX1 92 yX1_pageOf, Cond.methodLink RL 120 yX4_drop, Cond.instanceMethod yX4_drop]
def wsL_law0_r27 : List Cond := [Cond.selects RX4 yX4_drop yX4_drop, Cond.code yX4_drop cX4_drop 2 (some .boolean)]
def wsL_law0 : List Cond := (wsL_law0_r1 ++ (wsL_law0_r2 ++ (wsL_law0_r3 ++ (wsL_law0_r4 ++ (wsL_law0_r5 ++ (wsL_law0_r6 ++ (wsL_law0_r7 ++ (wsL_law0_r8 ++ (wsL_law0_r9 ++ (wsL_law0_r10 ++ (wsL_law0_r11 ++ (wsL_law0_r12 ++ (wsL_law0_r13 ++ (wsL_law0_r14 ++ (wsL_law0_r15 ++ (wsL_law0_r16 ++ (wsL_law0_r17 ++ (wsL_law0_r18 ++ (wsL_law0_r19 ++ (wsL_law0_r20 ++ (wsL_law0_r21 ++ (wsL_law0_r22 ++ (wsL_law0_r23 ++ (wsL_law0_r24 ++ (wsL_law0_r25 ++ (wsL_law0_r26 ++ wsL_law0_r27)))))))))))))))))))))))))) ++ wsX30 ++ wsX40 ++ wsX00 ++ wsX10 ++ wsX20 ++ ([] : List Cond)
def wsL_law : List Cond := wsL_law0 ++ (vx_atS RX3 105 "java/util/NoSuchElementException" ["java/lang/RuntimeException", "java/lang/Exception"]).filter goodWord
set_option maxRecDepth 20000 in
abbrev vwCl : List vw_C := [(RX0, TX0, 14), (RX1, TX1, 10), (RX2, TX2, 11), (RX3, TX3, 9), (RX4, TX4, 27)]
end
section
theorem dX0_init_0 : decode cX0_init 0 = .ok (.aload_n 0, 1) := by decide +kernel
theorem dX0_init_1 : decode cX0_init 1 = .ok (.invokespecial 3, 3) := by decide +kernel
theorem dX0_init_4 : decode cX0_init 4 = .ok (.aload_n 0, 1) := by decide +kernel
theorem dX0_init_5 : decode cX0_init 5 = .ok (.bipush 14, 2) := by decide +kernel
theorem dX0_init_7 : decode cX0_init 7 = .ok (.newarray .int, 2) := by decide +kernel
theorem dX0_init_9 : decode cX0_init 9 = .ok (.putfield 9, 3) := by decide +kernel
theorem dX0_init_12 : decode cX0_init 12 = .ok (.aload_n 0, 1) := by decide +kernel
theorem dX0_init_13 : decode cX0_init 13 = .ok (.bipush 14, 2) := by decide +kernel
theorem dX0_init_15 : decode cX0_init 15 = .ok (.newarray .long, 2) := by decide +kernel
theorem dX0_init_17 : decode cX0_init 17 = .ok (.putfield 15, 3) := by decide +kernel
theorem dX0_init_20 : decode cX0_init 20 = .ok (.aload_n 0, 1) := by decide +kernel
theorem dX0_init_21 : decode cX0_init 21 = .ok (.bipush 14, 2) := by decide +kernel
theorem dX0_init_23 : decode cX0_init 23 = .ok (.newarray .long, 2) := by decide +kernel
theorem dX0_init_25 : decode cX0_init 25 = .ok (.putfield 19, 3) := by decide +kernel
theorem dX0_init_28 : decode cX0_init 28 = .ok (.aload_n 0, 1) := by decide +kernel
theorem dX0_init_29 : decode cX0_init 29 = .ok (.bipush 15, 2) := by decide +kernel
theorem dX0_init_31 : decode cX0_init 31 = .ok (.newarray .long, 2) := by decide +kernel
theorem dX0_init_33 : decode cX0_init 33 = .ok (.putfield 22, 3) := by decide +kernel
theorem dX0_init_36 : decode cX0_init 36 = .ok (.aload_n 0, 1) := by decide +kernel
theorem dX0_init_37 : decode cX0_init 37 = .ok (.bipush 15, 2) := by decide +kernel
theorem dX0_init_39 : decode cX0_init 39 = .ok (.newarray .long, 2) := by decide +kernel
theorem dX0_init_41 : decode cX0_init 41 = .ok (.putfield 25, 3) := by decide +kernel
theorem dX0_init_44 : decode cX0_init 44 = .ok (.aload_n 0, 1) := by decide +kernel
theorem dX0_init_45 : decode cX0_init 45 = .ok (.bipush 15, 2) := by decide +kernel
theorem dX0_init_47 : decode cX0_init 47 = .ok (.newarray .int, 2) := by decide +kernel
theorem dX0_init_49 : decode cX0_init 49 = .ok (.putfield 28, 3) := by decide +kernel
theorem dX0_init_52 : decode cX0_init 52 = .ok (.aload_n 0, 1) := by decide +kernel
theorem dX0_init_53 : decode cX0_init 53 = .ok (.bipush 15, 2) := by decide +kernel
theorem dX0_init_55 : decode cX0_init 55 = .ok (.newarray .long, 2) := by decide +kernel
theorem dX0_init_57 : decode cX0_init 57 = .ok (.putfield 31, 3) := by decide +kernel
theorem dX0_init_60 : decode cX0_init 60 = .ok (.return_, 1) := by decide +kernel
theorem dX0_begin_0 : decode cX0_begin 0 = .ok (.aload_n 0, 1) := by decide +kernel
theorem dX0_begin_1 : decode cX0_begin 1 = .ok (.iload_n 1, 1) := by decide +kernel
theorem dX0_begin_2 : decode cX0_begin 2 = .ok (.putfield 34, 3) := by decide +kernel
theorem dX0_begin_5 : decode cX0_begin 5 = .ok (.aload_n 0, 1) := by decide +kernel
theorem dX0_begin_6 : decode cX0_begin 6 = .ok (.iload_n 2, 1) := by decide +kernel
theorem dX0_begin_7 : decode cX0_begin 7 = .ok (.putfield 38, 3) := by decide +kernel
theorem dX0_begin_10 : decode cX0_begin 10 = .ok (.aload_n 0, 1) := by decide +kernel
theorem dX0_begin_11 : decode cX0_begin 11 = .ok (.iconst 0, 1) := by decide +kernel
theorem dX0_begin_12 : decode cX0_begin 12 = .ok (.putfield 41, 3) := by decide +kernel
theorem dX0_begin_15 : decode cX0_begin 15 = .ok (.aload_n 0, 1) := by decide +kernel
theorem dX0_begin_16 : decode cX0_begin 16 = .ok (.ldc2_w 44, 3) := by decide +kernel
theorem dX0_begin_19 : decode cX0_begin 19 = .ok (.putfield 46, 3) := by decide +kernel
theorem dX0_begin_22 : decode cX0_begin 22 = .ok (.return_, 1) := by decide +kernel
set_option maxRecDepth 20000 in
theorem ggX0_offer_X0_inFours : GoodIn wsX0_offer wsX0_inFours := goodIn_r _ [11] (by decide +kernel) (by decide +kernel)
set_option maxRecDepth 20000 in
theorem gX0_offer_X0_inFours : GoodIn wsX0_offer (va_wsS RX0 50 yX0_inFours wsX0_inFours) := goodIn_app (goodIn_of _ (by decide +kernel)) ggX0_offer_X0_inFours
theorem dX0_offer_0 : decode cX0_offer 0 = .ok (.aload_n 0, 1) := by decide +kernel
theorem dX0_offer_1 : decode cX0_offer 1 = .ok (.getfield 41, 3) := by decide +kernel
theorem dX0_offer_4 : decode cX0_offer 4 = .ok (.bipush 14, 2) := by decide +kernel
theorem dX0_offer_6 : decode cX0_offer 6 = .ok (.if_icmp .ge 72, 3) := by decide +kernel
theorem dX0_offer_9 : decode cX0_offer 9 = .ok (.aload_n 0, 1) := by decide +kernel
theorem dX0_offer_10 : decode cX0_offer 10 = .ok (.getfield 9, 3) := by decide +kernel
theorem dX0_offer_13 : decode cX0_offer 13 = .ok (.aload_n 0, 1) := by decide +kernel
theorem dX0_offer_14 : decode cX0_offer 14 = .ok (.getfield 41, 3) := by decide +kernel
theorem dX0_offer_17 : decode cX0_offer 17 = .ok (.iload_n 1, 1) := by decide +kernel
theorem dX0_offer_18 : decode cX0_offer 18 = .ok (.iastore, 1) := by decide +kernel
theorem dX0_offer_19 : decode cX0_offer 19 = .ok (.aload_n 0, 1) := by decide +kernel
theorem dX0_offer_20 : decode cX0_offer 20 = .ok (.getfield 15, 3) := by decide +kernel
theorem dX0_offer_23 : decode cX0_offer 23 = .ok (.aload_n 0, 1) := by decide +kernel
theorem dX0_offer_24 : decode cX0_offer 24 = .ok (.getfield 41, 3) := by decide +kernel
theorem dX0_offer_27 : decode cX0_offer 27 = .ok (.iload_n 2, 1) := by decide +kernel
theorem dX0_offer_28 : decode cX0_offer 28 = .ok (.invokestatic 50, 3) := by decide +kernel
theorem dX0_offer_31 : decode cX0_offer 31 = .ok (.lastore, 1) := by decide +kernel
theorem dX0_offer_32 : decode cX0_offer 32 = .ok (.aload_n 0, 1) := by decide +kernel
theorem dX0_offer_33 : decode cX0_offer 33 = .ok (.getfield 19, 3) := by decide +kernel
theorem dX0_offer_36 : decode cX0_offer 36 = .ok (.aload_n 0, 1) := by decide +kernel
theorem dX0_offer_37 : decode cX0_offer 37 = .ok (.getfield 41, 3) := by decide +kernel
theorem dX0_offer_40 : decode cX0_offer 40 = .ok (.lload_n 3, 1) := by decide +kernel
theorem dX0_offer_41 : decode cX0_offer 41 = .ok (.lastore, 1) := by decide +kernel
theorem dX0_offer_42 : decode cX0_offer 42 = .ok (.aload_n 0, 1) := by decide +kernel
theorem dX0_offer_43 : decode cX0_offer 43 = .ok (.dup, 1) := by decide +kernel
theorem dX0_offer_44 : decode cX0_offer 44 = .ok (.getfield 46, 3) := by decide +kernel
theorem dX0_offer_47 : decode cX0_offer 47 = .ok (.aload_n 0, 1) := by decide +kernel
theorem dX0_offer_48 : decode cX0_offer 48 = .ok (.getfield 15, 3) := by decide +kernel
theorem dX0_offer_51 : decode cX0_offer 51 = .ok (.aload_n 0, 1) := by decide +kernel
theorem dX0_offer_52 : decode cX0_offer 52 = .ok (.getfield 41, 3) := by decide +kernel
theorem dX0_offer_55 : decode cX0_offer 55 = .ok (.laload, 1) := by decide +kernel
theorem dX0_offer_56 : decode cX0_offer 56 = .ok (.ldc2_w 54, 3) := by decide +kernel
theorem dX0_offer_59 : decode cX0_offer 59 = .ok (.lmul, 1) := by decide +kernel
theorem dX0_offer_60 : decode cX0_offer 60 = .ok (.ldc2_w 44, 3) := by decide +kernel
theorem dX0_offer_63 : decode cX0_offer 63 = .ok (.lxor, 1) := by decide +kernel
theorem dX0_offer_64 : decode cX0_offer 64 = .ok (.land, 1) := by decide +kernel
theorem dX0_offer_65 : decode cX0_offer 65 = .ok (.putfield 46, 3) := by decide +kernel
theorem dX0_offer_68 : decode cX0_offer 68 = .ok (.aload_n 0, 1) := by decide +kernel
theorem dX0_offer_69 : decode cX0_offer 69 = .ok (.dup, 1) := by decide +kernel
theorem dX0_offer_70 : decode cX0_offer 70 = .ok (.getfield 41, 3) := by decide +kernel
theorem dX0_offer_73 : decode cX0_offer 73 = .ok (.iconst 1, 1) := by decide +kernel
theorem dX0_offer_74 : decode cX0_offer 74 = .ok (.iadd, 1) := by decide +kernel
theorem dX0_offer_75 : decode cX0_offer 75 = .ok (.putfield 41, 3) := by decide +kernel
theorem dX0_offer_78 : decode cX0_offer 78 = .ok (.return_, 1) := by decide +kernel
theorem dX0_inFours_0 : decode cX0_inFours 0 = .ok (.lconst 0, 1) := by decide +kernel
theorem dX0_inFours_1 : decode cX0_inFours 1 = .ok (.lstore_n 1, 1) := by decide +kernel
theorem dX0_inFours_2 : decode cX0_inFours 2 = .ok (.iconst 0, 1) := by decide +kernel
theorem dX0_inFours_3 : decode cX0_inFours 3 = .ok (.istore_n 3, 1) := by decide +kernel
theorem dX0_inFours_4 : decode cX0_inFours 4 = .ok (.iload_n 3, 1) := by decide +kernel
theorem dX0_inFours_5 : decode cX0_inFours 5 = .ok (.bipush 16, 2) := by decide +kernel
theorem dX0_inFours_7 : decode cX0_inFours 7 = .ok (.if_icmp .ge 25, 3) := by decide +kernel
theorem dX0_inFours_10 : decode cX0_inFours 10 = .ok (.iload_n 0, 1) := by decide +kernel
theorem dX0_inFours_11 : decode cX0_inFours 11 = .ok (.iload_n 3, 1) := by decide +kernel
theorem dX0_inFours_12 : decode cX0_inFours 12 = .ok (.ishr, 1) := by decide +kernel
theorem dX0_inFours_13 : decode cX0_inFours 13 = .ok (.iconst 1, 1) := by decide +kernel
theorem dX0_inFours_14 : decode cX0_inFours 14 = .ok (.iand, 1) := by decide +kernel
theorem dX0_inFours_15 : decode cX0_inFours 15 = .ok (.ifCond .eq 11, 3) := by decide +kernel
theorem dX0_inFours_18 : decode cX0_inFours 18 = .ok (.lload_n 1, 1) := by decide +kernel
theorem dX0_inFours_19 : decode cX0_inFours 19 = .ok (.lconst 1, 1) := by decide +kernel
theorem dX0_inFours_20 : decode cX0_inFours 20 = .ok (.iconst 4, 1) := by decide +kernel
theorem dX0_inFours_21 : decode cX0_inFours 21 = .ok (.iload_n 3, 1) := by decide +kernel
theorem dX0_inFours_22 : decode cX0_inFours 22 = .ok (.imul, 1) := by decide +kernel
theorem dX0_inFours_23 : decode cX0_inFours 23 = .ok (.lshl, 1) := by decide +kernel
theorem dX0_inFours_24 : decode cX0_inFours 24 = .ok (.lor, 1) := by decide +kernel
theorem dX0_inFours_25 : decode cX0_inFours 25 = .ok (.lstore_n 1, 1) := by decide +kernel
theorem dX0_inFours_26 : decode cX0_inFours 26 = .ok (.iinc 3 1, 3) := by decide +kernel
theorem dX0_inFours_29 : decode cX0_inFours 29 = .ok (.goto (-25), 3) := by decide +kernel
theorem dX0_inFours_32 : decode cX0_inFours 32 = .ok (.lload_n 1, 1) := by decide +kernel
theorem dX0_inFours_33 : decode cX0_inFours 33 = .ok (.lreturn, 1) := by decide +kernel
theorem dX0_sumUp_0 : decode cX0_sumUp 0 = .ok (.aload_n 0, 1) := by decide +kernel
theorem dX0_sumUp_1 : decode cX0_sumUp 1 = .ok (.getfield 22, 3) := by decide +kernel
theorem dX0_sumUp_4 : decode cX0_sumUp 4 = .ok (.aload_n 0, 1) := by decide +kernel
theorem dX0_sumUp_5 : decode cX0_sumUp 5 = .ok (.getfield 41, 3) := by decide +kernel
theorem dX0_sumUp_8 : decode cX0_sumUp 8 = .ok (.lconst 0, 1) := by decide +kernel
theorem dX0_sumUp_9 : decode cX0_sumUp 9 = .ok (.lastore, 1) := by decide +kernel
theorem dX0_sumUp_10 : decode cX0_sumUp 10 = .ok (.aload_n 0, 1) := by decide +kernel
theorem dX0_sumUp_11 : decode cX0_sumUp 11 = .ok (.getfield 25, 3) := by decide +kernel
theorem dX0_sumUp_14 : decode cX0_sumUp 14 = .ok (.aload_n 0, 1) := by decide +kernel
theorem dX0_sumUp_15 : decode cX0_sumUp 15 = .ok (.getfield 41, 3) := by decide +kernel
theorem dX0_sumUp_18 : decode cX0_sumUp 18 = .ok (.lconst 0, 1) := by decide +kernel
theorem dX0_sumUp_19 : decode cX0_sumUp 19 = .ok (.lastore, 1) := by decide +kernel
theorem dX0_sumUp_20 : decode cX0_sumUp 20 = .ok (.aload_n 0, 1) := by decide +kernel
theorem dX0_sumUp_21 : decode cX0_sumUp 21 = .ok (.getfield 28, 3) := by decide +kernel
theorem dX0_sumUp_24 : decode cX0_sumUp 24 = .ok (.aload_n 0, 1) := by decide +kernel
theorem dX0_sumUp_25 : decode cX0_sumUp 25 = .ok (.getfield 41, 3) := by decide +kernel
theorem dX0_sumUp_28 : decode cX0_sumUp 28 = .ok (.iconst 0, 1) := by decide +kernel
theorem dX0_sumUp_29 : decode cX0_sumUp 29 = .ok (.iastore, 1) := by decide +kernel
theorem dX0_sumUp_30 : decode cX0_sumUp 30 = .ok (.aload_n 0, 1) := by decide +kernel
theorem dX0_sumUp_31 : decode cX0_sumUp 31 = .ok (.getfield 31, 3) := by decide +kernel
theorem dX0_sumUp_34 : decode cX0_sumUp 34 = .ok (.aload_n 0, 1) := by decide +kernel
theorem dX0_sumUp_35 : decode cX0_sumUp 35 = .ok (.getfield 41, 3) := by decide +kernel
theorem dX0_sumUp_38 : decode cX0_sumUp 38 = .ok (.lconst 0, 1) := by decide +kernel
theorem dX0_sumUp_39 : decode cX0_sumUp 39 = .ok (.lastore, 1) := by decide +kernel
theorem dX0_sumUp_40 : decode cX0_sumUp 40 = .ok (.aload_n 0, 1) := by decide +kernel
theorem dX0_sumUp_41 : decode cX0_sumUp 41 = .ok (.getfield 41, 3) := by decide +kernel
theorem dX0_sumUp_44 : decode cX0_sumUp 44 = .ok (.iconst 1, 1) := by decide +kernel
theorem dX0_sumUp_45 : decode cX0_sumUp 45 = .ok (.isub, 1) := by decide +kernel
theorem dX0_sumUp_46 : decode cX0_sumUp 46 = .ok (.istore_n 1, 1) := by decide +kernel
theorem dX0_sumUp_47 : decode cX0_sumUp 47 = .ok (.iload_n 1, 1) := by decide +kernel
theorem dX0_sumUp_48 : decode cX0_sumUp 48 = .ok (.ifCond .lt 134, 3) := by decide +kernel
theorem dX0_sumUp_51 : decode cX0_sumUp 51 = .ok (.aload_n 0, 1) := by decide +kernel
theorem dX0_sumUp_52 : decode cX0_sumUp 52 = .ok (.getfield 19, 3) := by decide +kernel
theorem dX0_sumUp_55 : decode cX0_sumUp 55 = .ok (.iload_n 1, 1) := by decide +kernel
theorem dX0_sumUp_56 : decode cX0_sumUp 56 = .ok (.laload, 1) := by decide +kernel
theorem dX0_sumUp_57 : decode cX0_sumUp 57 = .ok (.lconst 0, 1) := by decide +kernel
theorem dX0_sumUp_58 : decode cX0_sumUp 58 = .ok (.lcmp, 1) := by decide +kernel
theorem dX0_sumUp_59 : decode cX0_sumUp 59 = .ok (.ifCond .le 7, 3) := by decide +kernel
theorem dX0_sumUp_62 : decode cX0_sumUp 62 = .ok (.iconst 1, 1) := by decide +kernel
theorem dX0_sumUp_63 : decode cX0_sumUp 63 = .ok (.goto 4, 3) := by decide +kernel
theorem dX0_sumUp_66 : decode cX0_sumUp 66 = .ok (.iconst 0, 1) := by decide +kernel
theorem dX0_sumUp_67 : decode cX0_sumUp 67 = .ok (.istore_n 2, 1) := by decide +kernel
theorem dX0_sumUp_68 : decode cX0_sumUp 68 = .ok (.aload_n 0, 1) := by decide +kernel
theorem dX0_sumUp_69 : decode cX0_sumUp 69 = .ok (.getfield 22, 3) := by decide +kernel
theorem dX0_sumUp_72 : decode cX0_sumUp 72 = .ok (.iload_n 1, 1) := by decide +kernel
theorem dX0_sumUp_73 : decode cX0_sumUp 73 = .ok (.aload_n 0, 1) := by decide +kernel
theorem dX0_sumUp_74 : decode cX0_sumUp 74 = .ok (.getfield 22, 3) := by decide +kernel
theorem dX0_sumUp_77 : decode cX0_sumUp 77 = .ok (.iload_n 1, 1) := by decide +kernel
theorem dX0_sumUp_78 : decode cX0_sumUp 78 = .ok (.iconst 1, 1) := by decide +kernel
theorem dX0_sumUp_79 : decode cX0_sumUp 79 = .ok (.iadd, 1) := by decide +kernel
theorem dX0_sumUp_80 : decode cX0_sumUp 80 = .ok (.laload, 1) := by decide +kernel
theorem dX0_sumUp_81 : decode cX0_sumUp 81 = .ok (.aload_n 0, 1) := by decide +kernel
theorem dX0_sumUp_82 : decode cX0_sumUp 82 = .ok (.getfield 15, 3) := by decide +kernel
theorem dX0_sumUp_85 : decode cX0_sumUp 85 = .ok (.iload_n 1, 1) := by decide +kernel
theorem dX0_sumUp_86 : decode cX0_sumUp 86 = .ok (.laload, 1) := by decide +kernel
theorem dX0_sumUp_87 : decode cX0_sumUp 87 = .ok (.ladd, 1) := by decide +kernel
theorem dX0_sumUp_88 : decode cX0_sumUp 88 = .ok (.lastore, 1) := by decide +kernel
theorem dX0_sumUp_89 : decode cX0_sumUp 89 = .ok (.aload_n 0, 1) := by decide +kernel
theorem dX0_sumUp_90 : decode cX0_sumUp 90 = .ok (.getfield 25, 3) := by decide +kernel
theorem dX0_sumUp_93 : decode cX0_sumUp 93 = .ok (.iload_n 1, 1) := by decide +kernel
theorem dX0_sumUp_94 : decode cX0_sumUp 94 = .ok (.aload_n 0, 1) := by decide +kernel
theorem dX0_sumUp_95 : decode cX0_sumUp 95 = .ok (.getfield 25, 3) := by decide +kernel
theorem dX0_sumUp_98 : decode cX0_sumUp 98 = .ok (.iload_n 1, 1) := by decide +kernel
theorem dX0_sumUp_99 : decode cX0_sumUp 99 = .ok (.iconst 1, 1) := by decide +kernel
theorem dX0_sumUp_100 : decode cX0_sumUp 100 = .ok (.iadd, 1) := by decide +kernel
theorem dX0_sumUp_101 : decode cX0_sumUp 101 = .ok (.laload, 1) := by decide +kernel
theorem dX0_sumUp_102 : decode cX0_sumUp 102 = .ok (.iload_n 2, 1) := by decide +kernel
theorem dX0_sumUp_103 : decode cX0_sumUp 103 = .ok (.ifCond .eq 12, 3) := by decide +kernel
theorem dX0_sumUp_106 : decode cX0_sumUp 106 = .ok (.aload_n 0, 1) := by decide +kernel
theorem dX0_sumUp_107 : decode cX0_sumUp 107 = .ok (.getfield 15, 3) := by decide +kernel
theorem dX0_sumUp_110 : decode cX0_sumUp 110 = .ok (.iload_n 1, 1) := by decide +kernel
theorem dX0_sumUp_111 : decode cX0_sumUp 111 = .ok (.laload, 1) := by decide +kernel
theorem dX0_sumUp_112 : decode cX0_sumUp 112 = .ok (.goto 4, 3) := by decide +kernel
theorem dX0_sumUp_115 : decode cX0_sumUp 115 = .ok (.lconst 0, 1) := by decide +kernel
theorem dX0_sumUp_116 : decode cX0_sumUp 116 = .ok (.ladd, 1) := by decide +kernel
theorem dX0_sumUp_117 : decode cX0_sumUp 117 = .ok (.lastore, 1) := by decide +kernel
theorem dX0_sumUp_118 : decode cX0_sumUp 118 = .ok (.aload_n 0, 1) := by decide +kernel
theorem dX0_sumUp_119 : decode cX0_sumUp 119 = .ok (.getfield 28, 3) := by decide +kernel
theorem dX0_sumUp_122 : decode cX0_sumUp 122 = .ok (.iload_n 1, 1) := by decide +kernel
theorem dX0_sumUp_123 : decode cX0_sumUp 123 = .ok (.aload_n 0, 1) := by decide +kernel
theorem dX0_sumUp_124 : decode cX0_sumUp 124 = .ok (.getfield 28, 3) := by decide +kernel
theorem dX0_sumUp_127 : decode cX0_sumUp 127 = .ok (.iload_n 1, 1) := by decide +kernel
theorem dX0_sumUp_128 : decode cX0_sumUp 128 = .ok (.iconst 1, 1) := by decide +kernel
theorem dX0_sumUp_129 : decode cX0_sumUp 129 = .ok (.iadd, 1) := by decide +kernel
theorem dX0_sumUp_130 : decode cX0_sumUp 130 = .ok (.iaload, 1) := by decide +kernel
theorem dX0_sumUp_131 : decode cX0_sumUp 131 = .ok (.iload_n 2, 1) := by decide +kernel
theorem dX0_sumUp_132 : decode cX0_sumUp 132 = .ok (.ifCond .eq 12, 3) := by decide +kernel
theorem dX0_sumUp_135 : decode cX0_sumUp 135 = .ok (.aload_n 0, 1) := by decide +kernel
theorem dX0_sumUp_136 : decode cX0_sumUp 136 = .ok (.getfield 9, 3) := by decide +kernel
theorem dX0_sumUp_139 : decode cX0_sumUp 139 = .ok (.iload_n 1, 1) := by decide +kernel
theorem dX0_sumUp_140 : decode cX0_sumUp 140 = .ok (.iaload, 1) := by decide +kernel
theorem dX0_sumUp_141 : decode cX0_sumUp 141 = .ok (.goto 4, 3) := by decide +kernel
theorem dX0_sumUp_144 : decode cX0_sumUp 144 = .ok (.iconst 0, 1) := by decide +kernel
theorem dX0_sumUp_145 : decode cX0_sumUp 145 = .ok (.ior, 1) := by decide +kernel
theorem dX0_sumUp_146 : decode cX0_sumUp 146 = .ok (.iastore, 1) := by decide +kernel
theorem dX0_sumUp_147 : decode cX0_sumUp 147 = .ok (.aload_n 0, 1) := by decide +kernel
theorem dX0_sumUp_148 : decode cX0_sumUp 148 = .ok (.getfield 31, 3) := by decide +kernel
theorem dX0_sumUp_151 : decode cX0_sumUp 151 = .ok (.iload_n 1, 1) := by decide +kernel
theorem dX0_sumUp_152 : decode cX0_sumUp 152 = .ok (.aload_n 0, 1) := by decide +kernel
theorem dX0_sumUp_153 : decode cX0_sumUp 153 = .ok (.getfield 31, 3) := by decide +kernel
theorem dX0_sumUp_156 : decode cX0_sumUp 156 = .ok (.iload_n 1, 1) := by decide +kernel
theorem dX0_sumUp_157 : decode cX0_sumUp 157 = .ok (.iconst 1, 1) := by decide +kernel
theorem dX0_sumUp_158 : decode cX0_sumUp 158 = .ok (.iadd, 1) := by decide +kernel
theorem dX0_sumUp_159 : decode cX0_sumUp 159 = .ok (.laload, 1) := by decide +kernel
theorem dX0_sumUp_160 : decode cX0_sumUp 160 = .ok (.iload_n 2, 1) := by decide +kernel
theorem dX0_sumUp_161 : decode cX0_sumUp 161 = .ok (.ifCond .eq 12, 3) := by decide +kernel
theorem dX0_sumUp_164 : decode cX0_sumUp 164 = .ok (.aload_n 0, 1) := by decide +kernel
theorem dX0_sumUp_165 : decode cX0_sumUp 165 = .ok (.getfield 19, 3) := by decide +kernel
theorem dX0_sumUp_168 : decode cX0_sumUp 168 = .ok (.iload_n 1, 1) := by decide +kernel
theorem dX0_sumUp_169 : decode cX0_sumUp 169 = .ok (.laload, 1) := by decide +kernel
theorem dX0_sumUp_170 : decode cX0_sumUp 170 = .ok (.goto 4, 3) := by decide +kernel
theorem dX0_sumUp_173 : decode cX0_sumUp 173 = .ok (.lconst 0, 1) := by decide +kernel
theorem dX0_sumUp_174 : decode cX0_sumUp 174 = .ok (.ladd, 1) := by decide +kernel
theorem dX0_sumUp_175 : decode cX0_sumUp 175 = .ok (.lastore, 1) := by decide +kernel
theorem dX0_sumUp_176 : decode cX0_sumUp 176 = .ok (.iinc 1 (-1), 3) := by decide +kernel
theorem dX0_sumUp_179 : decode cX0_sumUp 179 = .ok (.goto (-132), 3) := by decide +kernel
theorem dX0_sumUp_182 : decode cX0_sumUp 182 = .ok (.return_, 1) := by decide +kernel
set_option maxRecDepth 20000 in
theorem ggX0_findBest_X0_searchFrom : GoodIn wsX0_findBest wsX0_searchFrom := goodIn_r _ [6, 7, 1, 8, 9, 10, 11, 12, 13, 14, 15, 16, 17, 18, 5, 19, 20, 21, 22, 23, 24, 25, 26, 27, 28, 29, 30, 31, 32, 33, 34, 2, 3, 4, 35, 36, 37, 38, 39, 40, 41, 42, 43, 44, 45, 46, 47, 48] (by decide +kernel) (by decide +kernel)
set_option maxRecDepth 20000 in
theorem gX0_findBest_X0_searchFrom : GoodIn wsX0_findBest (wsV RX0 60 RX0 yX0_searchFrom wsX0_searchFrom) := goodIn_app (goodIn_of _ (by decide +kernel)) ggX0_findBest_X0_searchFrom
theorem dX0_findBest_0 : decode cX0_findBest 0 = .ok (.aload_n 0, 1) := by decide +kernel
theorem dX0_findBest_1 : decode cX0_findBest 1 = .ok (.iconst 0, 1) := by decide +kernel
theorem dX0_findBest_2 : decode cX0_findBest 2 = .ok (.putfield 56, 3) := by decide +kernel
theorem dX0_findBest_5 : decode cX0_findBest 5 = .ok (.aload_n 0, 1) := by decide +kernel
theorem dX0_findBest_6 : decode cX0_findBest 6 = .ok (.iconst 0, 1) := by decide +kernel
theorem dX0_findBest_7 : decode cX0_findBest 7 = .ok (.iconst 0, 1) := by decide +kernel
theorem dX0_findBest_8 : decode cX0_findBest 8 = .ok (.lconst 0, 1) := by decide +kernel
theorem dX0_findBest_9 : decode cX0_findBest 9 = .ok (.lconst 0, 1) := by decide +kernel
theorem dX0_findBest_10 : decode cX0_findBest 10 = .ok (.invokevirtual 60, 3) := by decide +kernel
theorem dX0_findBest_13 : decode cX0_findBest 13 = .ok (.aload_n 0, 1) := by decide +kernel
theorem dX0_findBest_14 : decode cX0_findBest 14 = .ok (.getfield 56, 3) := by decide +kernel
theorem dX0_findBest_17 : decode cX0_findBest 17 = .ok (.ireturn, 1) := by decide +kernel
set_option maxRecDepth 20000 in
theorem ggX0_countFitting_X0_fittingFrom : GoodIn wsX0_countFitting wsX0_fittingFrom := goodIn_r _ [5, 6, 7, 8, 9, 10, 11, 4, 12, 13, 14, 15, 16, 17, 18, 19, 20, 21, 22, 23, 24, 25, 26, 1, 2, 3, 27, 28, 29, 30, 31, 32, 33, 34, 35, 36, 37, 38, 39, 40] (by decide +kernel) (by decide +kernel)
set_option maxRecDepth 20000 in
theorem gX0_countFitting_X0_fittingFrom : GoodIn wsX0_countFitting (wsV RX0 64 RX0 yX0_fittingFrom wsX0_fittingFrom) := goodIn_app (goodIn_of _ (by decide +kernel)) ggX0_countFitting_X0_fittingFrom
theorem dX0_countFitting_0 : decode cX0_countFitting 0 = .ok (.aload_n 0, 1) := by decide +kernel
theorem dX0_countFitting_1 : decode cX0_countFitting 1 = .ok (.iconst 0, 1) := by decide +kernel
theorem dX0_countFitting_2 : decode cX0_countFitting 2 = .ok (.lconst 0, 1) := by decide +kernel
theorem dX0_countFitting_3 : decode cX0_countFitting 3 = .ok (.invokevirtual 64, 3) := by decide +kernel
theorem dX0_countFitting_6 : decode cX0_countFitting 6 = .ok (.ireturn, 1) := by decide +kernel
set_option maxRecDepth 20000 in
theorem ggX0_searchFrom_X0_isLost : GoodIn wsX0_searchFrom wsX0_isLost := goodIn_r _ [15, 16, 17, 18, 19, 14, 20, 21, 22, 23, 24, 25, 26, 27, 28, 29, 30, 34, 35, 36, 37, 38, 39, 40, 41, 42, 43, 44, 45, 46, 47] (by decide +kernel) (by decide +kernel)
set_option maxRecDepth 20000 in
theorem gX0_searchFrom_X0_isLost : GoodIn wsX0_searchFrom (wsV RX0 71 RX0 yX0_isLost wsX0_isLost) := goodIn_app (goodIn_of _ (by decide +kernel)) ggX0_searchFrom_X0_isLost
set_option maxRecDepth 20000 in
theorem ggX0_searchFrom_X0_someAbove : GoodIn wsX0_searchFrom wsX0_someAbove := goodIn_r _ [20, 21, 22, 23, 24, 34, 35, 36, 37, 38, 39, 40, 41, 42, 43, 44, 45, 46, 47] (by decide +kernel) (by decide +kernel)
set_option maxRecDepth 20000 in
theorem gX0_searchFrom_X0_someAbove : GoodIn wsX0_searchFrom (wsV RX0 75 RX0 yX0_someAbove wsX0_someAbove) := goodIn_app (goodIn_of _ (by decide +kernel)) ggX0_searchFrom_X0_someAbove
set_option maxRecDepth 20000 in
theorem ggX0_searchFrom_X0_someBelow : GoodIn wsX0_searchFrom wsX0_someBelow := goodIn_r _ [28, 29, 30, 22, 23, 24, 34, 35, 36, 37, 38, 39, 40, 41, 42, 43, 44, 45, 46, 47] (by decide +kernel) (by decide +kernel)
set_option maxRecDepth 20000 in
theorem gX0_searchFrom_X0_someBelow : GoodIn wsX0_searchFrom (wsV RX0 79 RX0 yX0_someBelow wsX0_someBelow) := goodIn_app (goodIn_of _ (by decide +kernel)) ggX0_searchFrom_X0_someBelow
set_option maxRecDepth 20000 in
theorem ggX0_searchFrom_X0_searchFrom : GoodIn wsX0_searchFrom wsX0_searchFrom := goodIn_r _ [0, 1, 2, 3, 4, 5, 6, 7, 8, 9, 10, 11, 12, 13, 14, 15, 16, 17, 18, 19, 20, 21, 22, 23, 24, 25, 26, 27, 28, 29, 30, 31, 32, 33, 34, 35, 36, 37, 38, 39, 40, 41, 42, 43, 44, 45, 46, 47] (by decide +kernel) (by decide +kernel)
set_option maxRecDepth 20000 in
theorem gX0_searchFrom_X0_searchFrom : GoodIn wsX0_searchFrom (wsV RX0 60 RX0 yX0_searchFrom wsX0_searchFrom) := goodIn_app (goodIn_of _ (by decide +kernel)) ggX0_searchFrom_X0_searchFrom
theorem dX0_searchFrom_0 : decode cX0_searchFrom 0 = .ok (.iload_n 1, 1) := by decide +kernel
theorem dX0_searchFrom_1 : decode cX0_searchFrom 1 = .ok (.aload_n 0, 1) := by decide +kernel
theorem dX0_searchFrom_2 : decode cX0_searchFrom 2 = .ok (.getfield 41, 3) := by decide +kernel
theorem dX0_searchFrom_5 : decode cX0_searchFrom 5 = .ok (.if_icmp .gt 36, 3) := by decide +kernel
theorem dX0_searchFrom_8 : decode cX0_searchFrom 8 = .ok (.aload_n 0, 1) := by decide +kernel
theorem dX0_searchFrom_9 : decode cX0_searchFrom 9 = .ok (.getfield 56, 3) := by decide +kernel
theorem dX0_searchFrom_12 : decode cX0_searchFrom 12 = .ok (.ifCond .eq 20, 3) := by decide +kernel
theorem dX0_searchFrom_15 : decode cX0_searchFrom 15 = .ok (.lload 5, 2) := by decide +kernel
theorem dX0_searchFrom_17 : decode cX0_searchFrom 17 = .ok (.aload_n 0, 1) := by decide +kernel
theorem dX0_searchFrom_18 : decode cX0_searchFrom 18 = .ok (.getfield 31, 3) := by decide +kernel
theorem dX0_searchFrom_21 : decode cX0_searchFrom 21 = .ok (.iload_n 1, 1) := by decide +kernel
theorem dX0_searchFrom_22 : decode cX0_searchFrom 22 = .ok (.laload, 1) := by decide +kernel
theorem dX0_searchFrom_23 : decode cX0_searchFrom 23 = .ok (.ladd, 1) := by decide +kernel
theorem dX0_searchFrom_24 : decode cX0_searchFrom 24 = .ok (.aload_n 0, 1) := by decide +kernel
theorem dX0_searchFrom_25 : decode cX0_searchFrom 25 = .ok (.getfield 68, 3) := by decide +kernel
theorem dX0_searchFrom_28 : decode cX0_searchFrom 28 = .ok (.lcmp, 1) := by decide +kernel
theorem dX0_searchFrom_29 : decode cX0_searchFrom 29 = .ok (.ifCond .le 12, 3) := by decide +kernel
theorem dX0_searchFrom_32 : decode cX0_searchFrom 32 = .ok (.aload_n 0, 1) := by decide +kernel
theorem dX0_searchFrom_33 : decode cX0_searchFrom 33 = .ok (.iload_n 1, 1) := by decide +kernel
theorem dX0_searchFrom_34 : decode cX0_searchFrom 34 = .ok (.lload_n 3, 1) := by decide +kernel
theorem dX0_searchFrom_35 : decode cX0_searchFrom 35 = .ok (.invokevirtual 71, 3) := by decide +kernel
theorem dX0_searchFrom_38 : decode cX0_searchFrom 38 = .ok (.ifCond .eq 4, 3) := by decide +kernel
theorem dX0_searchFrom_41 : decode cX0_searchFrom 41 = .ok (.return_, 1) := by decide +kernel
theorem dX0_searchFrom_42 : decode cX0_searchFrom 42 = .ok (.lload_n 3, 1) := by decide +kernel
theorem dX0_searchFrom_43 : decode cX0_searchFrom 43 = .ok (.aload_n 0, 1) := by decide +kernel
theorem dX0_searchFrom_44 : decode cX0_searchFrom 44 = .ok (.getfield 25, 3) := by decide +kernel
theorem dX0_searchFrom_47 : decode cX0_searchFrom 47 = .ok (.iload_n 1, 1) := by decide +kernel
theorem dX0_searchFrom_48 : decode cX0_searchFrom 48 = .ok (.laload, 1) := by decide +kernel
theorem dX0_searchFrom_49 : decode cX0_searchFrom 49 = .ok (.ladd, 1) := by decide +kernel
theorem dX0_searchFrom_50 : decode cX0_searchFrom 50 = .ok (.lstore 7, 2) := by decide +kernel
theorem dX0_searchFrom_52 : decode cX0_searchFrom 52 = .ok (.aload_n 0, 1) := by decide +kernel
theorem dX0_searchFrom_53 : decode cX0_searchFrom 53 = .ok (.lload 7, 2) := by decide +kernel
theorem dX0_searchFrom_55 : decode cX0_searchFrom 55 = .ok (.invokevirtual 75, 3) := by decide +kernel
theorem dX0_searchFrom_58 : decode cX0_searchFrom 58 = .ok (.ifCond .ne 43, 3) := by decide +kernel
theorem dX0_searchFrom_61 : decode cX0_searchFrom 61 = .ok (.aload_n 0, 1) := by decide +kernel
theorem dX0_searchFrom_62 : decode cX0_searchFrom 62 = .ok (.lload 7, 2) := by decide +kernel
theorem dX0_searchFrom_64 : decode cX0_searchFrom 64 = .ok (.invokevirtual 79, 3) := by decide +kernel
theorem dX0_searchFrom_67 : decode cX0_searchFrom 67 = .ok (.ifCond .ne 34, 3) := by decide +kernel
theorem dX0_searchFrom_70 : decode cX0_searchFrom 70 = .ok (.aload_n 0, 1) := by decide +kernel
theorem dX0_searchFrom_71 : decode cX0_searchFrom 71 = .ok (.iconst 1, 1) := by decide +kernel
theorem dX0_searchFrom_72 : decode cX0_searchFrom 72 = .ok (.putfield 56, 3) := by decide +kernel
theorem dX0_searchFrom_75 : decode cX0_searchFrom 75 = .ok (.aload_n 0, 1) := by decide +kernel
theorem dX0_searchFrom_76 : decode cX0_searchFrom 76 = .ok (.iload_n 2, 1) := by decide +kernel
theorem dX0_searchFrom_77 : decode cX0_searchFrom 77 = .ok (.aload_n 0, 1) := by decide +kernel
theorem dX0_searchFrom_78 : decode cX0_searchFrom 78 = .ok (.getfield 28, 3) := by decide +kernel
theorem dX0_searchFrom_81 : decode cX0_searchFrom 81 = .ok (.iload_n 1, 1) := by decide +kernel
theorem dX0_searchFrom_82 : decode cX0_searchFrom 82 = .ok (.iaload, 1) := by decide +kernel
theorem dX0_searchFrom_83 : decode cX0_searchFrom 83 = .ok (.ior, 1) := by decide +kernel
theorem dX0_searchFrom_84 : decode cX0_searchFrom 84 = .ok (.putfield 82, 3) := by decide +kernel
theorem dX0_searchFrom_87 : decode cX0_searchFrom 87 = .ok (.aload_n 0, 1) := by decide +kernel
theorem dX0_searchFrom_88 : decode cX0_searchFrom 88 = .ok (.lload 5, 2) := by decide +kernel
theorem dX0_searchFrom_90 : decode cX0_searchFrom 90 = .ok (.aload_n 0, 1) := by decide +kernel
theorem dX0_searchFrom_91 : decode cX0_searchFrom 91 = .ok (.getfield 31, 3) := by decide +kernel
theorem dX0_searchFrom_94 : decode cX0_searchFrom 94 = .ok (.iload_n 1, 1) := by decide +kernel
theorem dX0_searchFrom_95 : decode cX0_searchFrom 95 = .ok (.laload, 1) := by decide +kernel
theorem dX0_searchFrom_96 : decode cX0_searchFrom 96 = .ok (.ladd, 1) := by decide +kernel
theorem dX0_searchFrom_97 : decode cX0_searchFrom 97 = .ok (.putfield 68, 3) := by decide +kernel
theorem dX0_searchFrom_100 : decode cX0_searchFrom 100 = .ok (.return_, 1) := by decide +kernel
theorem dX0_searchFrom_101 : decode cX0_searchFrom 101 = .ok (.iload_n 1, 1) := by decide +kernel
theorem dX0_searchFrom_102 : decode cX0_searchFrom 102 = .ok (.aload_n 0, 1) := by decide +kernel
theorem dX0_searchFrom_103 : decode cX0_searchFrom 103 = .ok (.getfield 41, 3) := by decide +kernel
theorem dX0_searchFrom_106 : decode cX0_searchFrom 106 = .ok (.if_icmp .lt 4, 3) := by decide +kernel
theorem dX0_searchFrom_109 : decode cX0_searchFrom 109 = .ok (.return_, 1) := by decide +kernel
theorem dX0_searchFrom_110 : decode cX0_searchFrom 110 = .ok (.aload_n 0, 1) := by decide +kernel
theorem dX0_searchFrom_111 : decode cX0_searchFrom 111 = .ok (.getfield 19, 3) := by decide +kernel
theorem dX0_searchFrom_114 : decode cX0_searchFrom 114 = .ok (.iload_n 1, 1) := by decide +kernel
theorem dX0_searchFrom_115 : decode cX0_searchFrom 115 = .ok (.laload, 1) := by decide +kernel
theorem dX0_searchFrom_116 : decode cX0_searchFrom 116 = .ok (.lconst 0, 1) := by decide +kernel
theorem dX0_searchFrom_117 : decode cX0_searchFrom 117 = .ok (.lcmp, 1) := by decide +kernel
theorem dX0_searchFrom_118 : decode cX0_searchFrom 118 = .ok (.ifCond .le 7, 3) := by decide +kernel
theorem dX0_searchFrom_121 : decode cX0_searchFrom 121 = .ok (.iconst 1, 1) := by decide +kernel
theorem dX0_searchFrom_122 : decode cX0_searchFrom 122 = .ok (.goto 4, 3) := by decide +kernel
theorem dX0_searchFrom_125 : decode cX0_searchFrom 125 = .ok (.iconst 0, 1) := by decide +kernel
theorem dX0_searchFrom_126 : decode cX0_searchFrom 126 = .ok (.istore 9, 2) := by decide +kernel
theorem dX0_searchFrom_128 : decode cX0_searchFrom 128 = .ok (.iload 9, 2) := by decide +kernel
theorem dX0_searchFrom_130 : decode cX0_searchFrom 130 = .ok (.ifCond .ne 14, 3) := by decide +kernel
theorem dX0_searchFrom_133 : decode cX0_searchFrom 133 = .ok (.aload_n 0, 1) := by decide +kernel
theorem dX0_searchFrom_134 : decode cX0_searchFrom 134 = .ok (.iload_n 1, 1) := by decide +kernel
theorem dX0_searchFrom_135 : decode cX0_searchFrom 135 = .ok (.iconst 1, 1) := by decide +kernel
theorem dX0_searchFrom_136 : decode cX0_searchFrom 136 = .ok (.iadd, 1) := by decide +kernel
theorem dX0_searchFrom_137 : decode cX0_searchFrom 137 = .ok (.iload_n 2, 1) := by decide +kernel
theorem dX0_searchFrom_138 : decode cX0_searchFrom 138 = .ok (.lload_n 3, 1) := by decide +kernel
theorem dX0_searchFrom_139 : decode cX0_searchFrom 139 = .ok (.lload 5, 2) := by decide +kernel
theorem dX0_searchFrom_141 : decode cX0_searchFrom 141 = .ok (.invokevirtual 60, 3) := by decide +kernel
theorem dX0_searchFrom_144 : decode cX0_searchFrom 144 = .ok (.aload_n 0, 1) := by decide +kernel
theorem dX0_searchFrom_145 : decode cX0_searchFrom 145 = .ok (.iload_n 1, 1) := by decide +kernel
theorem dX0_searchFrom_146 : decode cX0_searchFrom 146 = .ok (.iconst 1, 1) := by decide +kernel
theorem dX0_searchFrom_147 : decode cX0_searchFrom 147 = .ok (.iadd, 1) := by decide +kernel
theorem dX0_searchFrom_148 : decode cX0_searchFrom 148 = .ok (.iload_n 2, 1) := by decide +kernel
theorem dX0_searchFrom_149 : decode cX0_searchFrom 149 = .ok (.aload_n 0, 1) := by decide +kernel
theorem dX0_searchFrom_150 : decode cX0_searchFrom 150 = .ok (.getfield 9, 3) := by decide +kernel
theorem dX0_searchFrom_153 : decode cX0_searchFrom 153 = .ok (.iload_n 1, 1) := by decide +kernel
theorem dX0_searchFrom_154 : decode cX0_searchFrom 154 = .ok (.iaload, 1) := by decide +kernel
theorem dX0_searchFrom_155 : decode cX0_searchFrom 155 = .ok (.ior, 1) := by decide +kernel
theorem dX0_searchFrom_156 : decode cX0_searchFrom 156 = .ok (.lload_n 3, 1) := by decide +kernel
theorem dX0_searchFrom_157 : decode cX0_searchFrom 157 = .ok (.aload_n 0, 1) := by decide +kernel
theorem dX0_searchFrom_158 : decode cX0_searchFrom 158 = .ok (.getfield 15, 3) := by decide +kernel
theorem dX0_searchFrom_161 : decode cX0_searchFrom 161 = .ok (.iload_n 1, 1) := by decide +kernel
theorem dX0_searchFrom_162 : decode cX0_searchFrom 162 = .ok (.laload, 1) := by decide +kernel
theorem dX0_searchFrom_163 : decode cX0_searchFrom 163 = .ok (.ladd, 1) := by decide +kernel
theorem dX0_searchFrom_164 : decode cX0_searchFrom 164 = .ok (.lload 5, 2) := by decide +kernel
theorem dX0_searchFrom_166 : decode cX0_searchFrom 166 = .ok (.aload_n 0, 1) := by decide +kernel
theorem dX0_searchFrom_167 : decode cX0_searchFrom 167 = .ok (.getfield 19, 3) := by decide +kernel
theorem dX0_searchFrom_170 : decode cX0_searchFrom 170 = .ok (.iload_n 1, 1) := by decide +kernel
theorem dX0_searchFrom_171 : decode cX0_searchFrom 171 = .ok (.laload, 1) := by decide +kernel
theorem dX0_searchFrom_172 : decode cX0_searchFrom 172 = .ok (.ladd, 1) := by decide +kernel
theorem dX0_searchFrom_173 : decode cX0_searchFrom 173 = .ok (.invokevirtual 60, 3) := by decide +kernel
theorem dX0_searchFrom_176 : decode cX0_searchFrom 176 = .ok (.iload 9, 2) := by decide +kernel
theorem dX0_searchFrom_178 : decode cX0_searchFrom 178 = .ok (.ifCond .eq 14, 3) := by decide +kernel
theorem dX0_searchFrom_181 : decode cX0_searchFrom 181 = .ok (.aload_n 0, 1) := by decide +kernel
theorem dX0_searchFrom_182 : decode cX0_searchFrom 182 = .ok (.iload_n 1, 1) := by decide +kernel
theorem dX0_searchFrom_183 : decode cX0_searchFrom 183 = .ok (.iconst 1, 1) := by decide +kernel
theorem dX0_searchFrom_184 : decode cX0_searchFrom 184 = .ok (.iadd, 1) := by decide +kernel
theorem dX0_searchFrom_185 : decode cX0_searchFrom 185 = .ok (.iload_n 2, 1) := by decide +kernel
theorem dX0_searchFrom_186 : decode cX0_searchFrom 186 = .ok (.lload_n 3, 1) := by decide +kernel
theorem dX0_searchFrom_187 : decode cX0_searchFrom 187 = .ok (.lload 5, 2) := by decide +kernel
theorem dX0_searchFrom_189 : decode cX0_searchFrom 189 = .ok (.invokevirtual 60, 3) := by decide +kernel
theorem dX0_searchFrom_192 : decode cX0_searchFrom 192 = .ok (.return_, 1) := by decide +kernel
set_option maxRecDepth 20000 in
theorem ggX0_fittingFrom_X0_isLost : GoodIn wsX0_fittingFrom wsX0_isLost := goodIn_r _ [8, 2, 9, 10, 11, 7, 12, 13, 14, 15, 16, 17, 18, 19, 20, 21, 22, 26, 27, 28, 29, 30, 31, 32, 33, 34, 35, 36, 37, 38, 39] (by decide +kernel) (by decide +kernel)
set_option maxRecDepth 20000 in
theorem gX0_fittingFrom_X0_isLost : GoodIn wsX0_fittingFrom (wsV RX0 71 RX0 yX0_isLost wsX0_isLost) := goodIn_app (goodIn_of _ (by decide +kernel)) ggX0_fittingFrom_X0_isLost
set_option maxRecDepth 20000 in
theorem ggX0_fittingFrom_X0_someBelow : GoodIn wsX0_fittingFrom wsX0_someBelow := goodIn_r _ [20, 21, 22, 14, 15, 16, 26, 27, 28, 29, 30, 31, 32, 33, 34, 35, 36, 37, 38, 39] (by decide +kernel) (by decide +kernel)
set_option maxRecDepth 20000 in
theorem gX0_fittingFrom_X0_someBelow : GoodIn wsX0_fittingFrom (wsV RX0 79 RX0 yX0_someBelow wsX0_someBelow) := goodIn_app (goodIn_of _ (by decide +kernel)) ggX0_fittingFrom_X0_someBelow
set_option maxRecDepth 20000 in
theorem ggX0_fittingFrom_X0_someAbove : GoodIn wsX0_fittingFrom wsX0_someAbove := goodIn_r _ [12, 13, 14, 15, 16, 26, 27, 28, 29, 30, 31, 32, 33, 34, 35, 36, 37, 38, 39] (by decide +kernel) (by decide +kernel)
set_option maxRecDepth 20000 in
theorem gX0_fittingFrom_X0_someAbove : GoodIn wsX0_fittingFrom (wsV RX0 75 RX0 yX0_someAbove wsX0_someAbove) := goodIn_app (goodIn_of _ (by decide +kernel)) ggX0_fittingFrom_X0_someAbove
set_option maxRecDepth 20000 in
theorem ggX0_fittingFrom_X0_fittingFrom : GoodIn wsX0_fittingFrom wsX0_fittingFrom := goodIn_r _ [0, 1, 2, 3, 4, 5, 6, 7, 8, 9, 10, 11, 12, 13, 14, 15, 16, 17, 18, 19, 20, 21, 22, 23, 24, 25, 26, 27, 28, 29, 30, 31, 32, 33, 34, 35, 36, 37, 38, 39] (by decide +kernel) (by decide +kernel)
set_option maxRecDepth 20000 in
theorem gX0_fittingFrom_X0_fittingFrom : GoodIn wsX0_fittingFrom (wsV RX0 64 RX0 yX0_fittingFrom wsX0_fittingFrom) := goodIn_app (goodIn_of _ (by decide +kernel)) ggX0_fittingFrom_X0_fittingFrom
theorem dX0_fittingFrom_0 : decode cX0_fittingFrom 0 = .ok (.iload_n 1, 1) := by decide +kernel
theorem dX0_fittingFrom_1 : decode cX0_fittingFrom 1 = .ok (.aload_n 0, 1) := by decide +kernel
theorem dX0_fittingFrom_2 : decode cX0_fittingFrom 2 = .ok (.getfield 41, 3) := by decide +kernel
theorem dX0_fittingFrom_5 : decode cX0_fittingFrom 5 = .ok (.if_icmp .gt 12, 3) := by decide +kernel
theorem dX0_fittingFrom_8 : decode cX0_fittingFrom 8 = .ok (.aload_n 0, 1) := by decide +kernel
theorem dX0_fittingFrom_9 : decode cX0_fittingFrom 9 = .ok (.iload_n 1, 1) := by decide +kernel
theorem dX0_fittingFrom_10 : decode cX0_fittingFrom 10 = .ok (.lload_n 2, 1) := by decide +kernel
theorem dX0_fittingFrom_11 : decode cX0_fittingFrom 11 = .ok (.invokevirtual 71, 3) := by decide +kernel
theorem dX0_fittingFrom_14 : decode cX0_fittingFrom 14 = .ok (.ifCond .eq 5, 3) := by decide +kernel
theorem dX0_fittingFrom_17 : decode cX0_fittingFrom 17 = .ok (.iconst 0, 1) := by decide +kernel
theorem dX0_fittingFrom_18 : decode cX0_fittingFrom 18 = .ok (.ireturn, 1) := by decide +kernel
theorem dX0_fittingFrom_19 : decode cX0_fittingFrom 19 = .ok (.aload_n 0, 1) := by decide +kernel
theorem dX0_fittingFrom_20 : decode cX0_fittingFrom 20 = .ok (.lload_n 2, 1) := by decide +kernel
theorem dX0_fittingFrom_21 : decode cX0_fittingFrom 21 = .ok (.invokevirtual 79, 3) := by decide +kernel
theorem dX0_fittingFrom_24 : decode cX0_fittingFrom 24 = .ok (.ifCond .ne 27, 3) := by decide +kernel
theorem dX0_fittingFrom_27 : decode cX0_fittingFrom 27 = .ok (.aload_n 0, 1) := by decide +kernel
theorem dX0_fittingFrom_28 : decode cX0_fittingFrom 28 = .ok (.lload_n 2, 1) := by decide +kernel
theorem dX0_fittingFrom_29 : decode cX0_fittingFrom 29 = .ok (.aload_n 0, 1) := by decide +kernel
theorem dX0_fittingFrom_30 : decode cX0_fittingFrom 30 = .ok (.getfield 22, 3) := by decide +kernel
theorem dX0_fittingFrom_33 : decode cX0_fittingFrom 33 = .ok (.iload_n 1, 1) := by decide +kernel
theorem dX0_fittingFrom_34 : decode cX0_fittingFrom 34 = .ok (.laload, 1) := by decide +kernel
theorem dX0_fittingFrom_35 : decode cX0_fittingFrom 35 = .ok (.ladd, 1) := by decide +kernel
theorem dX0_fittingFrom_36 : decode cX0_fittingFrom 36 = .ok (.invokevirtual 75, 3) := by decide +kernel
theorem dX0_fittingFrom_39 : decode cX0_fittingFrom 39 = .ok (.ifCond .ne 12, 3) := by decide +kernel
theorem dX0_fittingFrom_42 : decode cX0_fittingFrom 42 = .ok (.iconst 1, 1) := by decide +kernel
theorem dX0_fittingFrom_43 : decode cX0_fittingFrom 43 = .ok (.aload_n 0, 1) := by decide +kernel
theorem dX0_fittingFrom_44 : decode cX0_fittingFrom 44 = .ok (.getfield 41, 3) := by decide +kernel
theorem dX0_fittingFrom_47 : decode cX0_fittingFrom 47 = .ok (.iload_n 1, 1) := by decide +kernel
theorem dX0_fittingFrom_48 : decode cX0_fittingFrom 48 = .ok (.isub, 1) := by decide +kernel
theorem dX0_fittingFrom_49 : decode cX0_fittingFrom 49 = .ok (.ishl, 1) := by decide +kernel
theorem dX0_fittingFrom_50 : decode cX0_fittingFrom 50 = .ok (.ireturn, 1) := by decide +kernel
theorem dX0_fittingFrom_51 : decode cX0_fittingFrom 51 = .ok (.iload_n 1, 1) := by decide +kernel
theorem dX0_fittingFrom_52 : decode cX0_fittingFrom 52 = .ok (.aload_n 0, 1) := by decide +kernel
theorem dX0_fittingFrom_53 : decode cX0_fittingFrom 53 = .ok (.getfield 41, 3) := by decide +kernel
theorem dX0_fittingFrom_56 : decode cX0_fittingFrom 56 = .ok (.if_icmp .lt 7, 3) := by decide +kernel
theorem dX0_fittingFrom_59 : decode cX0_fittingFrom 59 = .ok (.iconst 0, 1) := by decide +kernel
theorem dX0_fittingFrom_60 : decode cX0_fittingFrom 60 = .ok (.goto 27, 3) := by decide +kernel
theorem dX0_fittingFrom_63 : decode cX0_fittingFrom 63 = .ok (.aload_n 0, 1) := by decide +kernel
theorem dX0_fittingFrom_64 : decode cX0_fittingFrom 64 = .ok (.iload_n 1, 1) := by decide +kernel
theorem dX0_fittingFrom_65 : decode cX0_fittingFrom 65 = .ok (.iconst 1, 1) := by decide +kernel
theorem dX0_fittingFrom_66 : decode cX0_fittingFrom 66 = .ok (.iadd, 1) := by decide +kernel
theorem dX0_fittingFrom_67 : decode cX0_fittingFrom 67 = .ok (.lload_n 2, 1) := by decide +kernel
theorem dX0_fittingFrom_68 : decode cX0_fittingFrom 68 = .ok (.invokevirtual 64, 3) := by decide +kernel
theorem dX0_fittingFrom_71 : decode cX0_fittingFrom 71 = .ok (.aload_n 0, 1) := by decide +kernel
theorem dX0_fittingFrom_72 : decode cX0_fittingFrom 72 = .ok (.iload_n 1, 1) := by decide +kernel
theorem dX0_fittingFrom_73 : decode cX0_fittingFrom 73 = .ok (.iconst 1, 1) := by decide +kernel
theorem dX0_fittingFrom_74 : decode cX0_fittingFrom 74 = .ok (.iadd, 1) := by decide +kernel
theorem dX0_fittingFrom_75 : decode cX0_fittingFrom 75 = .ok (.lload_n 2, 1) := by decide +kernel
theorem dX0_fittingFrom_76 : decode cX0_fittingFrom 76 = .ok (.aload_n 0, 1) := by decide +kernel
theorem dX0_fittingFrom_77 : decode cX0_fittingFrom 77 = .ok (.getfield 15, 3) := by decide +kernel
theorem dX0_fittingFrom_80 : decode cX0_fittingFrom 80 = .ok (.iload_n 1, 1) := by decide +kernel
theorem dX0_fittingFrom_81 : decode cX0_fittingFrom 81 = .ok (.laload, 1) := by decide +kernel
theorem dX0_fittingFrom_82 : decode cX0_fittingFrom 82 = .ok (.ladd, 1) := by decide +kernel
theorem dX0_fittingFrom_83 : decode cX0_fittingFrom 83 = .ok (.invokevirtual 64, 3) := by decide +kernel
theorem dX0_fittingFrom_86 : decode cX0_fittingFrom 86 = .ok (.iadd, 1) := by decide +kernel
theorem dX0_fittingFrom_87 : decode cX0_fittingFrom 87 = .ok (.ireturn, 1) := by decide +kernel
set_option maxRecDepth 20000 in
theorem ggX0_isLost_X0_someAbove : GoodIn wsX0_isLost wsX0_someAbove := goodIn_r _ [6, 7, 8, 9, 10, 17, 18, 19, 20, 21, 22, 23, 24, 25, 26, 27, 28, 29, 30] (by decide +kernel) (by decide +kernel)
set_option maxRecDepth 20000 in
theorem gX0_isLost_X0_someAbove : GoodIn wsX0_isLost (wsV RX0 75 RX0 yX0_someAbove wsX0_someAbove) := goodIn_app (goodIn_of _ (by decide +kernel)) ggX0_isLost_X0_someAbove
set_option maxRecDepth 20000 in
theorem ggX0_isLost_X0_someBelow : GoodIn wsX0_isLost wsX0_someBelow := goodIn_r _ [14, 15, 16, 8, 9, 10, 17, 18, 19, 20, 21, 22, 23, 24, 25, 26, 27, 28, 29, 30] (by decide +kernel) (by decide +kernel)
set_option maxRecDepth 20000 in
theorem gX0_isLost_X0_someBelow : GoodIn wsX0_isLost (wsV RX0 79 RX0 yX0_someBelow wsX0_someBelow) := goodIn_app (goodIn_of _ (by decide +kernel)) ggX0_isLost_X0_someBelow
theorem dX0_isLost_0 : decode cX0_isLost 0 = .ok (.aload_n 0, 1) := by decide +kernel
theorem dX0_isLost_1 : decode cX0_isLost 1 = .ok (.lload_n 2, 1) := by decide +kernel
theorem dX0_isLost_2 : decode cX0_isLost 2 = .ok (.invokevirtual 75, 3) := by decide +kernel
theorem dX0_isLost_5 : decode cX0_isLost 5 = .ok (.ifCond .ne 18, 3) := by decide +kernel
theorem dX0_isLost_8 : decode cX0_isLost 8 = .ok (.aload_n 0, 1) := by decide +kernel
theorem dX0_isLost_9 : decode cX0_isLost 9 = .ok (.lload_n 2, 1) := by decide +kernel
theorem dX0_isLost_10 : decode cX0_isLost 10 = .ok (.aload_n 0, 1) := by decide +kernel
theorem dX0_isLost_11 : decode cX0_isLost 11 = .ok (.getfield 22, 3) := by decide +kernel
theorem dX0_isLost_14 : decode cX0_isLost 14 = .ok (.iload_n 1, 1) := by decide +kernel
theorem dX0_isLost_15 : decode cX0_isLost 15 = .ok (.laload, 1) := by decide +kernel
theorem dX0_isLost_16 : decode cX0_isLost 16 = .ok (.ladd, 1) := by decide +kernel
theorem dX0_isLost_17 : decode cX0_isLost 17 = .ok (.invokevirtual 79, 3) := by decide +kernel
theorem dX0_isLost_20 : decode cX0_isLost 20 = .ok (.ifCond .eq 7, 3) := by decide +kernel
theorem dX0_isLost_23 : decode cX0_isLost 23 = .ok (.iconst 1, 1) := by decide +kernel
theorem dX0_isLost_24 : decode cX0_isLost 24 = .ok (.goto 4, 3) := by decide +kernel
theorem dX0_isLost_27 : decode cX0_isLost 27 = .ok (.iconst 0, 1) := by decide +kernel
theorem dX0_isLost_28 : decode cX0_isLost 28 = .ok (.ireturn, 1) := by decide +kernel
theorem dX0_someAbove_0 : decode cX0_someAbove 0 = .ok (.bipush 127, 2) := by decide +kernel
theorem dX0_someAbove_2 : decode cX0_someAbove 2 = .ok (.aload_n 0, 1) := by decide +kernel
theorem dX0_someAbove_3 : decode cX0_someAbove 3 = .ok (.getfield 38, 3) := by decide +kernel
theorem dX0_someAbove_6 : decode cX0_someAbove 6 = .ok (.isub, 1) := by decide +kernel
theorem dX0_someAbove_7 : decode cX0_someAbove 7 = .ok (.i2l, 1) := by decide +kernel
theorem dX0_someAbove_8 : decode cX0_someAbove 8 = .ok (.ldc2_w 85, 3) := by decide +kernel
theorem dX0_someAbove_11 : decode cX0_someAbove 11 = .ok (.lmul, 1) := by decide +kernel
theorem dX0_someAbove_12 : decode cX0_someAbove 12 = .ok (.lstore_n 3, 1) := by decide +kernel
theorem dX0_someAbove_13 : decode cX0_someAbove 13 = .ok (.lload_n 1, 1) := by decide +kernel
theorem dX0_someAbove_14 : decode cX0_someAbove 14 = .ok (.ldc2_w 87, 3) := by decide +kernel
theorem dX0_someAbove_17 : decode cX0_someAbove 17 = .ok (.land, 1) := by decide +kernel
theorem dX0_someAbove_18 : decode cX0_someAbove 18 = .ok (.lload_n 3, 1) := by decide +kernel
theorem dX0_someAbove_19 : decode cX0_someAbove 19 = .ok (.ladd, 1) := by decide +kernel
theorem dX0_someAbove_20 : decode cX0_someAbove 20 = .ok (.lstore 5, 2) := by decide +kernel
theorem dX0_someAbove_22 : decode cX0_someAbove 22 = .ok (.lload_n 1, 1) := by decide +kernel
theorem dX0_someAbove_23 : decode cX0_someAbove 23 = .ok (.iconst 4, 1) := by decide +kernel
theorem dX0_someAbove_24 : decode cX0_someAbove 24 = .ok (.lushr, 1) := by decide +kernel
theorem dX0_someAbove_25 : decode cX0_someAbove 25 = .ok (.ldc2_w 87, 3) := by decide +kernel
theorem dX0_someAbove_28 : decode cX0_someAbove 28 = .ok (.land, 1) := by decide +kernel
theorem dX0_someAbove_29 : decode cX0_someAbove 29 = .ok (.lload_n 3, 1) := by decide +kernel
theorem dX0_someAbove_30 : decode cX0_someAbove 30 = .ok (.ladd, 1) := by decide +kernel
theorem dX0_someAbove_31 : decode cX0_someAbove 31 = .ok (.lstore 7, 2) := by decide +kernel
theorem dX0_someAbove_33 : decode cX0_someAbove 33 = .ok (.lload 5, 2) := by decide +kernel
theorem dX0_someAbove_35 : decode cX0_someAbove 35 = .ok (.lload 7, 2) := by decide +kernel
theorem dX0_someAbove_37 : decode cX0_someAbove 37 = .ok (.lor, 1) := by decide +kernel
theorem dX0_someAbove_38 : decode cX0_someAbove 38 = .ok (.ldc2_w 89, 3) := by decide +kernel
theorem dX0_someAbove_41 : decode cX0_someAbove 41 = .ok (.land, 1) := by decide +kernel
theorem dX0_someAbove_42 : decode cX0_someAbove 42 = .ok (.lconst 0, 1) := by decide +kernel
theorem dX0_someAbove_43 : decode cX0_someAbove 43 = .ok (.lcmp, 1) := by decide +kernel
theorem dX0_someAbove_44 : decode cX0_someAbove 44 = .ok (.ifCond .eq 7, 3) := by decide +kernel
theorem dX0_someAbove_47 : decode cX0_someAbove 47 = .ok (.iconst 1, 1) := by decide +kernel
theorem dX0_someAbove_48 : decode cX0_someAbove 48 = .ok (.goto 4, 3) := by decide +kernel
theorem dX0_someAbove_51 : decode cX0_someAbove 51 = .ok (.iconst 0, 1) := by decide +kernel
theorem dX0_someAbove_52 : decode cX0_someAbove 52 = .ok (.ireturn, 1) := by decide +kernel
theorem dX0_someBelow_0 : decode cX0_someBelow 0 = .ok (.lload_n 1, 1) := by decide +kernel
theorem dX0_someBelow_1 : decode cX0_someBelow 1 = .ok (.aload_n 0, 1) := by decide +kernel
theorem dX0_someBelow_2 : decode cX0_someBelow 2 = .ok (.getfield 46, 3) := by decide +kernel
theorem dX0_someBelow_5 : decode cX0_someBelow 5 = .ok (.lor, 1) := by decide +kernel
theorem dX0_someBelow_6 : decode cX0_someBelow 6 = .ok (.lstore_n 3, 1) := by decide +kernel
theorem dX0_someBelow_7 : decode cX0_someBelow 7 = .ok (.sipush 128, 3) := by decide +kernel
theorem dX0_someBelow_10 : decode cX0_someBelow 10 = .ok (.aload_n 0, 1) := by decide +kernel
theorem dX0_someBelow_11 : decode cX0_someBelow 11 = .ok (.getfield 34, 3) := by decide +kernel
theorem dX0_someBelow_14 : decode cX0_someBelow 14 = .ok (.isub, 1) := by decide +kernel
theorem dX0_someBelow_15 : decode cX0_someBelow 15 = .ok (.i2l, 1) := by decide +kernel
theorem dX0_someBelow_16 : decode cX0_someBelow 16 = .ok (.ldc2_w 85, 3) := by decide +kernel
theorem dX0_someBelow_19 : decode cX0_someBelow 19 = .ok (.lmul, 1) := by decide +kernel
theorem dX0_someBelow_20 : decode cX0_someBelow 20 = .ok (.lstore 5, 2) := by decide +kernel
theorem dX0_someBelow_22 : decode cX0_someBelow 22 = .ok (.lload_n 3, 1) := by decide +kernel
theorem dX0_someBelow_23 : decode cX0_someBelow 23 = .ok (.ldc2_w 87, 3) := by decide +kernel
theorem dX0_someBelow_26 : decode cX0_someBelow 26 = .ok (.land, 1) := by decide +kernel
theorem dX0_someBelow_27 : decode cX0_someBelow 27 = .ok (.lload 5, 2) := by decide +kernel
theorem dX0_someBelow_29 : decode cX0_someBelow 29 = .ok (.ladd, 1) := by decide +kernel
theorem dX0_someBelow_30 : decode cX0_someBelow 30 = .ok (.lstore 7, 2) := by decide +kernel
theorem dX0_someBelow_32 : decode cX0_someBelow 32 = .ok (.lload_n 3, 1) := by decide +kernel
theorem dX0_someBelow_33 : decode cX0_someBelow 33 = .ok (.iconst 4, 1) := by decide +kernel
theorem dX0_someBelow_34 : decode cX0_someBelow 34 = .ok (.lushr, 1) := by decide +kernel
theorem dX0_someBelow_35 : decode cX0_someBelow 35 = .ok (.ldc2_w 87, 3) := by decide +kernel
theorem dX0_someBelow_38 : decode cX0_someBelow 38 = .ok (.land, 1) := by decide +kernel
theorem dX0_someBelow_39 : decode cX0_someBelow 39 = .ok (.lload 5, 2) := by decide +kernel
theorem dX0_someBelow_41 : decode cX0_someBelow 41 = .ok (.ladd, 1) := by decide +kernel
theorem dX0_someBelow_42 : decode cX0_someBelow 42 = .ok (.lstore 9, 2) := by decide +kernel
theorem dX0_someBelow_44 : decode cX0_someBelow 44 = .ok (.lload 7, 2) := by decide +kernel
theorem dX0_someBelow_46 : decode cX0_someBelow 46 = .ok (.lload 9, 2) := by decide +kernel
theorem dX0_someBelow_48 : decode cX0_someBelow 48 = .ok (.land, 1) := by decide +kernel
theorem dX0_someBelow_49 : decode cX0_someBelow 49 = .ok (.ldc2_w 89, 3) := by decide +kernel
theorem dX0_someBelow_52 : decode cX0_someBelow 52 = .ok (.land, 1) := by decide +kernel
theorem dX0_someBelow_53 : decode cX0_someBelow 53 = .ok (.ldc2_w 89, 3) := by decide +kernel
theorem dX0_someBelow_56 : decode cX0_someBelow 56 = .ok (.lcmp, 1) := by decide +kernel
theorem dX0_someBelow_57 : decode cX0_someBelow 57 = .ok (.ifCond .eq 7, 3) := by decide +kernel
theorem dX0_someBelow_60 : decode cX0_someBelow 60 = .ok (.iconst 1, 1) := by decide +kernel
theorem dX0_someBelow_61 : decode cX0_someBelow 61 = .ok (.goto 4, 3) := by decide +kernel
theorem dX0_someBelow_64 : decode cX0_someBelow 64 = .ok (.iconst 0, 1) := by decide +kernel
theorem dX0_someBelow_65 : decode cX0_someBelow 65 = .ok (.ireturn, 1) := by decide +kernel
theorem dX1_init_0 : decode cX1_init 0 = .ok (.aload_n 0, 1) := by decide +kernel
theorem dX1_init_1 : decode cX1_init 1 = .ok (.invokespecial 3, 3) := by decide +kernel
theorem dX1_init_4 : decode cX1_init 4 = .ok (.aload_n 0, 1) := by decide +kernel
theorem dX1_init_5 : decode cX1_init 5 = .ok (.bipush 14, 2) := by decide +kernel
theorem dX1_init_7 : decode cX1_init 7 = .ok (.newarray .int, 2) := by decide +kernel
theorem dX1_init_9 : decode cX1_init 9 = .ok (.putfield 9, 3) := by decide +kernel
theorem dX1_init_12 : decode cX1_init 12 = .ok (.aload_n 0, 1) := by decide +kernel
theorem dX1_init_13 : decode cX1_init 13 = .ok (.bipush 14, 2) := by decide +kernel
theorem dX1_init_15 : decode cX1_init 15 = .ok (.newarray .int, 2) := by decide +kernel
theorem dX1_init_17 : decode cX1_init 17 = .ok (.putfield 15, 3) := by decide +kernel
theorem dX1_init_20 : decode cX1_init 20 = .ok (.aload_n 0, 1) := by decide +kernel
theorem dX1_init_21 : decode cX1_init 21 = .ok (.iconst 1, 1) := by decide +kernel
theorem dX1_init_22 : decode cX1_init 22 = .ok (.newarray .int, 2) := by decide +kernel
theorem dX1_init_24 : decode cX1_init 24 = .ok (.dup, 1) := by decide +kernel
theorem dX1_init_25 : decode cX1_init 25 = .ok (.iconst 0, 1) := by decide +kernel
theorem dX1_init_26 : decode cX1_init 26 = .ok (.bipush 12, 2) := by decide +kernel
theorem dX1_init_28 : decode cX1_init 28 = .ok (.iastore, 1) := by decide +kernel
theorem dX1_init_29 : decode cX1_init 29 = .ok (.putfield 18, 3) := by decide +kernel
theorem dX1_init_32 : decode cX1_init 32 = .ok (.return_, 1) := by decide +kernel
theorem dX1_hearOf_0 : decode cX1_hearOf 0 = .ok (.aload_n 0, 1) := by decide +kernel
theorem dX1_hearOf_1 : decode cX1_hearOf 1 = .ok (.getfield 21, 3) := by decide +kernel
theorem dX1_hearOf_4 : decode cX1_hearOf 4 = .ok (.bipush 14, 2) := by decide +kernel
theorem dX1_hearOf_6 : decode cX1_hearOf 6 = .ok (.if_icmp .ge 23, 3) := by decide +kernel
theorem dX1_hearOf_9 : decode cX1_hearOf 9 = .ok (.aload_n 0, 1) := by decide +kernel
theorem dX1_hearOf_10 : decode cX1_hearOf 10 = .ok (.getfield 9, 3) := by decide +kernel
theorem dX1_hearOf_13 : decode cX1_hearOf 13 = .ok (.aload_n 0, 1) := by decide +kernel
theorem dX1_hearOf_14 : decode cX1_hearOf 14 = .ok (.getfield 21, 3) := by decide +kernel
theorem dX1_hearOf_17 : decode cX1_hearOf 17 = .ok (.iload_n 1, 1) := by decide +kernel
theorem dX1_hearOf_18 : decode cX1_hearOf 18 = .ok (.iastore, 1) := by decide +kernel
theorem dX1_hearOf_19 : decode cX1_hearOf 19 = .ok (.aload_n 0, 1) := by decide +kernel
theorem dX1_hearOf_20 : decode cX1_hearOf 20 = .ok (.dup, 1) := by decide +kernel
theorem dX1_hearOf_21 : decode cX1_hearOf 21 = .ok (.getfield 21, 3) := by decide +kernel
theorem dX1_hearOf_24 : decode cX1_hearOf 24 = .ok (.iconst 1, 1) := by decide +kernel
theorem dX1_hearOf_25 : decode cX1_hearOf 25 = .ok (.iadd, 1) := by decide +kernel
theorem dX1_hearOf_26 : decode cX1_hearOf 26 = .ok (.putfield 21, 3) := by decide +kernel
theorem dX1_hearOf_29 : decode cX1_hearOf 29 = .ok (.return_, 1) := by decide +kernel
theorem dX1_clear_0 : decode cX1_clear 0 = .ok (.aload_n 0, 1) := by decide +kernel
theorem dX1_clear_1 : decode cX1_clear 1 = .ok (.iconst 0, 1) := by decide +kernel
theorem dX1_clear_2 : decode cX1_clear 2 = .ok (.putfield 25, 3) := by decide +kernel
theorem dX1_clear_5 : decode cX1_clear 5 = .ok (.return_, 1) := by decide +kernel
theorem dX1_has_0 : decode cX1_has 0 = .ok (.iload_n 1, 1) := by decide +kernel
theorem dX1_has_1 : decode cX1_has 1 = .ok (.ifCond .lt 15, 3) := by decide +kernel
theorem dX1_has_4 : decode cX1_has 4 = .ok (.iload_n 1, 1) := by decide +kernel
theorem dX1_has_5 : decode cX1_has 5 = .ok (.aload_n 0, 1) := by decide +kernel
theorem dX1_has_6 : decode cX1_has 6 = .ok (.getfield 25, 3) := by decide +kernel
theorem dX1_has_9 : decode cX1_has 9 = .ok (.if_icmp .ge 7, 3) := by decide +kernel
theorem dX1_has_12 : decode cX1_has 12 = .ok (.iconst 1, 1) := by decide +kernel
theorem dX1_has_13 : decode cX1_has 13 = .ok (.goto 4, 3) := by decide +kernel
theorem dX1_has_16 : decode cX1_has 16 = .ok (.iconst 0, 1) := by decide +kernel
theorem dX1_has_17 : decode cX1_has 17 = .ok (.ireturn, 1) := by decide +kernel
theorem dX1_pageOf_0 : decode cX1_pageOf 0 = .ok (.iconst 0, 1) := by decide +kernel
theorem dX1_pageOf_1 : decode cX1_pageOf 1 = .ok (.istore_n 2, 1) := by decide +kernel
theorem dX1_pageOf_2 : decode cX1_pageOf 2 = .ok (.iload_n 2, 1) := by decide +kernel
theorem dX1_pageOf_3 : decode cX1_pageOf 3 = .ok (.aload_n 0, 1) := by decide +kernel
theorem dX1_pageOf_4 : decode cX1_pageOf 4 = .ok (.getfield 25, 3) := by decide +kernel
theorem dX1_pageOf_7 : decode cX1_pageOf 7 = .ok (.if_icmp .ge 24, 3) := by decide +kernel
theorem dX1_pageOf_10 : decode cX1_pageOf 10 = .ok (.aload_n 0, 1) := by decide +kernel
theorem dX1_pageOf_11 : decode cX1_pageOf 11 = .ok (.getfield 15, 3) := by decide +kernel
theorem dX1_pageOf_14 : decode cX1_pageOf 14 = .ok (.iload_n 2, 1) := by decide +kernel
theorem dX1_pageOf_15 : decode cX1_pageOf 15 = .ok (.iaload, 1) := by decide +kernel
theorem dX1_pageOf_16 : decode cX1_pageOf 16 = .ok (.iload_n 1, 1) := by decide +kernel
theorem dX1_pageOf_17 : decode cX1_pageOf 17 = .ok (.ishr, 1) := by decide +kernel
theorem dX1_pageOf_18 : decode cX1_pageOf 18 = .ok (.iconst 1, 1) := by decide +kernel
theorem dX1_pageOf_19 : decode cX1_pageOf 19 = .ok (.iand, 1) := by decide +kernel
theorem dX1_pageOf_20 : decode cX1_pageOf 20 = .ok (.ifCond .eq 5, 3) := by decide +kernel
theorem dX1_pageOf_23 : decode cX1_pageOf 23 = .ok (.iload_n 2, 1) := by decide +kernel
theorem dX1_pageOf_24 : decode cX1_pageOf 24 = .ok (.ireturn, 1) := by decide +kernel
theorem dX1_pageOf_25 : decode cX1_pageOf 25 = .ok (.iinc 2 1, 3) := by decide +kernel
theorem dX1_pageOf_28 : decode cX1_pageOf 28 = .ok (.goto (-26), 3) := by decide +kernel
theorem dX1_pageOf_31 : decode cX1_pageOf 31 = .ok (.iconst (-1), 1) := by decide +kernel
theorem dX1_pageOf_32 : decode cX1_pageOf 32 = .ok (.ireturn, 1) := by decide +kernel
theorem dX1_pointsOf_0 : decode cX1_pointsOf 0 = .ok (.iconst 0, 1) := by decide +kernel
theorem dX1_pointsOf_1 : decode cX1_pointsOf 1 = .ok (.istore_n 2, 1) := by decide +kernel
theorem dX1_pointsOf_2 : decode cX1_pointsOf 2 = .ok (.iconst 0, 1) := by decide +kernel
theorem dX1_pointsOf_3 : decode cX1_pointsOf 3 = .ok (.istore_n 3, 1) := by decide +kernel
theorem dX1_pointsOf_4 : decode cX1_pointsOf 4 = .ok (.iload_n 3, 1) := by decide +kernel
theorem dX1_pointsOf_5 : decode cX1_pointsOf 5 = .ok (.aload_n 0, 1) := by decide +kernel
theorem dX1_pointsOf_6 : decode cX1_pointsOf 6 = .ok (.getfield 21, 3) := by decide +kernel
theorem dX1_pointsOf_9 : decode cX1_pointsOf 9 = .ok (.if_icmp .ge 26, 3) := by decide +kernel
theorem dX1_pointsOf_12 : decode cX1_pointsOf 12 = .ok (.iload_n 1, 1) := by decide +kernel
theorem dX1_pointsOf_13 : decode cX1_pointsOf 13 = .ok (.iload_n 3, 1) := by decide +kernel
theorem dX1_pointsOf_14 : decode cX1_pointsOf 14 = .ok (.ishr, 1) := by decide +kernel
theorem dX1_pointsOf_15 : decode cX1_pointsOf 15 = .ok (.iconst 1, 1) := by decide +kernel
theorem dX1_pointsOf_16 : decode cX1_pointsOf 16 = .ok (.iand, 1) := by decide +kernel
theorem dX1_pointsOf_17 : decode cX1_pointsOf 17 = .ok (.ifCond .eq 12, 3) := by decide +kernel
theorem dX1_pointsOf_20 : decode cX1_pointsOf 20 = .ok (.iload_n 2, 1) := by decide +kernel
theorem dX1_pointsOf_21 : decode cX1_pointsOf 21 = .ok (.aload_n 0, 1) := by decide +kernel
theorem dX1_pointsOf_22 : decode cX1_pointsOf 22 = .ok (.getfield 9, 3) := by decide +kernel
theorem dX1_pointsOf_25 : decode cX1_pointsOf 25 = .ok (.iload_n 3, 1) := by decide +kernel
theorem dX1_pointsOf_26 : decode cX1_pointsOf 26 = .ok (.iaload, 1) := by decide +kernel
theorem dX1_pointsOf_27 : decode cX1_pointsOf 27 = .ok (.iadd, 1) := by decide +kernel
theorem dX1_pointsOf_28 : decode cX1_pointsOf 28 = .ok (.istore_n 2, 1) := by decide +kernel
theorem dX1_pointsOf_29 : decode cX1_pointsOf 29 = .ok (.iinc 3 1, 3) := by decide +kernel
theorem dX1_pointsOf_32 : decode cX1_pointsOf 32 = .ok (.goto (-28), 3) := by decide +kernel
theorem dX1_pointsOf_35 : decode cX1_pointsOf 35 = .ok (.iload_n 2, 1) := by decide +kernel
theorem dX1_pointsOf_36 : decode cX1_pointsOf 36 = .ok (.ireturn, 1) := by decide +kernel
set_option maxRecDepth 20000 in
theorem ggX1_pagesFor_X1_learnSetsWith : GoodIn wsX1_pagesFor wsX1_learnSetsWith := goodIn_r _ [8, 3, 9, 10, 11, 12, 13, 1, 14, 15, 16, 17, 18, 19, 20, 21, 22, 23, 24, 25, 26, 27, 28, 29, 30, 31, 7, 32, 33, 34, 35, 36, 37, 38, 39, 40, 41, 42] (by decide +kernel) (by decide +kernel)
set_option maxRecDepth 20000 in
theorem gX1_pagesFor_X1_learnSetsWith : GoodIn wsX1_pagesFor (wsV RX1 31 RX1 yX1_learnSetsWith wsX1_learnSetsWith) := goodIn_app (goodIn_of _ (by decide +kernel)) ggX1_pagesFor_X1_learnSetsWith
theorem dX1_pagesFor_0 : decode cX1_pagesFor 0 = .ok (.aload_n 0, 1) := by decide +kernel
theorem dX1_pagesFor_1 : decode cX1_pagesFor 1 = .ok (.getfield 28, 3) := by decide +kernel
theorem dX1_pagesFor_4 : decode cX1_pagesFor 4 = .ok (.istore_n 2, 1) := by decide +kernel
theorem dX1_pagesFor_5 : decode cX1_pagesFor 5 = .ok (.iload_n 2, 1) := by decide +kernel
theorem dX1_pagesFor_6 : decode cX1_pagesFor 6 = .ok (.aload_n 0, 1) := by decide +kernel
theorem dX1_pagesFor_7 : decode cX1_pagesFor 7 = .ok (.getfield 21, 3) := by decide +kernel
theorem dX1_pagesFor_10 : decode cX1_pagesFor 10 = .ok (.if_icmp .ge 20, 3) := by decide +kernel
theorem dX1_pagesFor_13 : decode cX1_pagesFor 13 = .ok (.iload_n 1, 1) := by decide +kernel
theorem dX1_pagesFor_14 : decode cX1_pagesFor 14 = .ok (.iload_n 2, 1) := by decide +kernel
theorem dX1_pagesFor_15 : decode cX1_pagesFor 15 = .ok (.ishr, 1) := by decide +kernel
theorem dX1_pagesFor_16 : decode cX1_pagesFor 16 = .ok (.ifCond .le 14, 3) := by decide +kernel
theorem dX1_pagesFor_19 : decode cX1_pagesFor 19 = .ok (.aload_n 0, 1) := by decide +kernel
theorem dX1_pagesFor_20 : decode cX1_pagesFor 20 = .ok (.iload_n 2, 1) := by decide +kernel
theorem dX1_pagesFor_21 : decode cX1_pagesFor 21 = .ok (.invokevirtual 31, 3) := by decide +kernel
theorem dX1_pagesFor_24 : decode cX1_pagesFor 24 = .ok (.iinc 2 1, 3) := by decide +kernel
theorem dX1_pagesFor_27 : decode cX1_pagesFor 27 = .ok (.goto (-22), 3) := by decide +kernel
theorem dX1_pagesFor_30 : decode cX1_pagesFor 30 = .ok (.iload_n 1, 1) := by decide +kernel
theorem dX1_pagesFor_31 : decode cX1_pagesFor 31 = .ok (.ifCond .lt 23, 3) := by decide +kernel
theorem dX1_pagesFor_34 : decode cX1_pagesFor 34 = .ok (.iload_n 1, 1) := by decide +kernel
theorem dX1_pagesFor_35 : decode cX1_pagesFor 35 = .ok (.aload_n 0, 1) := by decide +kernel
theorem dX1_pagesFor_36 : decode cX1_pagesFor 36 = .ok (.getfield 18, 3) := by decide +kernel
theorem dX1_pagesFor_39 : decode cX1_pagesFor 39 = .ok (.arraylength, 1) := by decide +kernel
theorem dX1_pagesFor_40 : decode cX1_pagesFor 40 = .ok (.if_icmp .ge 14, 3) := by decide +kernel
theorem dX1_pagesFor_43 : decode cX1_pagesFor 43 = .ok (.aload_n 0, 1) := by decide +kernel
theorem dX1_pagesFor_44 : decode cX1_pagesFor 44 = .ok (.getfield 18, 3) := by decide +kernel
theorem dX1_pagesFor_47 : decode cX1_pagesFor 47 = .ok (.iload_n 1, 1) := by decide +kernel
theorem dX1_pagesFor_48 : decode cX1_pagesFor 48 = .ok (.iaload, 1) := by decide +kernel
theorem dX1_pagesFor_49 : decode cX1_pagesFor 49 = .ok (.iconst 4, 1) := by decide +kernel
theorem dX1_pagesFor_50 : decode cX1_pagesFor 50 = .ok (.ishr, 1) := by decide +kernel
theorem dX1_pagesFor_51 : decode cX1_pagesFor 51 = .ok (.goto 4, 3) := by decide +kernel
theorem dX1_pagesFor_54 : decode cX1_pagesFor 54 = .ok (.iconst (-1), 1) := by decide +kernel
theorem dX1_pagesFor_55 : decode cX1_pagesFor 55 = .ok (.ireturn, 1) := by decide +kernel
set_option maxRecDepth 20000 in
theorem ggX1_learnSetsWith_J7_copyOf_59c91 : GoodIn wsX1_learnSetsWith wsJ7_copyOf_59c91 := goodIn_r _ [11, 12, 13, 14, 15, 16, 17, 18, 19, 4, 5, 6, 20, 21, 22, 23] (by decide +kernel) (by decide +kernel)
set_option maxRecDepth 20000 in
theorem gX1_learnSetsWith_J7_copyOf_59c91 : GoodIn wsX1_learnSetsWith (va_wsS RX1 35 yJ7_copyOf_59c91 wsJ7_copyOf_59c91) := goodIn_app (goodIn_of _ (by decide +kernel)) ggX1_learnSetsWith_J7_copyOf_59c91
set_option maxRecDepth 20000 in
theorem ggX1_learnSetsWith_X1_withOneMore : GoodIn wsX1_learnSetsWith wsX1_withOneMore := goodIn_r _ [27] (by decide +kernel) (by decide +kernel)
set_option maxRecDepth 20000 in
theorem gX1_learnSetsWith_X1_withOneMore : GoodIn wsX1_learnSetsWith (va_wsS RX1 41 yX1_withOneMore wsX1_withOneMore) := goodIn_app (goodIn_of _ (by decide +kernel)) ggX1_learnSetsWith_X1_withOneMore
theorem dX1_learnSetsWith_0 : decode cX1_learnSetsWith 0 = .ok (.iconst 1, 1) := by decide +kernel
theorem dX1_learnSetsWith_1 : decode cX1_learnSetsWith 1 = .ok (.iload_n 1, 1) := by decide +kernel
theorem dX1_learnSetsWith_2 : decode cX1_learnSetsWith 2 = .ok (.ishl, 1) := by decide +kernel
theorem dX1_learnSetsWith_3 : decode cX1_learnSetsWith 3 = .ok (.istore_n 2, 1) := by decide +kernel
theorem dX1_learnSetsWith_4 : decode cX1_learnSetsWith 4 = .ok (.aload_n 0, 1) := by decide +kernel
theorem dX1_learnSetsWith_5 : decode cX1_learnSetsWith 5 = .ok (.aload_n 0, 1) := by decide +kernel
theorem dX1_learnSetsWith_6 : decode cX1_learnSetsWith 6 = .ok (.getfield 18, 3) := by decide +kernel
theorem dX1_learnSetsWith_9 : decode cX1_learnSetsWith 9 = .ok (.iload_n 2, 1) := by decide +kernel
theorem dX1_learnSetsWith_10 : decode cX1_learnSetsWith 10 = .ok (.iconst 2, 1) := by decide +kernel
theorem dX1_learnSetsWith_11 : decode cX1_learnSetsWith 11 = .ok (.imul, 1) := by decide +kernel
theorem dX1_learnSetsWith_12 : decode cX1_learnSetsWith 12 = .ok (.invokestatic 35, 3) := by decide +kernel
theorem dX1_learnSetsWith_15 : decode cX1_learnSetsWith 15 = .ok (.putfield 18, 3) := by decide +kernel
theorem dX1_learnSetsWith_18 : decode cX1_learnSetsWith 18 = .ok (.iload_n 2, 1) := by decide +kernel
theorem dX1_learnSetsWith_19 : decode cX1_learnSetsWith 19 = .ok (.istore_n 3, 1) := by decide +kernel
theorem dX1_learnSetsWith_20 : decode cX1_learnSetsWith 20 = .ok (.iload_n 3, 1) := by decide +kernel
theorem dX1_learnSetsWith_21 : decode cX1_learnSetsWith 21 = .ok (.aload_n 0, 1) := by decide +kernel
theorem dX1_learnSetsWith_22 : decode cX1_learnSetsWith 22 = .ok (.getfield 18, 3) := by decide +kernel
theorem dX1_learnSetsWith_25 : decode cX1_learnSetsWith 25 = .ok (.arraylength, 1) := by decide +kernel
theorem dX1_learnSetsWith_26 : decode cX1_learnSetsWith 26 = .ok (.if_icmp .ge 74, 3) := by decide +kernel
theorem dX1_learnSetsWith_29 : decode cX1_learnSetsWith 29 = .ok (.sipush 1000, 3) := by decide +kernel
theorem dX1_learnSetsWith_32 : decode cX1_learnSetsWith 32 = .ok (.istore 4, 2) := by decide +kernel
theorem dX1_learnSetsWith_34 : decode cX1_learnSetsWith 34 = .ok (.iconst 0, 1) := by decide +kernel
theorem dX1_learnSetsWith_35 : decode cX1_learnSetsWith 35 = .ok (.istore 5, 2) := by decide +kernel
theorem dX1_learnSetsWith_37 : decode cX1_learnSetsWith 37 = .ok (.iload 5, 2) := by decide +kernel
theorem dX1_learnSetsWith_39 : decode cX1_learnSetsWith 39 = .ok (.iload_n 1, 1) := by decide +kernel
theorem dX1_learnSetsWith_40 : decode cX1_learnSetsWith 40 = .ok (.if_icmp .gt 46, 3) := by decide +kernel
theorem dX1_learnSetsWith_43 : decode cX1_learnSetsWith 43 = .ok (.iload_n 3, 1) := by decide +kernel
theorem dX1_learnSetsWith_44 : decode cX1_learnSetsWith 44 = .ok (.iload 5, 2) := by decide +kernel
theorem dX1_learnSetsWith_46 : decode cX1_learnSetsWith 46 = .ok (.ishr, 1) := by decide +kernel
theorem dX1_learnSetsWith_47 : decode cX1_learnSetsWith 47 = .ok (.iconst 1, 1) := by decide +kernel
theorem dX1_learnSetsWith_48 : decode cX1_learnSetsWith 48 = .ok (.iand, 1) := by decide +kernel
theorem dX1_learnSetsWith_49 : decode cX1_learnSetsWith 49 = .ok (.ifCond .eq 31, 3) := by decide +kernel
theorem dX1_learnSetsWith_52 : decode cX1_learnSetsWith 52 = .ok (.iload 4, 2) := by decide +kernel
theorem dX1_learnSetsWith_54 : decode cX1_learnSetsWith 54 = .ok (.aload_n 0, 1) := by decide +kernel
theorem dX1_learnSetsWith_55 : decode cX1_learnSetsWith 55 = .ok (.getfield 18, 3) := by decide +kernel
theorem dX1_learnSetsWith_58 : decode cX1_learnSetsWith 58 = .ok (.iload_n 3, 1) := by decide +kernel
theorem dX1_learnSetsWith_59 : decode cX1_learnSetsWith 59 = .ok (.iconst 1, 1) := by decide +kernel
theorem dX1_learnSetsWith_60 : decode cX1_learnSetsWith 60 = .ok (.iload 5, 2) := by decide +kernel
theorem dX1_learnSetsWith_62 : decode cX1_learnSetsWith 62 = .ok (.ishl, 1) := by decide +kernel
theorem dX1_learnSetsWith_63 : decode cX1_learnSetsWith 63 = .ok (.isub, 1) := by decide +kernel
theorem dX1_learnSetsWith_64 : decode cX1_learnSetsWith 64 = .ok (.iaload, 1) := by decide +kernel
theorem dX1_learnSetsWith_65 : decode cX1_learnSetsWith 65 = .ok (.aload_n 0, 1) := by decide +kernel
theorem dX1_learnSetsWith_66 : decode cX1_learnSetsWith 66 = .ok (.getfield 9, 3) := by decide +kernel
theorem dX1_learnSetsWith_69 : decode cX1_learnSetsWith 69 = .ok (.iload 5, 2) := by decide +kernel
theorem dX1_learnSetsWith_71 : decode cX1_learnSetsWith 71 = .ok (.iaload, 1) := by decide +kernel
theorem dX1_learnSetsWith_72 : decode cX1_learnSetsWith 72 = .ok (.invokestatic 41, 3) := by decide +kernel
theorem dX1_learnSetsWith_75 : decode cX1_learnSetsWith 75 = .ok (.invokestatic 45, 3) := by decide +kernel
theorem dX1_learnSetsWith_78 : decode cX1_learnSetsWith 78 = .ok (.istore 4, 2) := by decide +kernel
theorem dX1_learnSetsWith_80 : decode cX1_learnSetsWith 80 = .ok (.iinc 5 1, 3) := by decide +kernel
theorem dX1_learnSetsWith_83 : decode cX1_learnSetsWith 83 = .ok (.goto (-46), 3) := by decide +kernel
theorem dX1_learnSetsWith_86 : decode cX1_learnSetsWith 86 = .ok (.aload_n 0, 1) := by decide +kernel
theorem dX1_learnSetsWith_87 : decode cX1_learnSetsWith 87 = .ok (.getfield 18, 3) := by decide +kernel
theorem dX1_learnSetsWith_90 : decode cX1_learnSetsWith 90 = .ok (.iload_n 3, 1) := by decide +kernel
theorem dX1_learnSetsWith_91 : decode cX1_learnSetsWith 91 = .ok (.iload 4, 2) := by decide +kernel
theorem dX1_learnSetsWith_93 : decode cX1_learnSetsWith 93 = .ok (.iastore, 1) := by decide +kernel
theorem dX1_learnSetsWith_94 : decode cX1_learnSetsWith 94 = .ok (.iinc 3 1, 3) := by decide +kernel
theorem dX1_learnSetsWith_97 : decode cX1_learnSetsWith 97 = .ok (.goto (-77), 3) := by decide +kernel
theorem dX1_learnSetsWith_100 : decode cX1_learnSetsWith 100 = .ok (.aload_n 0, 1) := by decide +kernel
theorem dX1_learnSetsWith_101 : decode cX1_learnSetsWith 101 = .ok (.iload_n 1, 1) := by decide +kernel
theorem dX1_learnSetsWith_102 : decode cX1_learnSetsWith 102 = .ok (.iconst 1, 1) := by decide +kernel
theorem dX1_learnSetsWith_103 : decode cX1_learnSetsWith 103 = .ok (.iadd, 1) := by decide +kernel
theorem dX1_learnSetsWith_104 : decode cX1_learnSetsWith 104 = .ok (.putfield 28, 3) := by decide +kernel
theorem dX1_learnSetsWith_107 : decode cX1_learnSetsWith 107 = .ok (.return_, 1) := by decide +kernel
theorem dX1_withOneMore_0 : decode cX1_withOneMore 0 = .ok (.iload_n 0, 1) := by decide +kernel
theorem dX1_withOneMore_1 : decode cX1_withOneMore 1 = .ok (.bipush 15, 2) := by decide +kernel
theorem dX1_withOneMore_3 : decode cX1_withOneMore 3 = .ok (.iand, 1) := by decide +kernel
theorem dX1_withOneMore_4 : decode cX1_withOneMore 4 = .ok (.iload_n 1, 1) := by decide +kernel
theorem dX1_withOneMore_5 : decode cX1_withOneMore 5 = .ok (.iadd, 1) := by decide +kernel
theorem dX1_withOneMore_6 : decode cX1_withOneMore 6 = .ok (.bipush 12, 2) := by decide +kernel
theorem dX1_withOneMore_8 : decode cX1_withOneMore 8 = .ok (.if_icmp .gt 7, 3) := by decide +kernel
theorem dX1_withOneMore_11 : decode cX1_withOneMore 11 = .ok (.iconst 1, 1) := by decide +kernel
theorem dX1_withOneMore_12 : decode cX1_withOneMore 12 = .ok (.goto 4, 3) := by decide +kernel
theorem dX1_withOneMore_15 : decode cX1_withOneMore 15 = .ok (.iconst 0, 1) := by decide +kernel
theorem dX1_withOneMore_16 : decode cX1_withOneMore 16 = .ok (.istore_n 2, 1) := by decide +kernel
theorem dX1_withOneMore_17 : decode cX1_withOneMore 17 = .ok (.iload_n 2, 1) := by decide +kernel
theorem dX1_withOneMore_18 : decode cX1_withOneMore 18 = .ok (.ifCond .eq 9, 3) := by decide +kernel
theorem dX1_withOneMore_21 : decode cX1_withOneMore 21 = .ok (.iload_n 0, 1) := by decide +kernel
theorem dX1_withOneMore_22 : decode cX1_withOneMore 22 = .ok (.iload_n 1, 1) := by decide +kernel
theorem dX1_withOneMore_23 : decode cX1_withOneMore 23 = .ok (.iadd, 1) := by decide +kernel
theorem dX1_withOneMore_24 : decode cX1_withOneMore 24 = .ok (.goto 12, 3) := by decide +kernel
theorem dX1_withOneMore_27 : decode cX1_withOneMore 27 = .ok (.iload_n 0, 1) := by decide +kernel
theorem dX1_withOneMore_28 : decode cX1_withOneMore 28 = .ok (.bipush (-16), 2) := by decide +kernel
theorem dX1_withOneMore_30 : decode cX1_withOneMore 30 = .ok (.iand, 1) := by decide +kernel
theorem dX1_withOneMore_31 : decode cX1_withOneMore 31 = .ok (.bipush 16, 2) := by decide +kernel
theorem dX1_withOneMore_33 : decode cX1_withOneMore 33 = .ok (.iadd, 1) := by decide +kernel
theorem dX1_withOneMore_34 : decode cX1_withOneMore 34 = .ok (.iload_n 1, 1) := by decide +kernel
theorem dX1_withOneMore_35 : decode cX1_withOneMore 35 = .ok (.iadd, 1) := by decide +kernel
theorem dX1_withOneMore_36 : decode cX1_withOneMore 36 = .ok (.ireturn, 1) := by decide +kernel
set_option maxRecDepth 20000 in
theorem ggX1_layOut_X1_pagesFor : GoodIn wsX1_layOut wsX1_pagesFor := goodIn_r _ [6, 7, 8, 9, 10, 11, 12, 5, 13, 14, 15, 16, 17, 18, 19, 20, 21, 22, 23, 24, 25, 26, 27, 28, 29, 30, 31, 32, 33, 34, 35, 36, 37, 55, 56, 57, 58, 59, 60, 61, 62, 63, 64] (by decide +kernel) (by decide +kernel)
set_option maxRecDepth 20000 in
theorem gX1_layOut_X1_pagesFor : GoodIn wsX1_layOut (wsV RX1 50 RX1 yX1_pagesFor wsX1_pagesFor) := goodIn_app (goodIn_of _ (by decide +kernel)) ggX1_layOut_X1_pagesFor
set_option maxRecDepth 20000 in
theorem ggX1_layOut_X1_layOnto : GoodIn wsX1_layOut wsX1_layOnto := goodIn_r _ [41, 1, 42, 43, 44, 45, 5, 46, 47, 48, 49, 50, 8, 14, 2, 3, 4, 6, 7, 9, 10, 11, 12, 13, 15, 16, 17, 18, 19, 20, 21, 22, 23, 24, 25, 26, 27, 28, 29, 30, 31, 32, 33, 34, 35, 36, 37, 51, 52, 53, 54, 55, 56, 57, 58, 59, 60, 61, 62, 63, 64] (by decide +kernel) (by decide +kernel)
set_option maxRecDepth 20000 in
theorem gX1_layOut_X1_layOnto : GoodIn wsX1_layOut (wsV RX1 54 RX1 yX1_layOnto wsX1_layOnto) := goodIn_app (goodIn_of _ (by decide +kernel)) ggX1_layOut_X1_layOnto
theorem dX1_layOut_0 : decode cX1_layOut 0 = .ok (.aload_n 0, 1) := by decide +kernel
theorem dX1_layOut_1 : decode cX1_layOut 1 = .ok (.iload_n 1, 1) := by decide +kernel
theorem dX1_layOut_2 : decode cX1_layOut 2 = .ok (.invokevirtual 50, 3) := by decide +kernel
theorem dX1_layOut_5 : decode cX1_layOut 5 = .ok (.istore_n 3, 1) := by decide +kernel
theorem dX1_layOut_6 : decode cX1_layOut 6 = .ok (.iload_n 3, 1) := by decide +kernel
theorem dX1_layOut_7 : decode cX1_layOut 7 = .ok (.iload_n 2, 1) := by decide +kernel
theorem dX1_layOut_8 : decode cX1_layOut 8 = .ok (.if_icmp .gt 13, 3) := by decide +kernel
theorem dX1_layOut_11 : decode cX1_layOut 11 = .ok (.iload_n 3, 1) := by decide +kernel
theorem dX1_layOut_12 : decode cX1_layOut 12 = .ok (.bipush 14, 2) := by decide +kernel
theorem dX1_layOut_14 : decode cX1_layOut 14 = .ok (.if_icmp .gt 7, 3) := by decide +kernel
theorem dX1_layOut_17 : decode cX1_layOut 17 = .ok (.iload_n 3, 1) := by decide +kernel
theorem dX1_layOut_18 : decode cX1_layOut 18 = .ok (.ifCond .ge 5, 3) := by decide +kernel
theorem dX1_layOut_21 : decode cX1_layOut 21 = .ok (.iconst (-1), 1) := by decide +kernel
theorem dX1_layOut_22 : decode cX1_layOut 22 = .ok (.ireturn, 1) := by decide +kernel
theorem dX1_layOut_23 : decode cX1_layOut 23 = .ok (.aload_n 0, 1) := by decide +kernel
theorem dX1_layOut_24 : decode cX1_layOut 24 = .ok (.iload_n 3, 1) := by decide +kernel
theorem dX1_layOut_25 : decode cX1_layOut 25 = .ok (.putfield 25, 3) := by decide +kernel
theorem dX1_layOut_28 : decode cX1_layOut 28 = .ok (.aload_n 0, 1) := by decide +kernel
theorem dX1_layOut_29 : decode cX1_layOut 29 = .ok (.iconst 1, 1) := by decide +kernel
theorem dX1_layOut_30 : decode cX1_layOut 30 = .ok (.iload_n 3, 1) := by decide +kernel
theorem dX1_layOut_31 : decode cX1_layOut 31 = .ok (.ishl, 1) := by decide +kernel
theorem dX1_layOut_32 : decode cX1_layOut 32 = .ok (.iconst 1, 1) := by decide +kernel
theorem dX1_layOut_33 : decode cX1_layOut 33 = .ok (.isub, 1) := by decide +kernel
theorem dX1_layOut_34 : decode cX1_layOut 34 = .ok (.iload_n 1, 1) := by decide +kernel
theorem dX1_layOut_35 : decode cX1_layOut 35 = .ok (.invokevirtual 54, 3) := by decide +kernel
theorem dX1_layOut_38 : decode cX1_layOut 38 = .ok (.iload_n 3, 1) := by decide +kernel
theorem dX1_layOut_39 : decode cX1_layOut 39 = .ok (.ireturn, 1) := by decide +kernel
set_option maxRecDepth 20000 in
theorem ggX1_layOnto_X1_nextPage : GoodIn wsX1_layOnto wsX1_nextPage := goodIn_r _ [7, 8, 9, 10, 11, 12, 13, 14, 15, 16, 6, 17, 18, 19, 20, 21, 22, 23, 24, 25, 26, 27, 28, 29, 30, 31, 32, 33, 34, 35, 36, 37, 38, 39, 40, 41, 42, 43, 44, 45, 46, 47, 48, 49, 50, 51, 52, 53, 54, 55, 56, 57, 58, 59, 60] (by decide +kernel) (by decide +kernel)
set_option maxRecDepth 20000 in
theorem gX1_layOnto_X1_nextPage : GoodIn wsX1_layOnto (wsV RX1 58 RX1 yX1_nextPage wsX1_nextPage) := goodIn_app (goodIn_of _ (by decide +kernel)) ggX1_layOnto_X1_nextPage
theorem dX1_layOnto_0 : decode cX1_layOnto 0 = .ok (.iload_n 2, 1) := by decide +kernel
theorem dX1_layOnto_1 : decode cX1_layOnto 1 = .ok (.istore_n 3, 1) := by decide +kernel
theorem dX1_layOnto_2 : decode cX1_layOnto 2 = .ok (.iconst 0, 1) := by decide +kernel
theorem dX1_layOnto_3 : decode cX1_layOnto 3 = .ok (.istore 4, 2) := by decide +kernel
theorem dX1_layOnto_5 : decode cX1_layOnto 5 = .ok (.iload 4, 2) := by decide +kernel
theorem dX1_layOnto_7 : decode cX1_layOnto 7 = .ok (.aload_n 0, 1) := by decide +kernel
theorem dX1_layOnto_8 : decode cX1_layOnto 8 = .ok (.getfield 25, 3) := by decide +kernel
theorem dX1_layOnto_11 : decode cX1_layOnto 11 = .ok (.if_icmp .ge 42, 3) := by decide +kernel
theorem dX1_layOnto_14 : decode cX1_layOnto 14 = .ok (.iload_n 1, 1) := by decide +kernel
theorem dX1_layOnto_15 : decode cX1_layOnto 15 = .ok (.iload 4, 2) := by decide +kernel
theorem dX1_layOnto_17 : decode cX1_layOnto 17 = .ok (.ishr, 1) := by decide +kernel
theorem dX1_layOnto_18 : decode cX1_layOnto 18 = .ok (.iconst 1, 1) := by decide +kernel
theorem dX1_layOnto_19 : decode cX1_layOnto 19 = .ok (.iand, 1) := by decide +kernel
theorem dX1_layOnto_20 : decode cX1_layOnto 20 = .ok (.ifCond .eq 27, 3) := by decide +kernel
theorem dX1_layOnto_23 : decode cX1_layOnto 23 = .ok (.aload_n 0, 1) := by decide +kernel
theorem dX1_layOnto_24 : decode cX1_layOnto 24 = .ok (.getfield 15, 3) := by decide +kernel
theorem dX1_layOnto_27 : decode cX1_layOnto 27 = .ok (.iload 4, 2) := by decide +kernel
theorem dX1_layOnto_29 : decode cX1_layOnto 29 = .ok (.aload_n 0, 1) := by decide +kernel
theorem dX1_layOnto_30 : decode cX1_layOnto 30 = .ok (.iload_n 3, 1) := by decide +kernel
theorem dX1_layOnto_31 : decode cX1_layOnto 31 = .ok (.invokevirtual 58, 3) := by decide +kernel
theorem dX1_layOnto_34 : decode cX1_layOnto 34 = .ok (.iastore, 1) := by decide +kernel
theorem dX1_layOnto_35 : decode cX1_layOnto 35 = .ok (.iload_n 3, 1) := by decide +kernel
theorem dX1_layOnto_36 : decode cX1_layOnto 36 = .ok (.aload_n 0, 1) := by decide +kernel
theorem dX1_layOnto_37 : decode cX1_layOnto 37 = .ok (.getfield 15, 3) := by decide +kernel
theorem dX1_layOnto_40 : decode cX1_layOnto 40 = .ok (.iload 4, 2) := by decide +kernel
theorem dX1_layOnto_42 : decode cX1_layOnto 42 = .ok (.iaload, 1) := by decide +kernel
theorem dX1_layOnto_43 : decode cX1_layOnto 43 = .ok (.iconst (-1), 1) := by decide +kernel
theorem dX1_layOnto_44 : decode cX1_layOnto 44 = .ok (.ixor, 1) := by decide +kernel
theorem dX1_layOnto_45 : decode cX1_layOnto 45 = .ok (.iand, 1) := by decide +kernel
theorem dX1_layOnto_46 : decode cX1_layOnto 46 = .ok (.istore_n 3, 1) := by decide +kernel
theorem dX1_layOnto_47 : decode cX1_layOnto 47 = .ok (.iinc 4 1, 3) := by decide +kernel
theorem dX1_layOnto_50 : decode cX1_layOnto 50 = .ok (.goto (-45), 3) := by decide +kernel
theorem dX1_layOnto_53 : decode cX1_layOnto 53 = .ok (.return_, 1) := by decide +kernel
set_option maxRecDepth 20000 in
theorem ggX1_nextPage_X1_pagesFor : GoodIn wsX1_nextPage wsX1_pagesFor := goodIn_r _ [11, 12, 5, 13, 14, 15, 16, 10, 17, 6, 18, 19, 20, 21, 22, 23, 24, 25, 26, 27, 28, 29, 30, 31, 32, 33, 34, 35, 36, 37, 38, 39, 40, 45, 46, 47, 48, 49, 50, 51, 52, 53, 54] (by decide +kernel) (by decide +kernel)
set_option maxRecDepth 20000 in
theorem gX1_nextPage_X1_pagesFor : GoodIn wsX1_nextPage (wsV RX1 50 RX1 yX1_pagesFor wsX1_pagesFor) := goodIn_app (goodIn_of _ (by decide +kernel)) ggX1_nextPage_X1_pagesFor
set_option maxRecDepth 20000 in
theorem ggX1_nextPage_X1_fillPage : GoodIn wsX1_nextPage wsX1_fillPage := goodIn_r _ [44, 4, 3, 1, 2, 5, 6, 7, 8, 9, 10, 11, 12, 13, 14, 15, 16, 17, 18, 19, 20, 21, 22, 23, 24, 25, 26, 27, 28, 29, 30, 31, 32, 33, 34, 35, 36, 37, 38, 39, 40, 41, 42, 43, 45, 46, 47, 48, 49, 50, 51, 52, 53, 54] (by decide +kernel) (by decide +kernel)
set_option maxRecDepth 20000 in
theorem gX1_nextPage_X1_fillPage : GoodIn wsX1_nextPage (wsV RX1 73 RX1 yX1_fillPage wsX1_fillPage) := goodIn_app (goodIn_of _ (by decide +kernel)) ggX1_nextPage_X1_fillPage
theorem dX1_nextPage_0 : decode cX1_nextPage 0 = .ok (.aload_n 0, 1) := by decide +kernel
theorem dX1_nextPage_1 : decode cX1_nextPage 1 = .ok (.iload_n 1, 1) := by decide +kernel
theorem dX1_nextPage_2 : decode cX1_nextPage 2 = .ok (.putfield 61, 3) := by decide +kernel
theorem dX1_nextPage_5 : decode cX1_nextPage 5 = .ok (.aload_n 0, 1) := by decide +kernel
theorem dX1_nextPage_6 : decode cX1_nextPage 6 = .ok (.aload_n 0, 1) := by decide +kernel
theorem dX1_nextPage_7 : decode cX1_nextPage 7 = .ok (.iload_n 1, 1) := by decide +kernel
theorem dX1_nextPage_8 : decode cX1_nextPage 8 = .ok (.invokevirtual 50, 3) := by decide +kernel
theorem dX1_nextPage_11 : decode cX1_nextPage 11 = .ok (.iconst 1, 1) := by decide +kernel
theorem dX1_nextPage_12 : decode cX1_nextPage 12 = .ok (.isub, 1) := by decide +kernel
theorem dX1_nextPage_13 : decode cX1_nextPage 13 = .ok (.putfield 64, 3) := by decide +kernel
theorem dX1_nextPage_16 : decode cX1_nextPage 16 = .ok (.aload_n 0, 1) := by decide +kernel
theorem dX1_nextPage_17 : decode cX1_nextPage 17 = .ok (.iconst 0, 1) := by decide +kernel
theorem dX1_nextPage_18 : decode cX1_nextPage 18 = .ok (.putfield 67, 3) := by decide +kernel
theorem dX1_nextPage_21 : decode cX1_nextPage 21 = .ok (.aload_n 0, 1) := by decide +kernel
theorem dX1_nextPage_22 : decode cX1_nextPage 22 = .ok (.iconst 0, 1) := by decide +kernel
theorem dX1_nextPage_23 : decode cX1_nextPage 23 = .ok (.putfield 70, 3) := by decide +kernel
theorem dX1_nextPage_26 : decode cX1_nextPage 26 = .ok (.iconst 0, 1) := by decide +kernel
theorem dX1_nextPage_27 : decode cX1_nextPage 27 = .ok (.istore_n 2, 1) := by decide +kernel
theorem dX1_nextPage_28 : decode cX1_nextPage 28 = .ok (.iload_n 2, 1) := by decide +kernel
theorem dX1_nextPage_29 : decode cX1_nextPage 29 = .ok (.aload_n 0, 1) := by decide +kernel
theorem dX1_nextPage_30 : decode cX1_nextPage 30 = .ok (.getfield 21, 3) := by decide +kernel
theorem dX1_nextPage_33 : decode cX1_nextPage 33 = .ok (.if_icmp .ge 38, 3) := by decide +kernel
theorem dX1_nextPage_36 : decode cX1_nextPage 36 = .ok (.iload_n 1, 1) := by decide +kernel
theorem dX1_nextPage_37 : decode cX1_nextPage 37 = .ok (.iload_n 2, 1) := by decide +kernel
theorem dX1_nextPage_38 : decode cX1_nextPage 38 = .ok (.ishr, 1) := by decide +kernel
theorem dX1_nextPage_39 : decode cX1_nextPage 39 = .ok (.iconst 1, 1) := by decide +kernel
theorem dX1_nextPage_40 : decode cX1_nextPage 40 = .ok (.iand, 1) := by decide +kernel
theorem dX1_nextPage_41 : decode cX1_nextPage 41 = .ok (.ifCond .eq 24, 3) := by decide +kernel
theorem dX1_nextPage_44 : decode cX1_nextPage 44 = .ok (.aload_n 0, 1) := by decide +kernel
theorem dX1_nextPage_45 : decode cX1_nextPage 45 = .ok (.iconst 1, 1) := by decide +kernel
theorem dX1_nextPage_46 : decode cX1_nextPage 46 = .ok (.iload_n 2, 1) := by decide +kernel
theorem dX1_nextPage_47 : decode cX1_nextPage 47 = .ok (.ishl, 1) := by decide +kernel
theorem dX1_nextPage_48 : decode cX1_nextPage 48 = .ok (.aload_n 0, 1) := by decide +kernel
theorem dX1_nextPage_49 : decode cX1_nextPage 49 = .ok (.getfield 9, 3) := by decide +kernel
theorem dX1_nextPage_52 : decode cX1_nextPage 52 = .ok (.iload_n 2, 1) := by decide +kernel
theorem dX1_nextPage_53 : decode cX1_nextPage 53 = .ok (.iaload, 1) := by decide +kernel
theorem dX1_nextPage_54 : decode cX1_nextPage 54 = .ok (.iload_n 2, 1) := by decide +kernel
theorem dX1_nextPage_55 : decode cX1_nextPage 55 = .ok (.iconst 1, 1) := by decide +kernel
theorem dX1_nextPage_56 : decode cX1_nextPage 56 = .ok (.iadd, 1) := by decide +kernel
theorem dX1_nextPage_57 : decode cX1_nextPage 57 = .ok (.invokevirtual 73, 3) := by decide +kernel
theorem dX1_nextPage_60 : decode cX1_nextPage 60 = .ok (.aload_n 0, 1) := by decide +kernel
theorem dX1_nextPage_61 : decode cX1_nextPage 61 = .ok (.getfield 67, 3) := by decide +kernel
theorem dX1_nextPage_64 : decode cX1_nextPage 64 = .ok (.ireturn, 1) := by decide +kernel
theorem dX1_nextPage_65 : decode cX1_nextPage 65 = .ok (.iinc 2 1, 3) := by decide +kernel
theorem dX1_nextPage_68 : decode cX1_nextPage 68 = .ok (.goto (-40), 3) := by decide +kernel
theorem dX1_nextPage_71 : decode cX1_nextPage 71 = .ok (.aload_n 0, 1) := by decide +kernel
theorem dX1_nextPage_72 : decode cX1_nextPage 72 = .ok (.getfield 67, 3) := by decide +kernel
theorem dX1_nextPage_75 : decode cX1_nextPage 75 = .ok (.ireturn, 1) := by decide +kernel
set_option maxRecDepth 20000 in
theorem ggX1_fillPage_X1_pagesFor : GoodIn wsX1_fillPage wsX1_pagesFor := goodIn_r _ [11, 12, 5, 13, 14, 15, 16, 10, 17, 6, 18, 19, 20, 21, 22, 23, 24, 25, 26, 27, 28, 29, 30, 31, 32, 33, 34, 35, 36, 37, 38, 39, 40, 44, 45, 46, 47, 48, 49, 50, 51, 52, 53] (by decide +kernel) (by decide +kernel)
set_option maxRecDepth 20000 in
theorem gX1_fillPage_X1_pagesFor : GoodIn wsX1_fillPage (wsV RX1 50 RX1 yX1_pagesFor wsX1_pagesFor) := goodIn_app (goodIn_of _ (by decide +kernel)) ggX1_fillPage_X1_pagesFor
set_option maxRecDepth 20000 in
theorem ggX1_fillPage_X1_fillPage : GoodIn wsX1_fillPage wsX1_fillPage := goodIn_r _ [0, 1, 2, 3, 4, 5, 6, 7, 8, 9, 10, 11, 12, 13, 14, 15, 16, 17, 18, 19, 20, 21, 22, 23, 24, 25, 26, 27, 28, 29, 30, 31, 32, 33, 34, 35, 36, 37, 38, 39, 40, 41, 42, 43, 44, 45, 46, 47, 48, 49, 50, 51, 52, 53] (by decide +kernel) (by decide +kernel)
set_option maxRecDepth 20000 in
theorem gX1_fillPage_X1_fillPage : GoodIn wsX1_fillPage (wsV RX1 73 RX1 yX1_fillPage wsX1_fillPage) := goodIn_app (goodIn_of _ (by decide +kernel)) ggX1_fillPage_X1_fillPage
theorem dX1_fillPage_0 : decode cX1_fillPage 0 = .ok (.iload_n 2, 1) := by decide +kernel
theorem dX1_fillPage_1 : decode cX1_fillPage 1 = .ok (.aload_n 0, 1) := by decide +kernel
theorem dX1_fillPage_2 : decode cX1_fillPage 2 = .ok (.getfield 70, 3) := by decide +kernel
theorem dX1_fillPage_5 : decode cX1_fillPage 5 = .ok (.if_icmp .gt 19, 3) := by decide +kernel
theorem dX1_fillPage_8 : decode cX1_fillPage 8 = .ok (.iload_n 2, 1) := by decide +kernel
theorem dX1_fillPage_9 : decode cX1_fillPage 9 = .ok (.aload_n 0, 1) := by decide +kernel
theorem dX1_fillPage_10 : decode cX1_fillPage 10 = .ok (.getfield 70, 3) := by decide +kernel
theorem dX1_fillPage_13 : decode cX1_fillPage 13 = .ok (.if_icmp .ne 15, 3) := by decide +kernel
theorem dX1_fillPage_16 : decode cX1_fillPage 16 = .ok (.iload_n 1, 1) := by decide +kernel
theorem dX1_fillPage_17 : decode cX1_fillPage 17 = .ok (.aload_n 0, 1) := by decide +kernel
theorem dX1_fillPage_18 : decode cX1_fillPage 18 = .ok (.getfield 67, 3) := by decide +kernel
theorem dX1_fillPage_21 : decode cX1_fillPage 21 = .ok (.if_icmp .ge 7, 3) := by decide +kernel
theorem dX1_fillPage_24 : decode cX1_fillPage 24 = .ok (.iconst 1, 1) := by decide +kernel
theorem dX1_fillPage_25 : decode cX1_fillPage 25 = .ok (.goto 4, 3) := by decide +kernel
theorem dX1_fillPage_28 : decode cX1_fillPage 28 = .ok (.iconst 0, 1) := by decide +kernel
theorem dX1_fillPage_29 : decode cX1_fillPage 29 = .ok (.istore 4, 2) := by decide +kernel
theorem dX1_fillPage_31 : decode cX1_fillPage 31 = .ok (.iload 4, 2) := by decide +kernel
theorem dX1_fillPage_33 : decode cX1_fillPage 33 = .ok (.ifCond .eq 32, 3) := by decide +kernel
theorem dX1_fillPage_36 : decode cX1_fillPage 36 = .ok (.aload_n 0, 1) := by decide +kernel
theorem dX1_fillPage_37 : decode cX1_fillPage 37 = .ok (.aload_n 0, 1) := by decide +kernel
theorem dX1_fillPage_38 : decode cX1_fillPage 38 = .ok (.getfield 61, 3) := by decide +kernel
theorem dX1_fillPage_41 : decode cX1_fillPage 41 = .ok (.iload_n 1, 1) := by decide +kernel
theorem dX1_fillPage_42 : decode cX1_fillPage 42 = .ok (.iconst (-1), 1) := by decide +kernel
theorem dX1_fillPage_43 : decode cX1_fillPage 43 = .ok (.ixor, 1) := by decide +kernel
theorem dX1_fillPage_44 : decode cX1_fillPage 44 = .ok (.iand, 1) := by decide +kernel
theorem dX1_fillPage_45 : decode cX1_fillPage 45 = .ok (.invokevirtual 50, 3) := by decide +kernel
theorem dX1_fillPage_48 : decode cX1_fillPage 48 = .ok (.aload_n 0, 1) := by decide +kernel
theorem dX1_fillPage_49 : decode cX1_fillPage 49 = .ok (.getfield 64, 3) := by decide +kernel
theorem dX1_fillPage_52 : decode cX1_fillPage 52 = .ok (.if_icmp .gt 13, 3) := by decide +kernel
theorem dX1_fillPage_55 : decode cX1_fillPage 55 = .ok (.aload_n 0, 1) := by decide +kernel
theorem dX1_fillPage_56 : decode cX1_fillPage 56 = .ok (.iload_n 1, 1) := by decide +kernel
theorem dX1_fillPage_57 : decode cX1_fillPage 57 = .ok (.putfield 67, 3) := by decide +kernel
theorem dX1_fillPage_60 : decode cX1_fillPage 60 = .ok (.aload_n 0, 1) := by decide +kernel
theorem dX1_fillPage_61 : decode cX1_fillPage 61 = .ok (.iload_n 2, 1) := by decide +kernel
theorem dX1_fillPage_62 : decode cX1_fillPage 62 = .ok (.putfield 70, 3) := by decide +kernel
theorem dX1_fillPage_65 : decode cX1_fillPage 65 = .ok (.iload_n 3, 1) := by decide +kernel
theorem dX1_fillPage_66 : decode cX1_fillPage 66 = .ok (.istore 5, 2) := by decide +kernel
theorem dX1_fillPage_68 : decode cX1_fillPage 68 = .ok (.iload 5, 2) := by decide +kernel
theorem dX1_fillPage_70 : decode cX1_fillPage 70 = .ok (.aload_n 0, 1) := by decide +kernel
theorem dX1_fillPage_71 : decode cX1_fillPage 71 = .ok (.getfield 21, 3) := by decide +kernel
theorem dX1_fillPage_74 : decode cX1_fillPage 74 = .ok (.if_icmp .ge 58, 3) := by decide +kernel
theorem dX1_fillPage_77 : decode cX1_fillPage 77 = .ok (.aload_n 0, 1) := by decide +kernel
theorem dX1_fillPage_78 : decode cX1_fillPage 78 = .ok (.getfield 61, 3) := by decide +kernel
theorem dX1_fillPage_81 : decode cX1_fillPage 81 = .ok (.iload 5, 2) := by decide +kernel
theorem dX1_fillPage_83 : decode cX1_fillPage 83 = .ok (.ishr, 1) := by decide +kernel
theorem dX1_fillPage_84 : decode cX1_fillPage 84 = .ok (.iconst 1, 1) := by decide +kernel
theorem dX1_fillPage_85 : decode cX1_fillPage 85 = .ok (.iand, 1) := by decide +kernel
theorem dX1_fillPage_86 : decode cX1_fillPage 86 = .ok (.ifCond .eq 40, 3) := by decide +kernel
theorem dX1_fillPage_89 : decode cX1_fillPage 89 = .ok (.iload_n 2, 1) := by decide +kernel
theorem dX1_fillPage_90 : decode cX1_fillPage 90 = .ok (.aload_n 0, 1) := by decide +kernel
theorem dX1_fillPage_91 : decode cX1_fillPage 91 = .ok (.getfield 9, 3) := by decide +kernel
theorem dX1_fillPage_94 : decode cX1_fillPage 94 = .ok (.iload 5, 2) := by decide +kernel
theorem dX1_fillPage_96 : decode cX1_fillPage 96 = .ok (.iaload, 1) := by decide +kernel
theorem dX1_fillPage_97 : decode cX1_fillPage 97 = .ok (.iadd, 1) := by decide +kernel
theorem dX1_fillPage_98 : decode cX1_fillPage 98 = .ok (.bipush 12, 2) := by decide +kernel
theorem dX1_fillPage_100 : decode cX1_fillPage 100 = .ok (.if_icmp .gt 26, 3) := by decide +kernel
theorem dX1_fillPage_103 : decode cX1_fillPage 103 = .ok (.aload_n 0, 1) := by decide +kernel
theorem dX1_fillPage_104 : decode cX1_fillPage 104 = .ok (.iload_n 1, 1) := by decide +kernel
theorem dX1_fillPage_105 : decode cX1_fillPage 105 = .ok (.iconst 1, 1) := by decide +kernel
theorem dX1_fillPage_106 : decode cX1_fillPage 106 = .ok (.iload 5, 2) := by decide +kernel
theorem dX1_fillPage_108 : decode cX1_fillPage 108 = .ok (.ishl, 1) := by decide +kernel
theorem dX1_fillPage_109 : decode cX1_fillPage 109 = .ok (.ior, 1) := by decide +kernel
theorem dX1_fillPage_110 : decode cX1_fillPage 110 = .ok (.iload_n 2, 1) := by decide +kernel
theorem dX1_fillPage_111 : decode cX1_fillPage 111 = .ok (.aload_n 0, 1) := by decide +kernel
theorem dX1_fillPage_112 : decode cX1_fillPage 112 = .ok (.getfield 9, 3) := by decide +kernel
theorem dX1_fillPage_115 : decode cX1_fillPage 115 = .ok (.iload 5, 2) := by decide +kernel
theorem dX1_fillPage_117 : decode cX1_fillPage 117 = .ok (.iaload, 1) := by decide +kernel
theorem dX1_fillPage_118 : decode cX1_fillPage 118 = .ok (.iadd, 1) := by decide +kernel
theorem dX1_fillPage_119 : decode cX1_fillPage 119 = .ok (.iload 5, 2) := by decide +kernel
theorem dX1_fillPage_121 : decode cX1_fillPage 121 = .ok (.iconst 1, 1) := by decide +kernel
theorem dX1_fillPage_122 : decode cX1_fillPage 122 = .ok (.iadd, 1) := by decide +kernel
theorem dX1_fillPage_123 : decode cX1_fillPage 123 = .ok (.invokevirtual 73, 3) := by decide +kernel
theorem dX1_fillPage_126 : decode cX1_fillPage 126 = .ok (.iinc 5 1, 3) := by decide +kernel
theorem dX1_fillPage_129 : decode cX1_fillPage 129 = .ok (.goto (-61), 3) := by decide +kernel
theorem dX1_fillPage_132 : decode cX1_fillPage 132 = .ok (.return_, 1) := by decide +kernel
set_option maxRecDepth 20000 in
theorem ggX1_bringIn_X1_pagesToChange : GoodIn wsX1_bringIn wsX1_pagesToChange := goodIn_r _ [7, 1, 2, 8, 9, 10, 6, 11, 12, 13, 14, 15, 16, 17, 18, 19, 20, 21, 22, 23, 24, 25, 26, 27, 28, 29, 30, 31, 32, 33, 34, 35, 36, 37, 38, 39, 40, 41, 42, 43, 44, 45, 46, 47, 48, 49, 50, 74, 75, 76, 77, 78, 79, 80, 81, 82, 83] (by decide +kernel) (by decide +kernel)
set_option maxRecDepth 20000 in
theorem gX1_bringIn_X1_pagesToChange : GoodIn wsX1_bringIn (wsV RX1 77 RX1 yX1_pagesToChange wsX1_pagesToChange) := goodIn_app (goodIn_of _ (by decide +kernel)) ggX1_bringIn_X1_pagesToChange
set_option maxRecDepth 20000 in
theorem ggX1_bringIn_X1_layOnto : GoodIn wsX1_bringIn wsX1_layOnto := goodIn_r _ [54, 1, 2, 55, 56, 57, 6, 58, 59, 60, 61, 62, 12, 13, 18, 19, 20, 21, 22, 23, 24, 25, 26, 27, 28, 29, 30, 31, 32, 33, 34, 35, 36, 37, 38, 39, 40, 41, 42, 43, 44, 45, 46, 47, 48, 49, 50, 63, 64, 65, 66, 74, 75, 76, 77, 78, 79, 80, 81, 82, 83] (by decide +kernel) (by decide +kernel)
set_option maxRecDepth 20000 in
theorem gX1_bringIn_X1_layOnto : GoodIn wsX1_bringIn (wsV RX1 54 RX1 yX1_layOnto wsX1_layOnto) := goodIn_app (goodIn_of _ (by decide +kernel)) ggX1_bringIn_X1_layOnto
set_option maxRecDepth 20000 in
theorem ggX1_bringIn_J6_bitCount_0f7a4 : GoodIn wsX1_bringIn wsJ6_bitCount_0f7a4 := goodIn_r _ [70, 71, 72, 73] (by decide +kernel) (by decide +kernel)
set_option maxRecDepth 20000 in
theorem gX1_bringIn_J6_bitCount_0f7a4 : GoodIn wsX1_bringIn (va_wsS RX1 80 yJ6_bitCount_0f7a4 wsJ6_bitCount_0f7a4) := goodIn_app (goodIn_of _ (by decide +kernel)) ggX1_bringIn_J6_bitCount_0f7a4
theorem dX1_bringIn_0 : decode cX1_bringIn 0 = .ok (.aload_n 0, 1) := by decide +kernel
theorem dX1_bringIn_1 : decode cX1_bringIn 1 = .ok (.iload_n 1, 1) := by decide +kernel
theorem dX1_bringIn_2 : decode cX1_bringIn 2 = .ok (.invokevirtual 77, 3) := by decide +kernel
theorem dX1_bringIn_5 : decode cX1_bringIn 5 = .ok (.istore_n 3, 1) := by decide +kernel
theorem dX1_bringIn_6 : decode cX1_bringIn 6 = .ok (.iload_n 3, 1) := by decide +kernel
theorem dX1_bringIn_7 : decode cX1_bringIn 7 = .ok (.ifCond .ne 46, 3) := by decide +kernel
theorem dX1_bringIn_10 : decode cX1_bringIn 10 = .ok (.aload_n 0, 1) := by decide +kernel
theorem dX1_bringIn_11 : decode cX1_bringIn 11 = .ok (.getfield 25, 3) := by decide +kernel
theorem dX1_bringIn_14 : decode cX1_bringIn 14 = .ok (.iload_n 2, 1) := by decide +kernel
theorem dX1_bringIn_15 : decode cX1_bringIn 15 = .ok (.if_icmp .ge 12, 3) := by decide +kernel
theorem dX1_bringIn_18 : decode cX1_bringIn 18 = .ok (.aload_n 0, 1) := by decide +kernel
theorem dX1_bringIn_19 : decode cX1_bringIn 19 = .ok (.getfield 25, 3) := by decide +kernel
theorem dX1_bringIn_22 : decode cX1_bringIn 22 = .ok (.bipush 14, 2) := by decide +kernel
theorem dX1_bringIn_24 : decode cX1_bringIn 24 = .ok (.if_icmp .lt 5, 3) := by decide +kernel
theorem dX1_bringIn_27 : decode cX1_bringIn 27 = .ok (.iconst (-1), 1) := by decide +kernel
theorem dX1_bringIn_28 : decode cX1_bringIn 28 = .ok (.ireturn, 1) := by decide +kernel
theorem dX1_bringIn_29 : decode cX1_bringIn 29 = .ok (.aload_n 0, 1) := by decide +kernel
theorem dX1_bringIn_30 : decode cX1_bringIn 30 = .ok (.getfield 15, 3) := by decide +kernel
theorem dX1_bringIn_33 : decode cX1_bringIn 33 = .ok (.aload_n 0, 1) := by decide +kernel
theorem dX1_bringIn_34 : decode cX1_bringIn 34 = .ok (.getfield 25, 3) := by decide +kernel
theorem dX1_bringIn_37 : decode cX1_bringIn 37 = .ok (.iconst 1, 1) := by decide +kernel
theorem dX1_bringIn_38 : decode cX1_bringIn 38 = .ok (.iload_n 1, 1) := by decide +kernel
theorem dX1_bringIn_39 : decode cX1_bringIn 39 = .ok (.ishl, 1) := by decide +kernel
theorem dX1_bringIn_40 : decode cX1_bringIn 40 = .ok (.iastore, 1) := by decide +kernel
theorem dX1_bringIn_41 : decode cX1_bringIn 41 = .ok (.aload_n 0, 1) := by decide +kernel
theorem dX1_bringIn_42 : decode cX1_bringIn 42 = .ok (.dup, 1) := by decide +kernel
theorem dX1_bringIn_43 : decode cX1_bringIn 43 = .ok (.getfield 25, 3) := by decide +kernel
theorem dX1_bringIn_46 : decode cX1_bringIn 46 = .ok (.iconst 1, 1) := by decide +kernel
theorem dX1_bringIn_47 : decode cX1_bringIn 47 = .ok (.iadd, 1) := by decide +kernel
theorem dX1_bringIn_48 : decode cX1_bringIn 48 = .ok (.putfield 25, 3) := by decide +kernel
theorem dX1_bringIn_51 : decode cX1_bringIn 51 = .ok (.iconst 1, 1) := by decide +kernel
theorem dX1_bringIn_52 : decode cX1_bringIn 52 = .ok (.ireturn, 1) := by decide +kernel
theorem dX1_bringIn_53 : decode cX1_bringIn 53 = .ok (.iconst 1, 1) := by decide +kernel
theorem dX1_bringIn_54 : decode cX1_bringIn 54 = .ok (.iload_n 1, 1) := by decide +kernel
theorem dX1_bringIn_55 : decode cX1_bringIn 55 = .ok (.ishl, 1) := by decide +kernel
theorem dX1_bringIn_56 : decode cX1_bringIn 56 = .ok (.istore 4, 2) := by decide +kernel
theorem dX1_bringIn_58 : decode cX1_bringIn 58 = .ok (.iconst 0, 1) := by decide +kernel
theorem dX1_bringIn_59 : decode cX1_bringIn 59 = .ok (.istore 5, 2) := by decide +kernel
theorem dX1_bringIn_61 : decode cX1_bringIn 61 = .ok (.iload 5, 2) := by decide +kernel
theorem dX1_bringIn_63 : decode cX1_bringIn 63 = .ok (.aload_n 0, 1) := by decide +kernel
theorem dX1_bringIn_64 : decode cX1_bringIn 64 = .ok (.getfield 25, 3) := by decide +kernel
theorem dX1_bringIn_67 : decode cX1_bringIn 67 = .ok (.if_icmp .ge 30, 3) := by decide +kernel
theorem dX1_bringIn_70 : decode cX1_bringIn 70 = .ok (.iload_n 3, 1) := by decide +kernel
theorem dX1_bringIn_71 : decode cX1_bringIn 71 = .ok (.iload 5, 2) := by decide +kernel
theorem dX1_bringIn_73 : decode cX1_bringIn 73 = .ok (.ishr, 1) := by decide +kernel
theorem dX1_bringIn_74 : decode cX1_bringIn 74 = .ok (.iconst 1, 1) := by decide +kernel
theorem dX1_bringIn_75 : decode cX1_bringIn 75 = .ok (.iand, 1) := by decide +kernel
theorem dX1_bringIn_76 : decode cX1_bringIn 76 = .ok (.ifCond .eq 15, 3) := by decide +kernel
theorem dX1_bringIn_79 : decode cX1_bringIn 79 = .ok (.iload 4, 2) := by decide +kernel
theorem dX1_bringIn_81 : decode cX1_bringIn 81 = .ok (.aload_n 0, 1) := by decide +kernel
theorem dX1_bringIn_82 : decode cX1_bringIn 82 = .ok (.getfield 15, 3) := by decide +kernel
theorem dX1_bringIn_85 : decode cX1_bringIn 85 = .ok (.iload 5, 2) := by decide +kernel
theorem dX1_bringIn_87 : decode cX1_bringIn 87 = .ok (.iaload, 1) := by decide +kernel
theorem dX1_bringIn_88 : decode cX1_bringIn 88 = .ok (.ior, 1) := by decide +kernel
theorem dX1_bringIn_89 : decode cX1_bringIn 89 = .ok (.istore 4, 2) := by decide +kernel
theorem dX1_bringIn_91 : decode cX1_bringIn 91 = .ok (.iinc 5 1, 3) := by decide +kernel
theorem dX1_bringIn_94 : decode cX1_bringIn 94 = .ok (.goto (-33), 3) := by decide +kernel
theorem dX1_bringIn_97 : decode cX1_bringIn 97 = .ok (.aload_n 0, 1) := by decide +kernel
theorem dX1_bringIn_98 : decode cX1_bringIn 98 = .ok (.iload_n 3, 1) := by decide +kernel
theorem dX1_bringIn_99 : decode cX1_bringIn 99 = .ok (.iload 4, 2) := by decide +kernel
theorem dX1_bringIn_101 : decode cX1_bringIn 101 = .ok (.invokevirtual 54, 3) := by decide +kernel
theorem dX1_bringIn_104 : decode cX1_bringIn 104 = .ok (.iload_n 3, 1) := by decide +kernel
theorem dX1_bringIn_105 : decode cX1_bringIn 105 = .ok (.invokestatic 80, 3) := by decide +kernel
theorem dX1_bringIn_108 : decode cX1_bringIn 108 = .ok (.ireturn, 1) := by decide +kernel
set_option maxRecDepth 20000 in
theorem ggX1_pagesToChange_X1_pointsOf : GoodIn wsX1_pagesToChange wsX1_pointsOf := goodIn_r _ [7, 8, 9, 47, 48, 49, 50, 51, 52, 53, 54, 55, 56] (by decide +kernel) (by decide +kernel)
set_option maxRecDepth 20000 in
theorem gX1_pagesToChange_X1_pointsOf : GoodIn wsX1_pagesToChange (wsV RX1 85 RX1 yX1_pointsOf wsX1_pointsOf) := goodIn_app (goodIn_of _ (by decide +kernel)) ggX1_pagesToChange_X1_pointsOf
set_option maxRecDepth 20000 in
theorem ggX1_pagesToChange_X1_leastPages : GoodIn wsX1_pagesToChange wsX1_leastPages := goodIn_r _ [13, 1, 2, 14, 15, 16, 6, 17, 18, 8, 19, 20, 21, 22, 23, 9, 24, 25, 26, 27, 28, 29, 30, 31, 32, 33, 34, 35, 36, 37, 38, 39, 40, 41, 42, 43, 44, 45, 46, 10, 11, 12, 47, 48, 49, 50, 51, 52, 53, 54, 55, 56] (by decide +kernel) (by decide +kernel)
set_option maxRecDepth 20000 in
theorem gX1_pagesToChange_X1_leastPages : GoodIn wsX1_pagesToChange (wsV RX1 88 RX1 yX1_leastPages wsX1_leastPages) := goodIn_app (goodIn_of _ (by decide +kernel)) ggX1_pagesToChange_X1_leastPages
theorem dX1_pagesToChange_0 : decode cX1_pagesToChange 0 = .ok (.iconst 1, 1) := by decide +kernel
theorem dX1_pagesToChange_1 : decode cX1_pagesToChange 1 = .ok (.iload_n 1, 1) := by decide +kernel
theorem dX1_pagesToChange_2 : decode cX1_pagesToChange 2 = .ok (.ishl, 1) := by decide +kernel
theorem dX1_pagesToChange_3 : decode cX1_pagesToChange 3 = .ok (.istore_n 2, 1) := by decide +kernel
theorem dX1_pagesToChange_4 : decode cX1_pagesToChange 4 = .ok (.iconst 0, 1) := by decide +kernel
theorem dX1_pagesToChange_5 : decode cX1_pagesToChange 5 = .ok (.istore_n 3, 1) := by decide +kernel
theorem dX1_pagesToChange_6 : decode cX1_pagesToChange 6 = .ok (.iload_n 3, 1) := by decide +kernel
theorem dX1_pagesToChange_7 : decode cX1_pagesToChange 7 = .ok (.aload_n 0, 1) := by decide +kernel
theorem dX1_pagesToChange_8 : decode cX1_pagesToChange 8 = .ok (.getfield 25, 3) := by decide +kernel
theorem dX1_pagesToChange_11 : decode cX1_pagesToChange 11 = .ok (.if_icmp .ge 18, 3) := by decide +kernel
theorem dX1_pagesToChange_14 : decode cX1_pagesToChange 14 = .ok (.iload_n 2, 1) := by decide +kernel
theorem dX1_pagesToChange_15 : decode cX1_pagesToChange 15 = .ok (.aload_n 0, 1) := by decide +kernel
theorem dX1_pagesToChange_16 : decode cX1_pagesToChange 16 = .ok (.getfield 15, 3) := by decide +kernel
theorem dX1_pagesToChange_19 : decode cX1_pagesToChange 19 = .ok (.iload_n 3, 1) := by decide +kernel
theorem dX1_pagesToChange_20 : decode cX1_pagesToChange 20 = .ok (.iaload, 1) := by decide +kernel
theorem dX1_pagesToChange_21 : decode cX1_pagesToChange 21 = .ok (.ior, 1) := by decide +kernel
theorem dX1_pagesToChange_22 : decode cX1_pagesToChange 22 = .ok (.istore_n 2, 1) := by decide +kernel
theorem dX1_pagesToChange_23 : decode cX1_pagesToChange 23 = .ok (.iinc 3 1, 3) := by decide +kernel
theorem dX1_pagesToChange_26 : decode cX1_pagesToChange 26 = .ok (.goto (-20), 3) := by decide +kernel
theorem dX1_pagesToChange_29 : decode cX1_pagesToChange 29 = .ok (.aload_n 0, 1) := by decide +kernel
theorem dX1_pagesToChange_30 : decode cX1_pagesToChange 30 = .ok (.iload_n 2, 1) := by decide +kernel
theorem dX1_pagesToChange_31 : decode cX1_pagesToChange 31 = .ok (.invokevirtual 85, 3) := by decide +kernel
theorem dX1_pagesToChange_34 : decode cX1_pagesToChange 34 = .ok (.aload_n 0, 1) := by decide +kernel
theorem dX1_pagesToChange_35 : decode cX1_pagesToChange 35 = .ok (.getfield 25, 3) := by decide +kernel
theorem dX1_pagesToChange_38 : decode cX1_pagesToChange 38 = .ok (.bipush 12, 2) := by decide +kernel
theorem dX1_pagesToChange_40 : decode cX1_pagesToChange 40 = .ok (.imul, 1) := by decide +kernel
theorem dX1_pagesToChange_41 : decode cX1_pagesToChange 41 = .ok (.if_icmp .le 5, 3) := by decide +kernel
theorem dX1_pagesToChange_44 : decode cX1_pagesToChange 44 = .ok (.iconst 0, 1) := by decide +kernel
theorem dX1_pagesToChange_45 : decode cX1_pagesToChange 45 = .ok (.ireturn, 1) := by decide +kernel
theorem dX1_pagesToChange_46 : decode cX1_pagesToChange 46 = .ok (.iconst 1, 1) := by decide +kernel
theorem dX1_pagesToChange_47 : decode cX1_pagesToChange 47 = .ok (.istore_n 3, 1) := by decide +kernel
theorem dX1_pagesToChange_48 : decode cX1_pagesToChange 48 = .ok (.iload_n 3, 1) := by decide +kernel
theorem dX1_pagesToChange_49 : decode cX1_pagesToChange 49 = .ok (.aload_n 0, 1) := by decide +kernel
theorem dX1_pagesToChange_50 : decode cX1_pagesToChange 50 = .ok (.getfield 25, 3) := by decide +kernel
theorem dX1_pagesToChange_53 : decode cX1_pagesToChange 53 = .ok (.if_icmp .gt 33, 3) := by decide +kernel
theorem dX1_pagesToChange_56 : decode cX1_pagesToChange 56 = .ok (.aload_n 0, 1) := by decide +kernel
theorem dX1_pagesToChange_57 : decode cX1_pagesToChange 57 = .ok (.iload_n 3, 1) := by decide +kernel
theorem dX1_pagesToChange_58 : decode cX1_pagesToChange 58 = .ok (.aload_n 0, 1) := by decide +kernel
theorem dX1_pagesToChange_59 : decode cX1_pagesToChange 59 = .ok (.getfield 25, 3) := by decide +kernel
theorem dX1_pagesToChange_62 : decode cX1_pagesToChange 62 = .ok (.iconst 1, 1) := by decide +kernel
theorem dX1_pagesToChange_63 : decode cX1_pagesToChange 63 = .ok (.iload_n 1, 1) := by decide +kernel
theorem dX1_pagesToChange_64 : decode cX1_pagesToChange 64 = .ok (.ishl, 1) := by decide +kernel
theorem dX1_pagesToChange_65 : decode cX1_pagesToChange 65 = .ok (.iload_n 3, 1) := by decide +kernel
theorem dX1_pagesToChange_66 : decode cX1_pagesToChange 66 = .ok (.invokevirtual 88, 3) := by decide +kernel
theorem dX1_pagesToChange_69 : decode cX1_pagesToChange 69 = .ok (.istore 4, 2) := by decide +kernel
theorem dX1_pagesToChange_71 : decode cX1_pagesToChange 71 = .ok (.iload 4, 2) := by decide +kernel
theorem dX1_pagesToChange_73 : decode cX1_pagesToChange 73 = .ok (.iconst (-1), 1) := by decide +kernel
theorem dX1_pagesToChange_74 : decode cX1_pagesToChange 74 = .ok (.if_icmp .eq 6, 3) := by decide +kernel
theorem dX1_pagesToChange_77 : decode cX1_pagesToChange 77 = .ok (.iload 4, 2) := by decide +kernel
theorem dX1_pagesToChange_79 : decode cX1_pagesToChange 79 = .ok (.ireturn, 1) := by decide +kernel
theorem dX1_pagesToChange_80 : decode cX1_pagesToChange 80 = .ok (.iinc 3 1, 3) := by decide +kernel
theorem dX1_pagesToChange_83 : decode cX1_pagesToChange 83 = .ok (.goto (-35), 3) := by decide +kernel
theorem dX1_pagesToChange_86 : decode cX1_pagesToChange 86 = .ok (.iconst 0, 1) := by decide +kernel
theorem dX1_pagesToChange_87 : decode cX1_pagesToChange 87 = .ok (.ireturn, 1) := by decide +kernel
set_option maxRecDepth 20000 in
theorem ggX1_leastPages_X1_pagesFor : GoodIn wsX1_leastPages wsX1_pagesFor := goodIn_r _ [7, 8, 9, 10, 11, 12, 13, 6, 14, 15, 16, 17, 18, 19, 20, 21, 22, 23, 24, 25, 26, 27, 28, 29, 30, 31, 32, 33, 34, 35, 36, 37, 38, 42, 43, 44, 45, 46, 47, 48, 49, 50, 51] (by decide +kernel) (by decide +kernel)
set_option maxRecDepth 20000 in
theorem gX1_leastPages_X1_pagesFor : GoodIn wsX1_leastPages (wsV RX1 50 RX1 yX1_pagesFor wsX1_pagesFor) := goodIn_app (goodIn_of _ (by decide +kernel)) ggX1_leastPages_X1_pagesFor
set_option maxRecDepth 20000 in
theorem ggX1_leastPages_X1_leastPages : GoodIn wsX1_leastPages wsX1_leastPages := goodIn_r _ [0, 1, 2, 3, 4, 5, 6, 7, 8, 9, 10, 11, 12, 13, 14, 15, 16, 17, 18, 19, 20, 21, 22, 23, 24, 25, 26, 27, 28, 29, 30, 31, 32, 33, 34, 35, 36, 37, 38, 39, 40, 41, 42, 43, 44, 45, 46, 47, 48, 49, 50, 51] (by decide +kernel) (by decide +kernel)
set_option maxRecDepth 20000 in
theorem gX1_leastPages_X1_leastPages : GoodIn wsX1_leastPages (wsV RX1 88 RX1 yX1_leastPages wsX1_leastPages) := goodIn_app (goodIn_of _ (by decide +kernel)) ggX1_leastPages_X1_leastPages
theorem dX1_leastPages_0 : decode cX1_leastPages 0 = .ok (.iload_n 1, 1) := by decide +kernel
theorem dX1_leastPages_1 : decode cX1_leastPages 1 = .ok (.ifCond .gt 19, 3) := by decide +kernel
theorem dX1_leastPages_4 : decode cX1_leastPages 4 = .ok (.aload_n 0, 1) := by decide +kernel
theorem dX1_leastPages_5 : decode cX1_leastPages 5 = .ok (.iload_n 3, 1) := by decide +kernel
theorem dX1_leastPages_6 : decode cX1_leastPages 6 = .ok (.invokevirtual 50, 3) := by decide +kernel
theorem dX1_leastPages_9 : decode cX1_leastPages 9 = .ok (.iload 4, 2) := by decide +kernel
theorem dX1_leastPages_11 : decode cX1_leastPages 11 = .ok (.if_icmp .gt 7, 3) := by decide +kernel
theorem dX1_leastPages_14 : decode cX1_leastPages 14 = .ok (.iconst 0, 1) := by decide +kernel
theorem dX1_leastPages_15 : decode cX1_leastPages 15 = .ok (.goto 4, 3) := by decide +kernel
theorem dX1_leastPages_18 : decode cX1_leastPages 18 = .ok (.iconst (-1), 1) := by decide +kernel
theorem dX1_leastPages_19 : decode cX1_leastPages 19 = .ok (.ireturn, 1) := by decide +kernel
theorem dX1_leastPages_20 : decode cX1_leastPages 20 = .ok (.iload_n 1, 1) := by decide +kernel
theorem dX1_leastPages_21 : decode cX1_leastPages 21 = .ok (.iconst 1, 1) := by decide +kernel
theorem dX1_leastPages_22 : decode cX1_leastPages 22 = .ok (.isub, 1) := by decide +kernel
theorem dX1_leastPages_23 : decode cX1_leastPages 23 = .ok (.istore 5, 2) := by decide +kernel
theorem dX1_leastPages_25 : decode cX1_leastPages 25 = .ok (.iload 5, 2) := by decide +kernel
theorem dX1_leastPages_27 : decode cX1_leastPages 27 = .ok (.iload_n 2, 1) := by decide +kernel
theorem dX1_leastPages_28 : decode cX1_leastPages 28 = .ok (.if_icmp .ge 54, 3) := by decide +kernel
theorem dX1_leastPages_31 : decode cX1_leastPages 31 = .ok (.iload 5, 2) := by decide +kernel
theorem dX1_leastPages_33 : decode cX1_leastPages 33 = .ok (.aload_n 0, 1) := by decide +kernel
theorem dX1_leastPages_34 : decode cX1_leastPages 34 = .ok (.getfield 25, 3) := by decide +kernel
theorem dX1_leastPages_37 : decode cX1_leastPages 37 = .ok (.if_icmp .ge 45, 3) := by decide +kernel
theorem dX1_leastPages_40 : decode cX1_leastPages 40 = .ok (.aload_n 0, 1) := by decide +kernel
theorem dX1_leastPages_41 : decode cX1_leastPages 41 = .ok (.iload_n 1, 1) := by decide +kernel
theorem dX1_leastPages_42 : decode cX1_leastPages 42 = .ok (.iconst 1, 1) := by decide +kernel
theorem dX1_leastPages_43 : decode cX1_leastPages 43 = .ok (.isub, 1) := by decide +kernel
theorem dX1_leastPages_44 : decode cX1_leastPages 44 = .ok (.iload 5, 2) := by decide +kernel
theorem dX1_leastPages_46 : decode cX1_leastPages 46 = .ok (.iload_n 3, 1) := by decide +kernel
theorem dX1_leastPages_47 : decode cX1_leastPages 47 = .ok (.aload_n 0, 1) := by decide +kernel
theorem dX1_leastPages_48 : decode cX1_leastPages 48 = .ok (.getfield 15, 3) := by decide +kernel
theorem dX1_leastPages_51 : decode cX1_leastPages 51 = .ok (.iload 5, 2) := by decide +kernel
theorem dX1_leastPages_53 : decode cX1_leastPages 53 = .ok (.iaload, 1) := by decide +kernel
theorem dX1_leastPages_54 : decode cX1_leastPages 54 = .ok (.ior, 1) := by decide +kernel
theorem dX1_leastPages_55 : decode cX1_leastPages 55 = .ok (.iload 4, 2) := by decide +kernel
theorem dX1_leastPages_57 : decode cX1_leastPages 57 = .ok (.invokevirtual 88, 3) := by decide +kernel
theorem dX1_leastPages_60 : decode cX1_leastPages 60 = .ok (.istore 6, 2) := by decide +kernel
theorem dX1_leastPages_62 : decode cX1_leastPages 62 = .ok (.iload 6, 2) := by decide +kernel
theorem dX1_leastPages_64 : decode cX1_leastPages 64 = .ok (.iconst (-1), 1) := by decide +kernel
theorem dX1_leastPages_65 : decode cX1_leastPages 65 = .ok (.if_icmp .eq 11, 3) := by decide +kernel
theorem dX1_leastPages_68 : decode cX1_leastPages 68 = .ok (.iload 6, 2) := by decide +kernel
theorem dX1_leastPages_70 : decode cX1_leastPages 70 = .ok (.iconst 1, 1) := by decide +kernel
theorem dX1_leastPages_71 : decode cX1_leastPages 71 = .ok (.iload 5, 2) := by decide +kernel
theorem dX1_leastPages_73 : decode cX1_leastPages 73 = .ok (.ishl, 1) := by decide +kernel
theorem dX1_leastPages_74 : decode cX1_leastPages 74 = .ok (.ior, 1) := by decide +kernel
theorem dX1_leastPages_75 : decode cX1_leastPages 75 = .ok (.ireturn, 1) := by decide +kernel
theorem dX1_leastPages_76 : decode cX1_leastPages 76 = .ok (.iinc 5 1, 3) := by decide +kernel
theorem dX1_leastPages_79 : decode cX1_leastPages 79 = .ok (.goto (-54), 3) := by decide +kernel
theorem dX1_leastPages_82 : decode cX1_leastPages 82 = .ok (.iconst (-1), 1) := by decide +kernel
theorem dX1_leastPages_83 : decode cX1_leastPages 83 = .ok (.ireturn, 1) := by decide +kernel
set_option maxRecDepth 20000 in
theorem ggX1_takeOut_X1_pageOf : GoodIn wsX1_takeOut wsX1_pageOf := goodIn_r _ [7, 1, 2, 8, 9, 10, 11, 12, 13, 14, 15, 16, 17] (by decide +kernel) (by decide +kernel)
set_option maxRecDepth 20000 in
theorem gX1_takeOut_X1_pageOf : GoodIn wsX1_takeOut (wsV RX1 92 RX1 yX1_pageOf wsX1_pageOf) := goodIn_app (goodIn_of _ (by decide +kernel)) ggX1_takeOut_X1_pageOf
theorem dX1_takeOut_0 : decode cX1_takeOut 0 = .ok (.aload_n 0, 1) := by decide +kernel
theorem dX1_takeOut_1 : decode cX1_takeOut 1 = .ok (.iload_n 1, 1) := by decide +kernel
theorem dX1_takeOut_2 : decode cX1_takeOut 2 = .ok (.invokevirtual 92, 3) := by decide +kernel
theorem dX1_takeOut_5 : decode cX1_takeOut 5 = .ok (.istore_n 2, 1) := by decide +kernel
theorem dX1_takeOut_6 : decode cX1_takeOut 6 = .ok (.iload_n 2, 1) := by decide +kernel
theorem dX1_takeOut_7 : decode cX1_takeOut 7 = .ok (.iconst (-1), 1) := by decide +kernel
theorem dX1_takeOut_8 : decode cX1_takeOut 8 = .ok (.if_icmp .eq 11, 3) := by decide +kernel
theorem dX1_takeOut_11 : decode cX1_takeOut 11 = .ok (.iload_n 2, 1) := by decide +kernel
theorem dX1_takeOut_12 : decode cX1_takeOut 12 = .ok (.aload_n 0, 1) := by decide +kernel
theorem dX1_takeOut_13 : decode cX1_takeOut 13 = .ok (.getfield 25, 3) := by decide +kernel
theorem dX1_takeOut_16 : decode cX1_takeOut 16 = .ok (.if_icmp .lt 5, 3) := by decide +kernel
theorem dX1_takeOut_19 : decode cX1_takeOut 19 = .ok (.iconst 0, 1) := by decide +kernel
theorem dX1_takeOut_20 : decode cX1_takeOut 20 = .ok (.ireturn, 1) := by decide +kernel
theorem dX1_takeOut_21 : decode cX1_takeOut 21 = .ok (.aload_n 0, 1) := by decide +kernel
theorem dX1_takeOut_22 : decode cX1_takeOut 22 = .ok (.getfield 15, 3) := by decide +kernel
theorem dX1_takeOut_25 : decode cX1_takeOut 25 = .ok (.iload_n 2, 1) := by decide +kernel
theorem dX1_takeOut_26 : decode cX1_takeOut 26 = .ok (.dup2, 1) := by decide +kernel
theorem dX1_takeOut_27 : decode cX1_takeOut 27 = .ok (.iaload, 1) := by decide +kernel
theorem dX1_takeOut_28 : decode cX1_takeOut 28 = .ok (.iconst 1, 1) := by decide +kernel
theorem dX1_takeOut_29 : decode cX1_takeOut 29 = .ok (.iload_n 1, 1) := by decide +kernel
theorem dX1_takeOut_30 : decode cX1_takeOut 30 = .ok (.ishl, 1) := by decide +kernel
theorem dX1_takeOut_31 : decode cX1_takeOut 31 = .ok (.iconst (-1), 1) := by decide +kernel
theorem dX1_takeOut_32 : decode cX1_takeOut 32 = .ok (.ixor, 1) := by decide +kernel
theorem dX1_takeOut_33 : decode cX1_takeOut 33 = .ok (.iand, 1) := by decide +kernel
theorem dX1_takeOut_34 : decode cX1_takeOut 34 = .ok (.iastore, 1) := by decide +kernel
theorem dX1_takeOut_35 : decode cX1_takeOut 35 = .ok (.iconst 1, 1) := by decide +kernel
theorem dX1_takeOut_36 : decode cX1_takeOut 36 = .ok (.ireturn, 1) := by decide +kernel
theorem dX2_init_0 : decode cX2_init 0 = .ok (.aload_n 0, 1) := by decide +kernel
theorem dX2_init_1 : decode cX2_init 1 = .ok (.invokespecial 3, 3) := by decide +kernel
theorem dX2_init_4 : decode cX2_init 4 = .ok (.aload_n 0, 1) := by decide +kernel
theorem dX2_init_5 : decode cX2_init 5 = .ok (.bipush 8, 2) := by decide +kernel
theorem dX2_init_7 : decode cX2_init 7 = .ok (.newarray .int, 2) := by decide +kernel
theorem dX2_init_9 : decode cX2_init 9 = .ok (.putfield 9, 3) := by decide +kernel
theorem dX2_init_12 : decode cX2_init 12 = .ok (.aload_n 0, 1) := by decide +kernel
theorem dX2_init_13 : decode cX2_init 13 = .ok (.bipush 8, 2) := by decide +kernel
theorem dX2_init_15 : decode cX2_init 15 = .ok (.newarray .int, 2) := by decide +kernel
theorem dX2_init_17 : decode cX2_init 17 = .ok (.putfield 15, 3) := by decide +kernel
theorem dX2_init_20 : decode cX2_init 20 = .ok (.aload_n 0, 1) := by decide +kernel
theorem dX2_init_21 : decode cX2_init 21 = .ok (.bipush 8, 2) := by decide +kernel
theorem dX2_init_23 : decode cX2_init 23 = .ok (.newarray .int, 2) := by decide +kernel
theorem dX2_init_25 : decode cX2_init 25 = .ok (.putfield 18, 3) := by decide +kernel
theorem dX2_init_28 : decode cX2_init 28 = .ok (.aload_n 0, 1) := by decide +kernel
theorem dX2_init_29 : decode cX2_init 29 = .ok (.bipush 8, 2) := by decide +kernel
theorem dX2_init_31 : decode cX2_init 31 = .ok (.newarray .int, 2) := by decide +kernel
theorem dX2_init_33 : decode cX2_init 33 = .ok (.putfield 21, 3) := by decide +kernel
theorem dX2_init_36 : decode cX2_init 36 = .ok (.aload_n 0, 1) := by decide +kernel
theorem dX2_init_37 : decode cX2_init 37 = .ok (.iconst 4, 1) := by decide +kernel
theorem dX2_init_38 : decode cX2_init 38 = .ok (.newarray .int, 2) := by decide +kernel
theorem dX2_init_40 : decode cX2_init 40 = .ok (.putfield 24, 3) := by decide +kernel
theorem dX2_init_43 : decode cX2_init 43 = .ok (.aload_n 0, 1) := by decide +kernel
theorem dX2_init_44 : decode cX2_init 44 = .ok (.iload_n 1, 1) := by decide +kernel
theorem dX2_init_45 : decode cX2_init 45 = .ok (.putfield 27, 3) := by decide +kernel
theorem dX2_init_48 : decode cX2_init 48 = .ok (.aload_n 0, 1) := by decide +kernel
theorem dX2_init_49 : decode cX2_init 49 = .ok (.iload_n 2, 1) := by decide +kernel
theorem dX2_init_50 : decode cX2_init 50 = .ok (.putfield 31, 3) := by decide +kernel
theorem dX2_init_53 : decode cX2_init 53 = .ok (.aload_n 0, 1) := by decide +kernel
theorem dX2_init_54 : decode cX2_init 54 = .ok (.iload_n 3, 1) := by decide +kernel
theorem dX2_init_55 : decode cX2_init 55 = .ok (.putfield 34, 3) := by decide +kernel
theorem dX2_init_58 : decode cX2_init 58 = .ok (.return_, 1) := by decide +kernel
theorem dX2_canHold_0 : decode cX2_canHold 0 = .ok (.iconst 0, 1) := by decide +kernel
theorem dX2_canHold_1 : decode cX2_canHold 1 = .ok (.istore_n 2, 1) := by decide +kernel
theorem dX2_canHold_2 : decode cX2_canHold 2 = .ok (.iload_n 2, 1) := by decide +kernel
theorem dX2_canHold_3 : decode cX2_canHold 3 = .ok (.aload_n 0, 1) := by decide +kernel
theorem dX2_canHold_4 : decode cX2_canHold 4 = .ok (.getfield 37, 3) := by decide +kernel
theorem dX2_canHold_7 : decode cX2_canHold 7 = .ok (.if_icmp .ge 21, 3) := by decide +kernel
theorem dX2_canHold_10 : decode cX2_canHold 10 = .ok (.aload_n 0, 1) := by decide +kernel
theorem dX2_canHold_11 : decode cX2_canHold 11 = .ok (.getfield 9, 3) := by decide +kernel
theorem dX2_canHold_14 : decode cX2_canHold 14 = .ok (.iload_n 2, 1) := by decide +kernel
theorem dX2_canHold_15 : decode cX2_canHold 15 = .ok (.iaload, 1) := by decide +kernel
theorem dX2_canHold_16 : decode cX2_canHold 16 = .ok (.iload_n 1, 1) := by decide +kernel
theorem dX2_canHold_17 : decode cX2_canHold 17 = .ok (.if_icmp .ne 5, 3) := by decide +kernel
theorem dX2_canHold_20 : decode cX2_canHold 20 = .ok (.iconst 0, 1) := by decide +kernel
theorem dX2_canHold_21 : decode cX2_canHold 21 = .ok (.ireturn, 1) := by decide +kernel
theorem dX2_canHold_22 : decode cX2_canHold 22 = .ok (.iinc 2 1, 3) := by decide +kernel
theorem dX2_canHold_25 : decode cX2_canHold 25 = .ok (.goto (-23), 3) := by decide +kernel
theorem dX2_canHold_28 : decode cX2_canHold 28 = .ok (.aload_n 0, 1) := by decide +kernel
theorem dX2_canHold_29 : decode cX2_canHold 29 = .ok (.getfield 37, 3) := by decide +kernel
theorem dX2_canHold_32 : decode cX2_canHold 32 = .ok (.bipush 8, 2) := by decide +kernel
theorem dX2_canHold_34 : decode cX2_canHold 34 = .ok (.if_icmp .ge 7, 3) := by decide +kernel
theorem dX2_canHold_37 : decode cX2_canHold 37 = .ok (.iconst 1, 1) := by decide +kernel
theorem dX2_canHold_38 : decode cX2_canHold 38 = .ok (.goto 4, 3) := by decide +kernel
theorem dX2_canHold_41 : decode cX2_canHold 41 = .ok (.iconst 0, 1) := by decide +kernel
theorem dX2_canHold_42 : decode cX2_canHold 42 = .ok (.ireturn, 1) := by decide +kernel
theorem dX2_add_0 : decode cX2_add 0 = .ok (.aload_n 0, 1) := by decide +kernel
theorem dX2_add_1 : decode cX2_add 1 = .ok (.getfield 37, 3) := by decide +kernel
theorem dX2_add_4 : decode cX2_add 4 = .ok (.bipush 8, 2) := by decide +kernel
theorem dX2_add_6 : decode cX2_add 6 = .ok (.if_icmp .ge 54, 3) := by decide +kernel
theorem dX2_add_9 : decode cX2_add 9 = .ok (.aload_n 0, 1) := by decide +kernel
theorem dX2_add_10 : decode cX2_add 10 = .ok (.getfield 9, 3) := by decide +kernel
theorem dX2_add_13 : decode cX2_add 13 = .ok (.aload_n 0, 1) := by decide +kernel
theorem dX2_add_14 : decode cX2_add 14 = .ok (.getfield 37, 3) := by decide +kernel
theorem dX2_add_17 : decode cX2_add 17 = .ok (.iload_n 1, 1) := by decide +kernel
theorem dX2_add_18 : decode cX2_add 18 = .ok (.iastore, 1) := by decide +kernel
theorem dX2_add_19 : decode cX2_add 19 = .ok (.aload_n 0, 1) := by decide +kernel
theorem dX2_add_20 : decode cX2_add 20 = .ok (.getfield 15, 3) := by decide +kernel
theorem dX2_add_23 : decode cX2_add 23 = .ok (.aload_n 0, 1) := by decide +kernel
theorem dX2_add_24 : decode cX2_add 24 = .ok (.getfield 37, 3) := by decide +kernel
theorem dX2_add_27 : decode cX2_add 27 = .ok (.iload_n 2, 1) := by decide +kernel
theorem dX2_add_28 : decode cX2_add 28 = .ok (.iastore, 1) := by decide +kernel
end
section
theorem dX2_add_29 : decode cX2_add 29 = .ok (.aload_n 0, 1) := by decide +kernel
theorem dX2_add_30 : decode cX2_add 30 = .ok (.getfield 18, 3) := by decide +kernel
theorem dX2_add_33 : decode cX2_add 33 = .ok (.aload_n 0, 1) := by decide +kernel
theorem dX2_add_34 : decode cX2_add 34 = .ok (.getfield 37, 3) := by decide +kernel
theorem dX2_add_37 : decode cX2_add 37 = .ok (.iload_n 3, 1) := by decide +kernel
theorem dX2_add_38 : decode cX2_add 38 = .ok (.iastore, 1) := by decide +kernel
theorem dX2_add_39 : decode cX2_add 39 = .ok (.aload_n 0, 1) := by decide +kernel
theorem dX2_add_40 : decode cX2_add 40 = .ok (.getfield 21, 3) := by decide +kernel
theorem dX2_add_43 : decode cX2_add 43 = .ok (.aload_n 0, 1) := by decide +kernel
theorem dX2_add_44 : decode cX2_add 44 = .ok (.getfield 37, 3) := by decide +kernel
theorem dX2_add_47 : decode cX2_add 47 = .ok (.iload 4, 2) := by decide +kernel
theorem dX2_add_49 : decode cX2_add 49 = .ok (.iastore, 1) := by decide +kernel
theorem dX2_add_50 : decode cX2_add 50 = .ok (.aload_n 0, 1) := by decide +kernel
theorem dX2_add_51 : decode cX2_add 51 = .ok (.dup, 1) := by decide +kernel
theorem dX2_add_52 : decode cX2_add 52 = .ok (.getfield 37, 3) := by decide +kernel
theorem dX2_add_55 : decode cX2_add 55 = .ok (.iconst 1, 1) := by decide +kernel
theorem dX2_add_56 : decode cX2_add 56 = .ok (.iadd, 1) := by decide +kernel
theorem dX2_add_57 : decode cX2_add 57 = .ok (.putfield 37, 3) := by decide +kernel
theorem dX2_add_60 : decode cX2_add 60 = .ok (.return_, 1) := by decide +kernel
set_option maxRecDepth 20000 in
theorem ggX2_look_X2_frame : GoodIn wsX2_look wsX2_frame := goodIn_r _ [10, 11, 2, 1, 12, 13, 14, 15, 16, 17, 18, 19, 20, 21, 26, 27, 28, 29, 30, 31, 32, 33, 34, 35, 36] (by decide +kernel) (by decide +kernel)
set_option maxRecDepth 20000 in
theorem gX2_look_X2_frame : GoodIn wsX2_look (wsV RX2 43 RX2 yX2_frame wsX2_frame) := goodIn_app (goodIn_of _ (by decide +kernel)) ggX2_look_X2_frame
set_option maxRecDepth 20000 in
theorem ggX2_look_X2_anotherTouchesCut : GoodIn wsX2_look wsX2_anotherTouchesCut := goodIn_r _ [25, 2, 1, 12, 13, 11, 18, 26, 27, 28, 29, 30, 31, 32, 33, 34, 35, 36] (by decide +kernel) (by decide +kernel)
set_option maxRecDepth 20000 in
theorem gX2_look_X2_anotherTouchesCut : GoodIn wsX2_look (wsV RX2 46 RX2 yX2_anotherTouchesCut wsX2_anotherTouchesCut) := goodIn_app (goodIn_of _ (by decide +kernel)) ggX2_look_X2_anotherTouchesCut
theorem dX2_look_0 : decode cX2_look 0 = .ok (.aload_n 0, 1) := by decide +kernel
theorem dX2_look_1 : decode cX2_look 1 = .ok (.iconst 0, 1) := by decide +kernel
theorem dX2_look_2 : decode cX2_look 2 = .ok (.putfield 40, 3) := by decide +kernel
theorem dX2_look_5 : decode cX2_look 5 = .ok (.iconst 0, 1) := by decide +kernel
theorem dX2_look_6 : decode cX2_look 6 = .ok (.istore_n 2, 1) := by decide +kernel
theorem dX2_look_7 : decode cX2_look 7 = .ok (.iconst 0, 1) := by decide +kernel
theorem dX2_look_8 : decode cX2_look 8 = .ok (.istore_n 3, 1) := by decide +kernel
theorem dX2_look_9 : decode cX2_look 9 = .ok (.iload_n 3, 1) := by decide +kernel
theorem dX2_look_10 : decode cX2_look 10 = .ok (.aload_n 0, 1) := by decide +kernel
theorem dX2_look_11 : decode cX2_look 11 = .ok (.getfield 37, 3) := by decide +kernel
theorem dX2_look_14 : decode cX2_look 14 = .ok (.if_icmp .ge 62, 3) := by decide +kernel
theorem dX2_look_17 : decode cX2_look 17 = .ok (.aload_n 0, 1) := by decide +kernel
theorem dX2_look_18 : decode cX2_look 18 = .ok (.getfield 9, 3) := by decide +kernel
theorem dX2_look_21 : decode cX2_look 21 = .ok (.iload_n 3, 1) := by decide +kernel
theorem dX2_look_22 : decode cX2_look 22 = .ok (.iaload, 1) := by decide +kernel
theorem dX2_look_23 : decode cX2_look 23 = .ok (.istore 4, 2) := by decide +kernel
theorem dX2_look_25 : decode cX2_look 25 = .ok (.iload 4, 2) := by decide +kernel
theorem dX2_look_27 : decode cX2_look 27 = .ok (.ifCond .lt 43, 3) := by decide +kernel
theorem dX2_look_30 : decode cX2_look 30 = .ok (.iload 4, 2) := by decide +kernel
theorem dX2_look_32 : decode cX2_look 32 = .ok (.aload_n 1, 1) := by decide +kernel
theorem dX2_look_33 : decode cX2_look 33 = .ok (.arraylength, 1) := by decide +kernel
theorem dX2_look_34 : decode cX2_look 34 = .ok (.if_icmp .ge 36, 3) := by decide +kernel
theorem dX2_look_37 : decode cX2_look 37 = .ok (.aload_n 1, 1) := by decide +kernel
theorem dX2_look_38 : decode cX2_look 38 = .ok (.iload 4, 2) := by decide +kernel
theorem dX2_look_40 : decode cX2_look 40 = .ok (.iaload, 1) := by decide +kernel
theorem dX2_look_41 : decode cX2_look 41 = .ok (.aload_n 0, 1) := by decide +kernel
theorem dX2_look_42 : decode cX2_look 42 = .ok (.getfield 27, 3) := by decide +kernel
theorem dX2_look_45 : decode cX2_look 45 = .ok (.ishr, 1) := by decide +kernel
theorem dX2_look_46 : decode cX2_look 46 = .ok (.iconst 1, 1) := by decide +kernel
theorem dX2_look_47 : decode cX2_look 47 = .ok (.iand, 1) := by decide +kernel
theorem dX2_look_48 : decode cX2_look 48 = .ok (.ifCond .eq 22, 3) := by decide +kernel
theorem dX2_look_51 : decode cX2_look 51 = .ok (.aload_n 0, 1) := by decide +kernel
theorem dX2_look_52 : decode cX2_look 52 = .ok (.dup, 1) := by decide +kernel
theorem dX2_look_53 : decode cX2_look 53 = .ok (.getfield 40, 3) := by decide +kernel
theorem dX2_look_56 : decode cX2_look 56 = .ok (.iconst 1, 1) := by decide +kernel
theorem dX2_look_57 : decode cX2_look 57 = .ok (.iload_n 3, 1) := by decide +kernel
theorem dX2_look_58 : decode cX2_look 58 = .ok (.ishl, 1) := by decide +kernel
theorem dX2_look_59 : decode cX2_look 59 = .ok (.ior, 1) := by decide +kernel
theorem dX2_look_60 : decode cX2_look 60 = .ok (.putfield 40, 3) := by decide +kernel
theorem dX2_look_63 : decode cX2_look 63 = .ok (.iload_n 2, 1) := by decide +kernel
theorem dX2_look_64 : decode cX2_look 64 = .ok (.iconst 1, 1) := by decide +kernel
theorem dX2_look_65 : decode cX2_look 65 = .ok (.iload 4, 2) := by decide +kernel
theorem dX2_look_67 : decode cX2_look 67 = .ok (.ishl, 1) := by decide +kernel
theorem dX2_look_68 : decode cX2_look 68 = .ok (.ior, 1) := by decide +kernel
theorem dX2_look_69 : decode cX2_look 69 = .ok (.istore_n 2, 1) := by decide +kernel
theorem dX2_look_70 : decode cX2_look 70 = .ok (.iinc 3 1, 3) := by decide +kernel
theorem dX2_look_73 : decode cX2_look 73 = .ok (.goto (-64), 3) := by decide +kernel
theorem dX2_look_76 : decode cX2_look 76 = .ok (.aload_n 0, 1) := by decide +kernel
theorem dX2_look_77 : decode cX2_look 77 = .ok (.invokevirtual 43, 3) := by decide +kernel
theorem dX2_look_80 : decode cX2_look 80 = .ok (.aload_n 0, 1) := by decide +kernel
theorem dX2_look_81 : decode cX2_look 81 = .ok (.aload_n 0, 1) := by decide +kernel
theorem dX2_look_82 : decode cX2_look 82 = .ok (.invokevirtual 46, 3) := by decide +kernel
theorem dX2_look_85 : decode cX2_look 85 = .ok (.ifCond .eq 7, 3) := by decide +kernel
theorem dX2_look_88 : decode cX2_look 88 = .ok (.iconst 0, 1) := by decide +kernel
theorem dX2_look_89 : decode cX2_look 89 = .ok (.goto 4, 3) := by decide +kernel
theorem dX2_look_92 : decode cX2_look 92 = .ok (.iload_n 2, 1) := by decide +kernel
theorem dX2_look_93 : decode cX2_look 93 = .ok (.putfield 50, 3) := by decide +kernel
theorem dX2_look_96 : decode cX2_look 96 = .ok (.return_, 1) := by decide +kernel
theorem dX2_frame_0 : decode cX2_frame 0 = .ok (.aload_n 0, 1) := by decide +kernel
theorem dX2_frame_1 : decode cX2_frame 1 = .ok (.getfield 24, 3) := by decide +kernel
theorem dX2_frame_4 : decode cX2_frame 4 = .ok (.iconst 0, 1) := by decide +kernel
theorem dX2_frame_5 : decode cX2_frame 5 = .ok (.sipush 1000, 3) := by decide +kernel
theorem dX2_frame_8 : decode cX2_frame 8 = .ok (.iastore, 1) := by decide +kernel
theorem dX2_frame_9 : decode cX2_frame 9 = .ok (.aload_n 0, 1) := by decide +kernel
theorem dX2_frame_10 : decode cX2_frame 10 = .ok (.getfield 24, 3) := by decide +kernel
theorem dX2_frame_13 : decode cX2_frame 13 = .ok (.iconst 1, 1) := by decide +kernel
theorem dX2_frame_14 : decode cX2_frame 14 = .ok (.sipush 1000, 3) := by decide +kernel
theorem dX2_frame_17 : decode cX2_frame 17 = .ok (.iastore, 1) := by decide +kernel
theorem dX2_frame_18 : decode cX2_frame 18 = .ok (.aload_n 0, 1) := by decide +kernel
theorem dX2_frame_19 : decode cX2_frame 19 = .ok (.getfield 24, 3) := by decide +kernel
theorem dX2_frame_22 : decode cX2_frame 22 = .ok (.iconst 2, 1) := by decide +kernel
theorem dX2_frame_23 : decode cX2_frame 23 = .ok (.sipush (-1000), 3) := by decide +kernel
theorem dX2_frame_26 : decode cX2_frame 26 = .ok (.iastore, 1) := by decide +kernel
theorem dX2_frame_27 : decode cX2_frame 27 = .ok (.aload_n 0, 1) := by decide +kernel
theorem dX2_frame_28 : decode cX2_frame 28 = .ok (.getfield 24, 3) := by decide +kernel
theorem dX2_frame_31 : decode cX2_frame 31 = .ok (.iconst 3, 1) := by decide +kernel
theorem dX2_frame_32 : decode cX2_frame 32 = .ok (.sipush (-1000), 3) := by decide +kernel
theorem dX2_frame_35 : decode cX2_frame 35 = .ok (.iastore, 1) := by decide +kernel
theorem dX2_frame_36 : decode cX2_frame 36 = .ok (.iconst 0, 1) := by decide +kernel
theorem dX2_frame_37 : decode cX2_frame 37 = .ok (.istore_n 1, 1) := by decide +kernel
theorem dX2_frame_38 : decode cX2_frame 38 = .ok (.iload_n 1, 1) := by decide +kernel
theorem dX2_frame_39 : decode cX2_frame 39 = .ok (.aload_n 0, 1) := by decide +kernel
theorem dX2_frame_40 : decode cX2_frame 40 = .ok (.getfield 37, 3) := by decide +kernel
theorem dX2_frame_43 : decode cX2_frame 43 = .ok (.if_icmp .ge 132, 3) := by decide +kernel
theorem dX2_frame_46 : decode cX2_frame 46 = .ok (.aload_n 0, 1) := by decide +kernel
theorem dX2_frame_47 : decode cX2_frame 47 = .ok (.getfield 40, 3) := by decide +kernel
theorem dX2_frame_50 : decode cX2_frame 50 = .ok (.iload_n 1, 1) := by decide +kernel
theorem dX2_frame_51 : decode cX2_frame 51 = .ok (.ishr, 1) := by decide +kernel
theorem dX2_frame_52 : decode cX2_frame 52 = .ok (.iconst 1, 1) := by decide +kernel
theorem dX2_frame_53 : decode cX2_frame 53 = .ok (.iand, 1) := by decide +kernel
theorem dX2_frame_54 : decode cX2_frame 54 = .ok (.ifCond .eq 115, 3) := by decide +kernel
theorem dX2_frame_57 : decode cX2_frame 57 = .ok (.aload_n 0, 1) := by decide +kernel
theorem dX2_frame_58 : decode cX2_frame 58 = .ok (.getfield 24, 3) := by decide +kernel
theorem dX2_frame_61 : decode cX2_frame 61 = .ok (.iconst 0, 1) := by decide +kernel
theorem dX2_frame_62 : decode cX2_frame 62 = .ok (.aload_n 0, 1) := by decide +kernel
theorem dX2_frame_63 : decode cX2_frame 63 = .ok (.getfield 24, 3) := by decide +kernel
theorem dX2_frame_66 : decode cX2_frame 66 = .ok (.iconst 0, 1) := by decide +kernel
theorem dX2_frame_67 : decode cX2_frame 67 = .ok (.iaload, 1) := by decide +kernel
theorem dX2_frame_68 : decode cX2_frame 68 = .ok (.aload_n 0, 1) := by decide +kernel
theorem dX2_frame_69 : decode cX2_frame 69 = .ok (.getfield 15, 3) := by decide +kernel
theorem dX2_frame_72 : decode cX2_frame 72 = .ok (.iload_n 1, 1) := by decide +kernel
theorem dX2_frame_73 : decode cX2_frame 73 = .ok (.iaload, 1) := by decide +kernel
theorem dX2_frame_74 : decode cX2_frame 74 = .ok (.aload_n 0, 1) := by decide +kernel
theorem dX2_frame_75 : decode cX2_frame 75 = .ok (.getfield 21, 3) := by decide +kernel
theorem dX2_frame_78 : decode cX2_frame 78 = .ok (.iload_n 1, 1) := by decide +kernel
theorem dX2_frame_79 : decode cX2_frame 79 = .ok (.iaload, 1) := by decide +kernel
theorem dX2_frame_80 : decode cX2_frame 80 = .ok (.isub, 1) := by decide +kernel
theorem dX2_frame_81 : decode cX2_frame 81 = .ok (.invokestatic 53, 3) := by decide +kernel
theorem dX2_frame_84 : decode cX2_frame 84 = .ok (.iastore, 1) := by decide +kernel
theorem dX2_frame_85 : decode cX2_frame 85 = .ok (.aload_n 0, 1) := by decide +kernel
theorem dX2_frame_86 : decode cX2_frame 86 = .ok (.getfield 24, 3) := by decide +kernel
theorem dX2_frame_89 : decode cX2_frame 89 = .ok (.iconst 1, 1) := by decide +kernel
theorem dX2_frame_90 : decode cX2_frame 90 = .ok (.aload_n 0, 1) := by decide +kernel
theorem dX2_frame_91 : decode cX2_frame 91 = .ok (.getfield 24, 3) := by decide +kernel
theorem dX2_frame_94 : decode cX2_frame 94 = .ok (.iconst 1, 1) := by decide +kernel
theorem dX2_frame_95 : decode cX2_frame 95 = .ok (.iaload, 1) := by decide +kernel
theorem dX2_frame_96 : decode cX2_frame 96 = .ok (.aload_n 0, 1) := by decide +kernel
theorem dX2_frame_97 : decode cX2_frame 97 = .ok (.getfield 18, 3) := by decide +kernel
theorem dX2_frame_100 : decode cX2_frame 100 = .ok (.iload_n 1, 1) := by decide +kernel
theorem dX2_frame_101 : decode cX2_frame 101 = .ok (.iaload, 1) := by decide +kernel
theorem dX2_frame_102 : decode cX2_frame 102 = .ok (.aload_n 0, 1) := by decide +kernel
theorem dX2_frame_103 : decode cX2_frame 103 = .ok (.getfield 21, 3) := by decide +kernel
theorem dX2_frame_106 : decode cX2_frame 106 = .ok (.iload_n 1, 1) := by decide +kernel
theorem dX2_frame_107 : decode cX2_frame 107 = .ok (.iaload, 1) := by decide +kernel
theorem dX2_frame_108 : decode cX2_frame 108 = .ok (.isub, 1) := by decide +kernel
theorem dX2_frame_109 : decode cX2_frame 109 = .ok (.invokestatic 53, 3) := by decide +kernel
theorem dX2_frame_112 : decode cX2_frame 112 = .ok (.iastore, 1) := by decide +kernel
theorem dX2_frame_113 : decode cX2_frame 113 = .ok (.aload_n 0, 1) := by decide +kernel
theorem dX2_frame_114 : decode cX2_frame 114 = .ok (.getfield 24, 3) := by decide +kernel
theorem dX2_frame_117 : decode cX2_frame 117 = .ok (.iconst 2, 1) := by decide +kernel
theorem dX2_frame_118 : decode cX2_frame 118 = .ok (.aload_n 0, 1) := by decide +kernel
theorem dX2_frame_119 : decode cX2_frame 119 = .ok (.getfield 24, 3) := by decide +kernel
theorem dX2_frame_122 : decode cX2_frame 122 = .ok (.iconst 2, 1) := by decide +kernel
theorem dX2_frame_123 : decode cX2_frame 123 = .ok (.iaload, 1) := by decide +kernel
theorem dX2_frame_124 : decode cX2_frame 124 = .ok (.aload_n 0, 1) := by decide +kernel
theorem dX2_frame_125 : decode cX2_frame 125 = .ok (.getfield 15, 3) := by decide +kernel
theorem dX2_frame_128 : decode cX2_frame 128 = .ok (.iload_n 1, 1) := by decide +kernel
theorem dX2_frame_129 : decode cX2_frame 129 = .ok (.iaload, 1) := by decide +kernel
theorem dX2_frame_130 : decode cX2_frame 130 = .ok (.aload_n 0, 1) := by decide +kernel
theorem dX2_frame_131 : decode cX2_frame 131 = .ok (.getfield 21, 3) := by decide +kernel
theorem dX2_frame_134 : decode cX2_frame 134 = .ok (.iload_n 1, 1) := by decide +kernel
theorem dX2_frame_135 : decode cX2_frame 135 = .ok (.iaload, 1) := by decide +kernel
theorem dX2_frame_136 : decode cX2_frame 136 = .ok (.iadd, 1) := by decide +kernel
theorem dX2_frame_137 : decode cX2_frame 137 = .ok (.invokestatic 59, 3) := by decide +kernel
theorem dX2_frame_140 : decode cX2_frame 140 = .ok (.iastore, 1) := by decide +kernel
theorem dX2_frame_141 : decode cX2_frame 141 = .ok (.aload_n 0, 1) := by decide +kernel
theorem dX2_frame_142 : decode cX2_frame 142 = .ok (.getfield 24, 3) := by decide +kernel
theorem dX2_frame_145 : decode cX2_frame 145 = .ok (.iconst 3, 1) := by decide +kernel
theorem dX2_frame_146 : decode cX2_frame 146 = .ok (.aload_n 0, 1) := by decide +kernel
theorem dX2_frame_147 : decode cX2_frame 147 = .ok (.getfield 24, 3) := by decide +kernel
theorem dX2_frame_150 : decode cX2_frame 150 = .ok (.iconst 3, 1) := by decide +kernel
theorem dX2_frame_151 : decode cX2_frame 151 = .ok (.iaload, 1) := by decide +kernel
theorem dX2_frame_152 : decode cX2_frame 152 = .ok (.aload_n 0, 1) := by decide +kernel
theorem dX2_frame_153 : decode cX2_frame 153 = .ok (.getfield 18, 3) := by decide +kernel
theorem dX2_frame_156 : decode cX2_frame 156 = .ok (.iload_n 1, 1) := by decide +kernel
theorem dX2_frame_157 : decode cX2_frame 157 = .ok (.iaload, 1) := by decide +kernel
theorem dX2_frame_158 : decode cX2_frame 158 = .ok (.aload_n 0, 1) := by decide +kernel
theorem dX2_frame_159 : decode cX2_frame 159 = .ok (.getfield 21, 3) := by decide +kernel
theorem dX2_frame_162 : decode cX2_frame 162 = .ok (.iload_n 1, 1) := by decide +kernel
theorem dX2_frame_163 : decode cX2_frame 163 = .ok (.iaload, 1) := by decide +kernel
theorem dX2_frame_164 : decode cX2_frame 164 = .ok (.iadd, 1) := by decide +kernel
theorem dX2_frame_165 : decode cX2_frame 165 = .ok (.invokestatic 59, 3) := by decide +kernel
theorem dX2_frame_168 : decode cX2_frame 168 = .ok (.iastore, 1) := by decide +kernel
theorem dX2_frame_169 : decode cX2_frame 169 = .ok (.iinc 1 1, 3) := by decide +kernel
theorem dX2_frame_172 : decode cX2_frame 172 = .ok (.goto (-134), 3) := by decide +kernel
theorem dX2_frame_175 : decode cX2_frame 175 = .ok (.return_, 1) := by decide +kernel
theorem dX2_anotherTouchesCut_0 : decode cX2_anotherTouchesCut 0 = .ok (.iconst 0, 1) := by decide +kernel
theorem dX2_anotherTouchesCut_1 : decode cX2_anotherTouchesCut 1 = .ok (.istore_n 1, 1) := by decide +kernel
theorem dX2_anotherTouchesCut_2 : decode cX2_anotherTouchesCut 2 = .ok (.iload_n 1, 1) := by decide +kernel
theorem dX2_anotherTouchesCut_3 : decode cX2_anotherTouchesCut 3 = .ok (.aload_n 0, 1) := by decide +kernel
theorem dX2_anotherTouchesCut_4 : decode cX2_anotherTouchesCut 4 = .ok (.getfield 37, 3) := by decide +kernel
theorem dX2_anotherTouchesCut_7 : decode cX2_anotherTouchesCut 7 = .ok (.if_icmp .ge 110, 3) := by decide +kernel
theorem dX2_anotherTouchesCut_10 : decode cX2_anotherTouchesCut 10 = .ok (.aload_n 0, 1) := by decide +kernel
theorem dX2_anotherTouchesCut_11 : decode cX2_anotherTouchesCut 11 = .ok (.getfield 40, 3) := by decide +kernel
theorem dX2_anotherTouchesCut_14 : decode cX2_anotherTouchesCut 14 = .ok (.iload_n 1, 1) := by decide +kernel
theorem dX2_anotherTouchesCut_15 : decode cX2_anotherTouchesCut 15 = .ok (.ishr, 1) := by decide +kernel
theorem dX2_anotherTouchesCut_16 : decode cX2_anotherTouchesCut 16 = .ok (.iconst 1, 1) := by decide +kernel
theorem dX2_anotherTouchesCut_17 : decode cX2_anotherTouchesCut 17 = .ok (.iand, 1) := by decide +kernel
theorem dX2_anotherTouchesCut_18 : decode cX2_anotherTouchesCut 18 = .ok (.ifCond .ne 93, 3) := by decide +kernel
theorem dX2_anotherTouchesCut_21 : decode cX2_anotherTouchesCut 21 = .ok (.aload_n 0, 1) := by decide +kernel
theorem dX2_anotherTouchesCut_22 : decode cX2_anotherTouchesCut 22 = .ok (.getfield 15, 3) := by decide +kernel
theorem dX2_anotherTouchesCut_25 : decode cX2_anotherTouchesCut 25 = .ok (.iload_n 1, 1) := by decide +kernel
theorem dX2_anotherTouchesCut_26 : decode cX2_anotherTouchesCut 26 = .ok (.iaload, 1) := by decide +kernel
theorem dX2_anotherTouchesCut_27 : decode cX2_anotherTouchesCut 27 = .ok (.aload_n 0, 1) := by decide +kernel
theorem dX2_anotherTouchesCut_28 : decode cX2_anotherTouchesCut 28 = .ok (.getfield 21, 3) := by decide +kernel
theorem dX2_anotherTouchesCut_31 : decode cX2_anotherTouchesCut 31 = .ok (.iload_n 1, 1) := by decide +kernel
theorem dX2_anotherTouchesCut_32 : decode cX2_anotherTouchesCut 32 = .ok (.iaload, 1) := by decide +kernel
theorem dX2_anotherTouchesCut_33 : decode cX2_anotherTouchesCut 33 = .ok (.isub, 1) := by decide +kernel
theorem dX2_anotherTouchesCut_34 : decode cX2_anotherTouchesCut 34 = .ok (.aload_n 0, 1) := by decide +kernel
theorem dX2_anotherTouchesCut_35 : decode cX2_anotherTouchesCut 35 = .ok (.getfield 24, 3) := by decide +kernel
theorem dX2_anotherTouchesCut_38 : decode cX2_anotherTouchesCut 38 = .ok (.iconst 2, 1) := by decide +kernel
theorem dX2_anotherTouchesCut_39 : decode cX2_anotherTouchesCut 39 = .ok (.iaload, 1) := by decide +kernel
theorem dX2_anotherTouchesCut_40 : decode cX2_anotherTouchesCut 40 = .ok (.if_icmp .gt 71, 3) := by decide +kernel
theorem dX2_anotherTouchesCut_43 : decode cX2_anotherTouchesCut 43 = .ok (.aload_n 0, 1) := by decide +kernel
theorem dX2_anotherTouchesCut_44 : decode cX2_anotherTouchesCut 44 = .ok (.getfield 15, 3) := by decide +kernel
theorem dX2_anotherTouchesCut_47 : decode cX2_anotherTouchesCut 47 = .ok (.iload_n 1, 1) := by decide +kernel
theorem dX2_anotherTouchesCut_48 : decode cX2_anotherTouchesCut 48 = .ok (.iaload, 1) := by decide +kernel
theorem dX2_anotherTouchesCut_49 : decode cX2_anotherTouchesCut 49 = .ok (.aload_n 0, 1) := by decide +kernel
theorem dX2_anotherTouchesCut_50 : decode cX2_anotherTouchesCut 50 = .ok (.getfield 21, 3) := by decide +kernel
theorem dX2_anotherTouchesCut_53 : decode cX2_anotherTouchesCut 53 = .ok (.iload_n 1, 1) := by decide +kernel
theorem dX2_anotherTouchesCut_54 : decode cX2_anotherTouchesCut 54 = .ok (.iaload, 1) := by decide +kernel
theorem dX2_anotherTouchesCut_55 : decode cX2_anotherTouchesCut 55 = .ok (.iadd, 1) := by decide +kernel
theorem dX2_anotherTouchesCut_56 : decode cX2_anotherTouchesCut 56 = .ok (.aload_n 0, 1) := by decide +kernel
theorem dX2_anotherTouchesCut_57 : decode cX2_anotherTouchesCut 57 = .ok (.getfield 24, 3) := by decide +kernel
theorem dX2_anotherTouchesCut_60 : decode cX2_anotherTouchesCut 60 = .ok (.iconst 0, 1) := by decide +kernel
theorem dX2_anotherTouchesCut_61 : decode cX2_anotherTouchesCut 61 = .ok (.iaload, 1) := by decide +kernel
theorem dX2_anotherTouchesCut_62 : decode cX2_anotherTouchesCut 62 = .ok (.if_icmp .lt 49, 3) := by decide +kernel
theorem dX2_anotherTouchesCut_65 : decode cX2_anotherTouchesCut 65 = .ok (.aload_n 0, 1) := by decide +kernel
theorem dX2_anotherTouchesCut_66 : decode cX2_anotherTouchesCut 66 = .ok (.getfield 18, 3) := by decide +kernel
theorem dX2_anotherTouchesCut_69 : decode cX2_anotherTouchesCut 69 = .ok (.iload_n 1, 1) := by decide +kernel
theorem dX2_anotherTouchesCut_70 : decode cX2_anotherTouchesCut 70 = .ok (.iaload, 1) := by decide +kernel
theorem dX2_anotherTouchesCut_71 : decode cX2_anotherTouchesCut 71 = .ok (.aload_n 0, 1) := by decide +kernel
theorem dX2_anotherTouchesCut_72 : decode cX2_anotherTouchesCut 72 = .ok (.getfield 21, 3) := by decide +kernel
theorem dX2_anotherTouchesCut_75 : decode cX2_anotherTouchesCut 75 = .ok (.iload_n 1, 1) := by decide +kernel
theorem dX2_anotherTouchesCut_76 : decode cX2_anotherTouchesCut 76 = .ok (.iaload, 1) := by decide +kernel
theorem dX2_anotherTouchesCut_77 : decode cX2_anotherTouchesCut 77 = .ok (.isub, 1) := by decide +kernel
theorem dX2_anotherTouchesCut_78 : decode cX2_anotherTouchesCut 78 = .ok (.aload_n 0, 1) := by decide +kernel
theorem dX2_anotherTouchesCut_79 : decode cX2_anotherTouchesCut 79 = .ok (.getfield 24, 3) := by decide +kernel
theorem dX2_anotherTouchesCut_82 : decode cX2_anotherTouchesCut 82 = .ok (.iconst 3, 1) := by decide +kernel
theorem dX2_anotherTouchesCut_83 : decode cX2_anotherTouchesCut 83 = .ok (.iaload, 1) := by decide +kernel
theorem dX2_anotherTouchesCut_84 : decode cX2_anotherTouchesCut 84 = .ok (.if_icmp .gt 27, 3) := by decide +kernel
theorem dX2_anotherTouchesCut_87 : decode cX2_anotherTouchesCut 87 = .ok (.aload_n 0, 1) := by decide +kernel
theorem dX2_anotherTouchesCut_88 : decode cX2_anotherTouchesCut 88 = .ok (.getfield 18, 3) := by decide +kernel
theorem dX2_anotherTouchesCut_91 : decode cX2_anotherTouchesCut 91 = .ok (.iload_n 1, 1) := by decide +kernel
theorem dX2_anotherTouchesCut_92 : decode cX2_anotherTouchesCut 92 = .ok (.iaload, 1) := by decide +kernel
theorem dX2_anotherTouchesCut_93 : decode cX2_anotherTouchesCut 93 = .ok (.aload_n 0, 1) := by decide +kernel
theorem dX2_anotherTouchesCut_94 : decode cX2_anotherTouchesCut 94 = .ok (.getfield 21, 3) := by decide +kernel
theorem dX2_anotherTouchesCut_97 : decode cX2_anotherTouchesCut 97 = .ok (.iload_n 1, 1) := by decide +kernel
theorem dX2_anotherTouchesCut_98 : decode cX2_anotherTouchesCut 98 = .ok (.iaload, 1) := by decide +kernel
theorem dX2_anotherTouchesCut_99 : decode cX2_anotherTouchesCut 99 = .ok (.iadd, 1) := by decide +kernel
theorem dX2_anotherTouchesCut_100 : decode cX2_anotherTouchesCut 100 = .ok (.aload_n 0, 1) := by decide +kernel
theorem dX2_anotherTouchesCut_101 : decode cX2_anotherTouchesCut 101 = .ok (.getfield 24, 3) := by decide +kernel
theorem dX2_anotherTouchesCut_104 : decode cX2_anotherTouchesCut 104 = .ok (.iconst 1, 1) := by decide +kernel
theorem dX2_anotherTouchesCut_105 : decode cX2_anotherTouchesCut 105 = .ok (.iaload, 1) := by decide +kernel
theorem dX2_anotherTouchesCut_106 : decode cX2_anotherTouchesCut 106 = .ok (.if_icmp .lt 5, 3) := by decide +kernel
theorem dX2_anotherTouchesCut_109 : decode cX2_anotherTouchesCut 109 = .ok (.iconst 1, 1) := by decide +kernel
theorem dX2_anotherTouchesCut_110 : decode cX2_anotherTouchesCut 110 = .ok (.ireturn, 1) := by decide +kernel
theorem dX2_anotherTouchesCut_111 : decode cX2_anotherTouchesCut 111 = .ok (.iinc 1 1, 3) := by decide +kernel
theorem dX2_anotherTouchesCut_114 : decode cX2_anotherTouchesCut 114 = .ok (.goto (-112), 3) := by decide +kernel
theorem dX2_anotherTouchesCut_117 : decode cX2_anotherTouchesCut 117 = .ok (.iconst 0, 1) := by decide +kernel
theorem dX2_anotherTouchesCut_118 : decode cX2_anotherTouchesCut 118 = .ok (.ireturn, 1) := by decide +kernel
theorem dX2_edge_0 : decode cX2_edge 0 = .ok (.aload_n 0, 1) := by decide +kernel
theorem dX2_edge_1 : decode cX2_edge 1 = .ok (.getfield 40, 3) := by decide +kernel
theorem dX2_edge_4 : decode cX2_edge 4 = .ok (.ifCond .eq 16, 3) := by decide +kernel
theorem dX2_edge_7 : decode cX2_edge 7 = .ok (.iload_n 1, 1) := by decide +kernel
theorem dX2_edge_8 : decode cX2_edge 8 = .ok (.ifCond .lt 12, 3) := by decide +kernel
theorem dX2_edge_11 : decode cX2_edge 11 = .ok (.iload_n 1, 1) := by decide +kernel
theorem dX2_edge_12 : decode cX2_edge 12 = .ok (.aload_n 0, 1) := by decide +kernel
theorem dX2_edge_13 : decode cX2_edge 13 = .ok (.getfield 24, 3) := by decide +kernel
theorem dX2_edge_16 : decode cX2_edge 16 = .ok (.arraylength, 1) := by decide +kernel
theorem dX2_edge_17 : decode cX2_edge 17 = .ok (.if_icmp .lt 7, 3) := by decide +kernel
theorem dX2_edge_20 : decode cX2_edge 20 = .ok (.iconst (-1), 1) := by decide +kernel
theorem dX2_edge_21 : decode cX2_edge 21 = .ok (.goto 9, 3) := by decide +kernel
theorem dX2_edge_24 : decode cX2_edge 24 = .ok (.aload_n 0, 1) := by decide +kernel
theorem dX2_edge_25 : decode cX2_edge 25 = .ok (.getfield 24, 3) := by decide +kernel
theorem dX2_edge_28 : decode cX2_edge 28 = .ok (.iload_n 1, 1) := by decide +kernel
theorem dX2_edge_29 : decode cX2_edge 29 = .ok (.iaload, 1) := by decide +kernel
theorem dX2_edge_30 : decode cX2_edge 30 = .ok (.ireturn, 1) := by decide +kernel
set_option maxRecDepth 20000 in
theorem ggX2_nameAt_X2_topRow : GoodIn wsX2_nameAt wsX2_topRow := goodIn_r _ [6, 7, 8, 9, 10, 11, 12, 30, 31, 32, 33, 34, 35, 36, 37, 38, 39, 40] (by decide +kernel) (by decide +kernel)
set_option maxRecDepth 20000 in
theorem gX2_nameAt_X2_topRow : GoodIn wsX2_nameAt (wsV RX2 62 RX2 yX2_topRow wsX2_topRow) := goodIn_app (goodIn_of _ (by decide +kernel)) ggX2_nameAt_X2_topRow
set_option maxRecDepth 20000 in
theorem ggX2_nameAt_J6_bitCount_0f7a4 : GoodIn wsX2_nameAt wsJ6_bitCount_0f7a4 := goodIn_r _ [16, 17, 18, 19] (by decide +kernel) (by decide +kernel)
set_option maxRecDepth 20000 in
theorem gX2_nameAt_J6_bitCount_0f7a4 : GoodIn wsX2_nameAt (va_wsS RX2 65 yJ6_bitCount_0f7a4 wsJ6_bitCount_0f7a4) := goodIn_app (goodIn_of _ (by decide +kernel)) ggX2_nameAt_J6_bitCount_0f7a4
set_option maxRecDepth 20000 in
theorem ggX2_nameAt_X2_childInRow : GoodIn wsX2_nameAt wsX2_childInRow := goodIn_r _ [23, 7, 24, 25, 26, 27, 5, 28, 29, 30, 31, 32, 33, 34, 35, 36, 37, 38, 39, 40] (by decide +kernel) (by decide +kernel)
set_option maxRecDepth 20000 in
theorem gX2_nameAt_X2_childInRow : GoodIn wsX2_nameAt (wsV RX2 71 RX2 yX2_childInRow wsX2_childInRow) := goodIn_app (goodIn_of _ (by decide +kernel)) ggX2_nameAt_X2_childInRow
theorem dX2_nameAt_0 : decode cX2_nameAt 0 = .ok (.aload_n 0, 1) := by decide +kernel
theorem dX2_nameAt_1 : decode cX2_nameAt 1 = .ok (.getfield 40, 3) := by decide +kernel
theorem dX2_nameAt_4 : decode cX2_nameAt 4 = .ok (.istore_n 3, 1) := by decide +kernel
theorem dX2_nameAt_5 : decode cX2_nameAt 5 = .ok (.iload_n 1, 1) := by decide +kernel
theorem dX2_nameAt_6 : decode cX2_nameAt 6 = .ok (.istore 4, 2) := by decide +kernel
theorem dX2_nameAt_8 : decode cX2_nameAt 8 = .ok (.iconst 0, 1) := by decide +kernel
theorem dX2_nameAt_9 : decode cX2_nameAt 9 = .ok (.istore 5, 2) := by decide +kernel
theorem dX2_nameAt_11 : decode cX2_nameAt 11 = .ok (.iload 5, 2) := by decide +kernel
theorem dX2_nameAt_13 : decode cX2_nameAt 13 = .ok (.bipush 8, 2) := by decide +kernel
theorem dX2_nameAt_15 : decode cX2_nameAt 15 = .ok (.if_icmp .ge 58, 3) := by decide +kernel
theorem dX2_nameAt_18 : decode cX2_nameAt 18 = .ok (.iload_n 3, 1) := by decide +kernel
theorem dX2_nameAt_19 : decode cX2_nameAt 19 = .ok (.ifCond .eq 54, 3) := by decide +kernel
theorem dX2_nameAt_22 : decode cX2_nameAt 22 = .ok (.aload_n 0, 1) := by decide +kernel
theorem dX2_nameAt_23 : decode cX2_nameAt 23 = .ok (.iload_n 3, 1) := by decide +kernel
theorem dX2_nameAt_24 : decode cX2_nameAt 24 = .ok (.iload_n 2, 1) := by decide +kernel
theorem dX2_nameAt_25 : decode cX2_nameAt 25 = .ok (.invokevirtual 62, 3) := by decide +kernel
theorem dX2_nameAt_28 : decode cX2_nameAt 28 = .ok (.istore 6, 2) := by decide +kernel
theorem dX2_nameAt_30 : decode cX2_nameAt 30 = .ok (.iload 6, 2) := by decide +kernel
theorem dX2_nameAt_32 : decode cX2_nameAt 32 = .ok (.invokestatic 65, 3) := by decide +kernel
theorem dX2_nameAt_35 : decode cX2_nameAt 35 = .ok (.istore 7, 2) := by decide +kernel
theorem dX2_nameAt_37 : decode cX2_nameAt 37 = .ok (.iload 4, 2) := by decide +kernel
theorem dX2_nameAt_39 : decode cX2_nameAt 39 = .ok (.iload 7, 2) := by decide +kernel
theorem dX2_nameAt_41 : decode cX2_nameAt 41 = .ok (.if_icmp .ge 12, 3) := by decide +kernel
theorem dX2_nameAt_44 : decode cX2_nameAt 44 = .ok (.aload_n 0, 1) := by decide +kernel
theorem dX2_nameAt_45 : decode cX2_nameAt 45 = .ok (.iload 6, 2) := by decide +kernel
theorem dX2_nameAt_47 : decode cX2_nameAt 47 = .ok (.iload 4, 2) := by decide +kernel
theorem dX2_nameAt_49 : decode cX2_nameAt 49 = .ok (.invokevirtual 71, 3) := by decide +kernel
theorem dX2_nameAt_52 : decode cX2_nameAt 52 = .ok (.ireturn, 1) := by decide +kernel
theorem dX2_nameAt_53 : decode cX2_nameAt 53 = .ok (.iload 4, 2) := by decide +kernel
theorem dX2_nameAt_55 : decode cX2_nameAt 55 = .ok (.iload 7, 2) := by decide +kernel
theorem dX2_nameAt_57 : decode cX2_nameAt 57 = .ok (.isub, 1) := by decide +kernel
theorem dX2_nameAt_58 : decode cX2_nameAt 58 = .ok (.istore 4, 2) := by decide +kernel
theorem dX2_nameAt_60 : decode cX2_nameAt 60 = .ok (.iload_n 3, 1) := by decide +kernel
theorem dX2_nameAt_61 : decode cX2_nameAt 61 = .ok (.iload 6, 2) := by decide +kernel
theorem dX2_nameAt_63 : decode cX2_nameAt 63 = .ok (.iconst (-1), 1) := by decide +kernel
theorem dX2_nameAt_64 : decode cX2_nameAt 64 = .ok (.ixor, 1) := by decide +kernel
theorem dX2_nameAt_65 : decode cX2_nameAt 65 = .ok (.iand, 1) := by decide +kernel
theorem dX2_nameAt_66 : decode cX2_nameAt 66 = .ok (.istore_n 3, 1) := by decide +kernel
theorem dX2_nameAt_67 : decode cX2_nameAt 67 = .ok (.iinc 5 1, 3) := by decide +kernel
theorem dX2_nameAt_70 : decode cX2_nameAt 70 = .ok (.goto (-59), 3) := by decide +kernel
theorem dX2_nameAt_73 : decode cX2_nameAt 73 = .ok (.iconst (-1), 1) := by decide +kernel
theorem dX2_nameAt_74 : decode cX2_nameAt 74 = .ok (.ireturn, 1) := by decide +kernel
theorem dX2_topRow_0 : decode cX2_topRow 0 = .ok (.sipush 1000, 3) := by decide +kernel
theorem dX2_topRow_3 : decode cX2_topRow 3 = .ok (.istore_n 3, 1) := by decide +kernel
theorem dX2_topRow_4 : decode cX2_topRow 4 = .ok (.iconst 0, 1) := by decide +kernel
theorem dX2_topRow_5 : decode cX2_topRow 5 = .ok (.istore 4, 2) := by decide +kernel
theorem dX2_topRow_7 : decode cX2_topRow 7 = .ok (.iload 4, 2) := by decide +kernel
theorem dX2_topRow_9 : decode cX2_topRow 9 = .ok (.aload_n 0, 1) := by decide +kernel
theorem dX2_topRow_10 : decode cX2_topRow 10 = .ok (.getfield 37, 3) := by decide +kernel
theorem dX2_topRow_13 : decode cX2_topRow 13 = .ok (.if_icmp .ge 30, 3) := by decide +kernel
theorem dX2_topRow_16 : decode cX2_topRow 16 = .ok (.iload_n 1, 1) := by decide +kernel
theorem dX2_topRow_17 : decode cX2_topRow 17 = .ok (.iload 4, 2) := by decide +kernel
theorem dX2_topRow_19 : decode cX2_topRow 19 = .ok (.ishr, 1) := by decide +kernel
theorem dX2_topRow_20 : decode cX2_topRow 20 = .ok (.iconst 1, 1) := by decide +kernel
theorem dX2_topRow_21 : decode cX2_topRow 21 = .ok (.iand, 1) := by decide +kernel
theorem dX2_topRow_22 : decode cX2_topRow 22 = .ok (.ifCond .eq 15, 3) := by decide +kernel
theorem dX2_topRow_25 : decode cX2_topRow 25 = .ok (.iload_n 3, 1) := by decide +kernel
theorem dX2_topRow_26 : decode cX2_topRow 26 = .ok (.aload_n 0, 1) := by decide +kernel
theorem dX2_topRow_27 : decode cX2_topRow 27 = .ok (.getfield 18, 3) := by decide +kernel
theorem dX2_topRow_30 : decode cX2_topRow 30 = .ok (.iload 4, 2) := by decide +kernel
theorem dX2_topRow_32 : decode cX2_topRow 32 = .ok (.iaload, 1) := by decide +kernel
theorem dX2_topRow_33 : decode cX2_topRow 33 = .ok (.invokestatic 53, 3) := by decide +kernel
theorem dX2_topRow_36 : decode cX2_topRow 36 = .ok (.istore_n 3, 1) := by decide +kernel
theorem dX2_topRow_37 : decode cX2_topRow 37 = .ok (.iinc 4 1, 3) := by decide +kernel
theorem dX2_topRow_40 : decode cX2_topRow 40 = .ok (.goto (-33), 3) := by decide +kernel
theorem dX2_topRow_43 : decode cX2_topRow 43 = .ok (.iconst 0, 1) := by decide +kernel
theorem dX2_topRow_44 : decode cX2_topRow 44 = .ok (.istore 4, 2) := by decide +kernel
theorem dX2_topRow_46 : decode cX2_topRow 46 = .ok (.iconst 0, 1) := by decide +kernel
theorem dX2_topRow_47 : decode cX2_topRow 47 = .ok (.istore 5, 2) := by decide +kernel
theorem dX2_topRow_49 : decode cX2_topRow 49 = .ok (.iload 5, 2) := by decide +kernel
theorem dX2_topRow_51 : decode cX2_topRow 51 = .ok (.aload_n 0, 1) := by decide +kernel
theorem dX2_topRow_52 : decode cX2_topRow 52 = .ok (.getfield 37, 3) := by decide +kernel
theorem dX2_topRow_55 : decode cX2_topRow 55 = .ok (.if_icmp .ge 40, 3) := by decide +kernel
theorem dX2_topRow_58 : decode cX2_topRow 58 = .ok (.iload_n 1, 1) := by decide +kernel
theorem dX2_topRow_59 : decode cX2_topRow 59 = .ok (.iload 5, 2) := by decide +kernel
theorem dX2_topRow_61 : decode cX2_topRow 61 = .ok (.ishr, 1) := by decide +kernel
theorem dX2_topRow_62 : decode cX2_topRow 62 = .ok (.iconst 1, 1) := by decide +kernel
theorem dX2_topRow_63 : decode cX2_topRow 63 = .ok (.iand, 1) := by decide +kernel
theorem dX2_topRow_64 : decode cX2_topRow 64 = .ok (.ifCond .eq 25, 3) := by decide +kernel
theorem dX2_topRow_67 : decode cX2_topRow 67 = .ok (.aload_n 0, 1) := by decide +kernel
theorem dX2_topRow_68 : decode cX2_topRow 68 = .ok (.getfield 18, 3) := by decide +kernel
theorem dX2_topRow_71 : decode cX2_topRow 71 = .ok (.iload 5, 2) := by decide +kernel
theorem dX2_topRow_73 : decode cX2_topRow 73 = .ok (.iaload, 1) := by decide +kernel
theorem dX2_topRow_74 : decode cX2_topRow 74 = .ok (.iload_n 3, 1) := by decide +kernel
theorem dX2_topRow_75 : decode cX2_topRow 75 = .ok (.isub, 1) := by decide +kernel
theorem dX2_topRow_76 : decode cX2_topRow 76 = .ok (.iload_n 2, 1) := by decide +kernel
theorem dX2_topRow_77 : decode cX2_topRow 77 = .ok (.if_icmp .gt 12, 3) := by decide +kernel
theorem dX2_topRow_80 : decode cX2_topRow 80 = .ok (.iload 4, 2) := by decide +kernel
theorem dX2_topRow_82 : decode cX2_topRow 82 = .ok (.iconst 1, 1) := by decide +kernel
theorem dX2_topRow_83 : decode cX2_topRow 83 = .ok (.iload 5, 2) := by decide +kernel
theorem dX2_topRow_85 : decode cX2_topRow 85 = .ok (.ishl, 1) := by decide +kernel
theorem dX2_topRow_86 : decode cX2_topRow 86 = .ok (.ior, 1) := by decide +kernel
theorem dX2_topRow_87 : decode cX2_topRow 87 = .ok (.istore 4, 2) := by decide +kernel
theorem dX2_topRow_89 : decode cX2_topRow 89 = .ok (.iinc 5 1, 3) := by decide +kernel
theorem dX2_topRow_92 : decode cX2_topRow 92 = .ok (.goto (-43), 3) := by decide +kernel
theorem dX2_topRow_95 : decode cX2_topRow 95 = .ok (.iload 4, 2) := by decide +kernel
theorem dX2_topRow_97 : decode cX2_topRow 97 = .ok (.ireturn, 1) := by decide +kernel
set_option maxRecDepth 20000 in
theorem ggX2_childInRow_X2_leftOf : GoodIn wsX2_childInRow wsX2_leftOf := goodIn_r _ [7, 1, 8, 2, 9, 10, 11, 12, 13, 14, 15, 16, 17, 18, 19] (by decide +kernel) (by decide +kernel)
set_option maxRecDepth 20000 in
theorem gX2_childInRow_X2_leftOf : GoodIn wsX2_childInRow (wsV RX2 74 RX2 yX2_leftOf wsX2_leftOf) := goodIn_app (goodIn_of _ (by decide +kernel)) ggX2_childInRow_X2_leftOf
theorem dX2_childInRow_0 : decode cX2_childInRow 0 = .ok (.iconst 0, 1) := by decide +kernel
theorem dX2_childInRow_1 : decode cX2_childInRow 1 = .ok (.istore_n 3, 1) := by decide +kernel
theorem dX2_childInRow_2 : decode cX2_childInRow 2 = .ok (.iload_n 3, 1) := by decide +kernel
theorem dX2_childInRow_3 : decode cX2_childInRow 3 = .ok (.aload_n 0, 1) := by decide +kernel
theorem dX2_childInRow_4 : decode cX2_childInRow 4 = .ok (.getfield 37, 3) := by decide +kernel
theorem dX2_childInRow_7 : decode cX2_childInRow 7 = .ok (.if_icmp .ge 34, 3) := by decide +kernel
theorem dX2_childInRow_10 : decode cX2_childInRow 10 = .ok (.iload_n 1, 1) := by decide +kernel
theorem dX2_childInRow_11 : decode cX2_childInRow 11 = .ok (.iload_n 3, 1) := by decide +kernel
theorem dX2_childInRow_12 : decode cX2_childInRow 12 = .ok (.ishr, 1) := by decide +kernel
theorem dX2_childInRow_13 : decode cX2_childInRow 13 = .ok (.iconst 1, 1) := by decide +kernel
theorem dX2_childInRow_14 : decode cX2_childInRow 14 = .ok (.iand, 1) := by decide +kernel
theorem dX2_childInRow_15 : decode cX2_childInRow 15 = .ok (.ifCond .eq 20, 3) := by decide +kernel
theorem dX2_childInRow_18 : decode cX2_childInRow 18 = .ok (.aload_n 0, 1) := by decide +kernel
theorem dX2_childInRow_19 : decode cX2_childInRow 19 = .ok (.iload_n 3, 1) := by decide +kernel
theorem dX2_childInRow_20 : decode cX2_childInRow 20 = .ok (.iload_n 1, 1) := by decide +kernel
theorem dX2_childInRow_21 : decode cX2_childInRow 21 = .ok (.invokevirtual 74, 3) := by decide +kernel
theorem dX2_childInRow_24 : decode cX2_childInRow 24 = .ok (.iload_n 2, 1) := by decide +kernel
theorem dX2_childInRow_25 : decode cX2_childInRow 25 = .ok (.if_icmp .ne 10, 3) := by decide +kernel
theorem dX2_childInRow_28 : decode cX2_childInRow 28 = .ok (.aload_n 0, 1) := by decide +kernel
theorem dX2_childInRow_29 : decode cX2_childInRow 29 = .ok (.getfield 9, 3) := by decide +kernel
theorem dX2_childInRow_32 : decode cX2_childInRow 32 = .ok (.iload_n 3, 1) := by decide +kernel
theorem dX2_childInRow_33 : decode cX2_childInRow 33 = .ok (.iaload, 1) := by decide +kernel
theorem dX2_childInRow_34 : decode cX2_childInRow 34 = .ok (.ireturn, 1) := by decide +kernel
theorem dX2_childInRow_35 : decode cX2_childInRow 35 = .ok (.iinc 3 1, 3) := by decide +kernel
theorem dX2_childInRow_38 : decode cX2_childInRow 38 = .ok (.goto (-36), 3) := by decide +kernel
theorem dX2_childInRow_41 : decode cX2_childInRow 41 = .ok (.iconst (-1), 1) := by decide +kernel
theorem dX2_childInRow_42 : decode cX2_childInRow 42 = .ok (.ireturn, 1) := by decide +kernel
theorem dX2_leftOf_0 : decode cX2_leftOf 0 = .ok (.iconst 0, 1) := by decide +kernel
theorem dX2_leftOf_1 : decode cX2_leftOf 1 = .ok (.istore_n 3, 1) := by decide +kernel
theorem dX2_leftOf_2 : decode cX2_leftOf 2 = .ok (.iconst 0, 1) := by decide +kernel
theorem dX2_leftOf_3 : decode cX2_leftOf 3 = .ok (.istore 4, 2) := by decide +kernel
theorem dX2_leftOf_5 : decode cX2_leftOf 5 = .ok (.iload 4, 2) := by decide +kernel
theorem dX2_leftOf_7 : decode cX2_leftOf 7 = .ok (.aload_n 0, 1) := by decide +kernel
theorem dX2_leftOf_8 : decode cX2_leftOf 8 = .ok (.getfield 37, 3) := by decide +kernel
theorem dX2_leftOf_11 : decode cX2_leftOf 11 = .ok (.if_icmp .ge 69, 3) := by decide +kernel
theorem dX2_leftOf_14 : decode cX2_leftOf 14 = .ok (.iload_n 2, 1) := by decide +kernel
theorem dX2_leftOf_15 : decode cX2_leftOf 15 = .ok (.iload 4, 2) := by decide +kernel
theorem dX2_leftOf_17 : decode cX2_leftOf 17 = .ok (.ishr, 1) := by decide +kernel
theorem dX2_leftOf_18 : decode cX2_leftOf 18 = .ok (.iconst 1, 1) := by decide +kernel
theorem dX2_leftOf_19 : decode cX2_leftOf 19 = .ok (.iand, 1) := by decide +kernel
theorem dX2_leftOf_20 : decode cX2_leftOf 20 = .ok (.ifCond .eq 54, 3) := by decide +kernel
theorem dX2_leftOf_23 : decode cX2_leftOf 23 = .ok (.aload_n 0, 1) := by decide +kernel
theorem dX2_leftOf_24 : decode cX2_leftOf 24 = .ok (.getfield 15, 3) := by decide +kernel
theorem dX2_leftOf_27 : decode cX2_leftOf 27 = .ok (.iload 4, 2) := by decide +kernel
theorem dX2_leftOf_29 : decode cX2_leftOf 29 = .ok (.iaload, 1) := by decide +kernel
theorem dX2_leftOf_30 : decode cX2_leftOf 30 = .ok (.aload_n 0, 1) := by decide +kernel
theorem dX2_leftOf_31 : decode cX2_leftOf 31 = .ok (.getfield 15, 3) := by decide +kernel
theorem dX2_leftOf_34 : decode cX2_leftOf 34 = .ok (.iload_n 1, 1) := by decide +kernel
theorem dX2_leftOf_35 : decode cX2_leftOf 35 = .ok (.iaload, 1) := by decide +kernel
theorem dX2_leftOf_36 : decode cX2_leftOf 36 = .ok (.if_icmp .lt 35, 3) := by decide +kernel
theorem dX2_leftOf_39 : decode cX2_leftOf 39 = .ok (.aload_n 0, 1) := by decide +kernel
theorem dX2_leftOf_40 : decode cX2_leftOf 40 = .ok (.getfield 15, 3) := by decide +kernel
theorem dX2_leftOf_43 : decode cX2_leftOf 43 = .ok (.iload 4, 2) := by decide +kernel
theorem dX2_leftOf_45 : decode cX2_leftOf 45 = .ok (.iaload, 1) := by decide +kernel
theorem dX2_leftOf_46 : decode cX2_leftOf 46 = .ok (.aload_n 0, 1) := by decide +kernel
theorem dX2_leftOf_47 : decode cX2_leftOf 47 = .ok (.getfield 15, 3) := by decide +kernel
theorem dX2_leftOf_50 : decode cX2_leftOf 50 = .ok (.iload_n 1, 1) := by decide +kernel
theorem dX2_leftOf_51 : decode cX2_leftOf 51 = .ok (.iaload, 1) := by decide +kernel
theorem dX2_leftOf_52 : decode cX2_leftOf 52 = .ok (.if_icmp .ne 22, 3) := by decide +kernel
theorem dX2_leftOf_55 : decode cX2_leftOf 55 = .ok (.aload_n 0, 1) := by decide +kernel
theorem dX2_leftOf_56 : decode cX2_leftOf 56 = .ok (.getfield 9, 3) := by decide +kernel
theorem dX2_leftOf_59 : decode cX2_leftOf 59 = .ok (.iload 4, 2) := by decide +kernel
theorem dX2_leftOf_61 : decode cX2_leftOf 61 = .ok (.iaload, 1) := by decide +kernel
theorem dX2_leftOf_62 : decode cX2_leftOf 62 = .ok (.aload_n 0, 1) := by decide +kernel
theorem dX2_leftOf_63 : decode cX2_leftOf 63 = .ok (.getfield 9, 3) := by decide +kernel
theorem dX2_leftOf_66 : decode cX2_leftOf 66 = .ok (.iload_n 1, 1) := by decide +kernel
theorem dX2_leftOf_67 : decode cX2_leftOf 67 = .ok (.iaload, 1) := by decide +kernel
theorem dX2_leftOf_68 : decode cX2_leftOf 68 = .ok (.if_icmp .ge 6, 3) := by decide +kernel
theorem dX2_leftOf_71 : decode cX2_leftOf 71 = .ok (.iinc 3 1, 3) := by decide +kernel
theorem dX2_leftOf_74 : decode cX2_leftOf 74 = .ok (.iinc 4 1, 3) := by decide +kernel
theorem dX2_leftOf_77 : decode cX2_leftOf 77 = .ok (.goto (-72), 3) := by decide +kernel
theorem dX2_leftOf_80 : decode cX2_leftOf 80 = .ok (.iload_n 3, 1) := by decide +kernel
theorem dX2_leftOf_81 : decode cX2_leftOf 81 = .ok (.ireturn, 1) := by decide +kernel
set_option maxRecDepth 20000 in
theorem ggX3_init_X0_init : GoodIn wsX3_init wsX0_init := goodIn_r _ [19, 20, 2, 3, 4, 21, 22, 23, 24, 25, 26, 27, 28, 44, 45, 46, 47, 48, 49, 50, 51, 52, 53, 54, 55, 56, 57] (by decide +kernel) (by decide +kernel)
set_option maxRecDepth 20000 in
theorem gX3_init_X0_init_n27 : GoodIn wsX3_init (wsX0_init) := ggX3_init_X0_init
set_option maxRecDepth 20000 in
theorem ggX3_init_X1_init : GoodIn wsX3_init wsX1_init := goodIn_r _ [30, 31, 2, 3, 4, 32, 33, 34, 58, 59, 60, 61, 62, 63, 64, 65, 66, 67] (by decide +kernel) (by decide +kernel)
set_option maxRecDepth 20000 in
theorem gX3_init_X1_init_n34 : GoodIn wsX3_init (wsX1_init) := ggX3_init_X1_init
theorem dX3_init_0 : decode cX3_init 0 = .ok (.aload_n 0, 1) := by decide +kernel
theorem dX3_init_1 : decode cX3_init 1 = .ok (.invokespecial 1, 3) := by decide +kernel
theorem dX3_init_4 : decode cX3_init 4 = .ok (.aload_n 0, 1) := by decide +kernel
theorem dX3_init_5 : decode cX3_init 5 = .ok (.bipush 16, 2) := by decide +kernel
theorem dX3_init_7 : decode cX3_init 7 = .ok (.newarray .int, 2) := by decide +kernel
theorem dX3_init_9 : decode cX3_init 9 = .ok (.putfield 9, 3) := by decide +kernel
theorem dX3_init_12 : decode cX3_init 12 = .ok (.aload_n 0, 1) := by decide +kernel
theorem dX3_init_13 : decode cX3_init 13 = .ok (.bipush 16, 2) := by decide +kernel
theorem dX3_init_15 : decode cX3_init 15 = .ok (.newarray .int, 2) := by decide +kernel
theorem dX3_init_17 : decode cX3_init 17 = .ok (.putfield 13, 3) := by decide +kernel
theorem dX3_init_20 : decode cX3_init 20 = .ok (.aload_n 0, 1) := by decide +kernel
theorem dX3_init_21 : decode cX3_init 21 = .ok (.bipush 14, 2) := by decide +kernel
theorem dX3_init_23 : decode cX3_init 23 = .ok (.anewarray 16, 3) := by decide +kernel
theorem dX3_init_26 : decode cX3_init 26 = .ok (.putfield 18, 3) := by decide +kernel
theorem dX3_init_29 : decode cX3_init 29 = .ok (.aload_n 0, 1) := by decide +kernel
theorem dX3_init_30 : decode cX3_init 30 = .ok (.iconst 4, 1) := by decide +kernel
theorem dX3_init_31 : decode cX3_init 31 = .ok (.newarray .int, 2) := by decide +kernel
theorem dX3_init_33 : decode cX3_init 33 = .ok (.dup, 1) := by decide +kernel
theorem dX3_init_34 : decode cX3_init 34 = .ok (.iconst 0, 1) := by decide +kernel
theorem dX3_init_35 : decode cX3_init 35 = .ok (.bipush 10, 2) := by decide +kernel
theorem dX3_init_37 : decode cX3_init 37 = .ok (.iastore, 1) := by decide +kernel
theorem dX3_init_38 : decode cX3_init 38 = .ok (.dup, 1) := by decide +kernel
theorem dX3_init_39 : decode cX3_init 39 = .ok (.iconst 1, 1) := by decide +kernel
theorem dX3_init_40 : decode cX3_init 40 = .ok (.iconst 0, 1) := by decide +kernel
theorem dX3_init_41 : decode cX3_init 41 = .ok (.iastore, 1) := by decide +kernel
theorem dX3_init_42 : decode cX3_init 42 = .ok (.dup, 1) := by decide +kernel
theorem dX3_init_43 : decode cX3_init 43 = .ok (.iconst 2, 1) := by decide +kernel
theorem dX3_init_44 : decode cX3_init 44 = .ok (.bipush 14, 2) := by decide +kernel
theorem dX3_init_46 : decode cX3_init 46 = .ok (.iastore, 1) := by decide +kernel
theorem dX3_init_47 : decode cX3_init 47 = .ok (.dup, 1) := by decide +kernel
theorem dX3_init_48 : decode cX3_init 48 = .ok (.iconst 3, 1) := by decide +kernel
theorem dX3_init_49 : decode cX3_init 49 = .ok (.bipush 14, 2) := by decide +kernel
theorem dX3_init_51 : decode cX3_init 51 = .ok (.iastore, 1) := by decide +kernel
theorem dX3_init_52 : decode cX3_init 52 = .ok (.putfield 22, 3) := by decide +kernel
theorem dX3_init_55 : decode cX3_init 55 = .ok (.aload_n 0, 1) := by decide +kernel
theorem dX3_init_56 : decode cX3_init 56 = .ok (.new 25, 3) := by decide +kernel
theorem dX3_init_59 : decode cX3_init 59 = .ok (.dup, 1) := by decide +kernel
theorem dX3_init_60 : decode cX3_init 60 = .ok (.invokespecial 27, 3) := by decide +kernel
theorem dX3_init_63 : decode cX3_init 63 = .ok (.putfield 28, 3) := by decide +kernel
theorem dX3_init_66 : decode cX3_init 66 = .ok (.aload_n 0, 1) := by decide +kernel
theorem dX3_init_67 : decode cX3_init 67 = .ok (.new 32, 3) := by decide +kernel
theorem dX3_init_70 : decode cX3_init 70 = .ok (.dup, 1) := by decide +kernel
theorem dX3_init_71 : decode cX3_init 71 = .ok (.invokespecial 34, 3) := by decide +kernel
theorem dX3_init_74 : decode cX3_init 74 = .ok (.putfield 35, 3) := by decide +kernel
theorem dX3_init_77 : decode cX3_init 77 = .ok (.return_, 1) := by decide +kernel
set_option maxRecDepth 20000 in
theorem ggX3_child_X3_within : GoodIn wsX3_child wsX3_within := goodIn_r _ [7] (by decide +kernel) (by decide +kernel)
set_option maxRecDepth 20000 in
theorem gX3_child_X3_within : GoodIn wsX3_child (va_wsS RX3 39 yX3_within wsX3_within) := goodIn_app (goodIn_of _ (by decide +kernel)) ggX3_child_X3_within
theorem dX3_child_0 : decode cX3_child 0 = .ok (.iload_n 1, 1) := by decide +kernel
theorem dX3_child_1 : decode cX3_child 1 = .ok (.iconst 0, 1) := by decide +kernel
theorem dX3_child_2 : decode cX3_child 2 = .ok (.bipush 9, 2) := by decide +kernel
theorem dX3_child_4 : decode cX3_child 4 = .ok (.invokestatic 39, 3) := by decide +kernel
theorem dX3_child_7 : decode cX3_child 7 = .ok (.ifCond .eq 12, 3) := by decide +kernel
theorem dX3_child_10 : decode cX3_child 10 = .ok (.aload_n 0, 1) := by decide +kernel
theorem dX3_child_11 : decode cX3_child 11 = .ok (.getfield 43, 3) := by decide +kernel
theorem dX3_child_14 : decode cX3_child 14 = .ok (.bipush 16, 2) := by decide +kernel
theorem dX3_child_16 : decode cX3_child 16 = .ok (.if_icmp .lt 5, 3) := by decide +kernel
theorem dX3_child_19 : decode cX3_child 19 = .ok (.iconst (-1), 1) := by decide +kernel
theorem dX3_child_20 : decode cX3_child 20 = .ok (.ireturn, 1) := by decide +kernel
theorem dX3_child_21 : decode cX3_child 21 = .ok (.aload_n 0, 1) := by decide +kernel
theorem dX3_child_22 : decode cX3_child 22 = .ok (.getfield 9, 3) := by decide +kernel
theorem dX3_child_25 : decode cX3_child 25 = .ok (.aload_n 0, 1) := by decide +kernel
theorem dX3_child_26 : decode cX3_child 26 = .ok (.getfield 43, 3) := by decide +kernel
theorem dX3_child_29 : decode cX3_child 29 = .ok (.iload_n 1, 1) := by decide +kernel
theorem dX3_child_30 : decode cX3_child 30 = .ok (.iastore, 1) := by decide +kernel
theorem dX3_child_31 : decode cX3_child 31 = .ok (.aload_n 0, 1) := by decide +kernel
theorem dX3_child_32 : decode cX3_child 32 = .ok (.getfield 13, 3) := by decide +kernel
theorem dX3_child_35 : decode cX3_child 35 = .ok (.aload_n 0, 1) := by decide +kernel
theorem dX3_child_36 : decode cX3_child 36 = .ok (.getfield 43, 3) := by decide +kernel
theorem dX3_child_39 : decode cX3_child 39 = .ok (.bipush 7, 2) := by decide +kernel
theorem dX3_child_41 : decode cX3_child 41 = .ok (.iastore, 1) := by decide +kernel
theorem dX3_child_42 : decode cX3_child 42 = .ok (.aload_n 0, 1) := by decide +kernel
theorem dX3_child_43 : decode cX3_child 43 = .ok (.dup, 1) := by decide +kernel
theorem dX3_child_44 : decode cX3_child 44 = .ok (.getfield 43, 3) := by decide +kernel
theorem dX3_child_47 : decode cX3_child 47 = .ok (.dup_x1, 1) := by decide +kernel
theorem dX3_child_48 : decode cX3_child 48 = .ok (.iconst 1, 1) := by decide +kernel
theorem dX3_child_49 : decode cX3_child 49 = .ok (.iadd, 1) := by decide +kernel
theorem dX3_child_50 : decode cX3_child 50 = .ok (.putfield 43, 3) := by decide +kernel
theorem dX3_child_53 : decode cX3_child 53 = .ok (.ireturn, 1) := by decide +kernel
set_option maxRecDepth 20000 in
theorem ggX3_consent_X3_isChild : GoodIn wsX3_consent wsX3_isChild := goodIn_r _ [7, 8, 46, 47, 48, 49, 50, 51, 52, 53, 54] (by decide +kernel) (by decide +kernel)
set_option maxRecDepth 20000 in
theorem gX3_consent_X3_isChild : GoodIn wsX3_consent (wsV RX3 47 RX3 yX3_isChild wsX3_isChild) := goodIn_app (goodIn_of _ (by decide +kernel)) ggX3_consent_X3_isChild
set_option maxRecDepth 20000 in
theorem ggX3_consent_X3_within : GoodIn wsX3_consent wsX3_within := goodIn_r _ [11] (by decide +kernel) (by decide +kernel)
set_option maxRecDepth 20000 in
theorem gX3_consent_X3_within : GoodIn wsX3_consent (va_wsS RX3 39 yX3_within wsX3_within) := goodIn_app (goodIn_of _ (by decide +kernel)) ggX3_consent_X3_within
set_option maxRecDepth 20000 in
theorem ggX3_consent_X3_pictureAt : GoodIn wsX3_consent wsX3_pictureAt := goodIn_r _ [15, 2, 16, 46, 47, 48, 49, 50, 51, 52, 53, 54] (by decide +kernel) (by decide +kernel)
set_option maxRecDepth 20000 in
theorem gX3_consent_X3_pictureAt : GoodIn wsX3_consent (wsV RX3 54 RX3 yX3_pictureAt wsX3_pictureAt) := goodIn_app (goodIn_of _ (by decide +kernel)) ggX3_consent_X3_pictureAt
set_option maxRecDepth 20000 in
theorem ggX3_consent_X2_look : GoodIn wsX3_consent wsX2_look := goodIn_r _ [21, 22, 23, 24, 25, 26, 27, 28, 29, 20, 30, 31, 32, 33, 34, 35, 36, 37, 38, 39, 40, 41, 42, 43, 44, 45, 55, 56, 57, 58, 59, 60, 61, 62, 63, 64, 65] (by decide +kernel) (by decide +kernel)
set_option maxRecDepth 20000 in
theorem gX3_consent_X2_look : GoodIn wsX3_consent (wsV RX3 58 RX2 yX2_look wsX2_look) := goodIn_app (goodIn_of _ (by decide +kernel)) ggX3_consent_X2_look
theorem dX3_consent_0 : decode cX3_consent 0 = .ok (.aload_n 0, 1) := by decide +kernel
theorem dX3_consent_1 : decode cX3_consent 1 = .ok (.iload_n 1, 1) := by decide +kernel
theorem dX3_consent_2 : decode cX3_consent 2 = .ok (.invokevirtual 47, 3) := by decide +kernel
theorem dX3_consent_5 : decode cX3_consent 5 = .ok (.ifCond .eq 13, 3) := by decide +kernel
theorem dX3_consent_8 : decode cX3_consent 8 = .ok (.iload_n 2, 1) := by decide +kernel
theorem dX3_consent_9 : decode cX3_consent 9 = .ok (.iconst 0, 1) := by decide +kernel
theorem dX3_consent_10 : decode cX3_consent 10 = .ok (.bipush 7, 2) := by decide +kernel
theorem dX3_consent_12 : decode cX3_consent 12 = .ok (.invokestatic 39, 3) := by decide +kernel
theorem dX3_consent_15 : decode cX3_consent 15 = .ok (.ifCond .ne 5, 3) := by decide +kernel
theorem dX3_consent_18 : decode cX3_consent 18 = .ok (.iconst (-1), 1) := by decide +kernel
theorem dX3_consent_19 : decode cX3_consent 19 = .ok (.ireturn, 1) := by decide +kernel
theorem dX3_consent_20 : decode cX3_consent 20 = .ok (.aload_n 0, 1) := by decide +kernel
theorem dX3_consent_21 : decode cX3_consent 21 = .ok (.getfield 13, 3) := by decide +kernel
theorem dX3_consent_24 : decode cX3_consent 24 = .ok (.iload_n 1, 1) := by decide +kernel
theorem dX3_consent_25 : decode cX3_consent 25 = .ok (.iaload, 1) := by decide +kernel
theorem dX3_consent_26 : decode cX3_consent 26 = .ok (.istore_n 3, 1) := by decide +kernel
theorem dX3_consent_27 : decode cX3_consent 27 = .ok (.aload_n 0, 1) := by decide +kernel
theorem dX3_consent_28 : decode cX3_consent 28 = .ok (.getfield 13, 3) := by decide +kernel
theorem dX3_consent_31 : decode cX3_consent 31 = .ok (.iload_n 1, 1) := by decide +kernel
theorem dX3_consent_32 : decode cX3_consent 32 = .ok (.iload_n 2, 1) := by decide +kernel
theorem dX3_consent_33 : decode cX3_consent 33 = .ok (.iastore, 1) := by decide +kernel
theorem dX3_consent_34 : decode cX3_consent 34 = .ok (.iconst 0, 1) := by decide +kernel
theorem dX3_consent_35 : decode cX3_consent 35 = .ok (.istore 4, 2) := by decide +kernel
theorem dX3_consent_37 : decode cX3_consent 37 = .ok (.iload 4, 2) := by decide +kernel
theorem dX3_consent_39 : decode cX3_consent 39 = .ok (.aload_n 0, 1) := by decide +kernel
theorem dX3_consent_40 : decode cX3_consent 40 = .ok (.getfield 51, 3) := by decide +kernel
theorem dX3_consent_43 : decode cX3_consent 43 = .ok (.if_icmp .ge 31, 3) := by decide +kernel
theorem dX3_consent_46 : decode cX3_consent 46 = .ok (.aload_n 0, 1) := by decide +kernel
theorem dX3_consent_47 : decode cX3_consent 47 = .ok (.iload 4, 2) := by decide +kernel
theorem dX3_consent_49 : decode cX3_consent 49 = .ok (.invokevirtual 54, 3) := by decide +kernel
theorem dX3_consent_52 : decode cX3_consent 52 = .ok (.astore 5, 2) := by decide +kernel
theorem dX3_consent_54 : decode cX3_consent 54 = .ok (.aload 5, 2) := by decide +kernel
theorem dX3_consent_56 : decode cX3_consent 56 = .ok (.ifnull 12, 3) := by decide +kernel
theorem dX3_consent_59 : decode cX3_consent 59 = .ok (.aload 5, 2) := by decide +kernel
theorem dX3_consent_61 : decode cX3_consent 61 = .ok (.aload_n 0, 1) := by decide +kernel
theorem dX3_consent_62 : decode cX3_consent 62 = .ok (.getfield 13, 3) := by decide +kernel
theorem dX3_consent_65 : decode cX3_consent 65 = .ok (.invokevirtual 58, 3) := by decide +kernel
theorem dX3_consent_68 : decode cX3_consent 68 = .ok (.iinc 4 1, 3) := by decide +kernel
theorem dX3_consent_71 : decode cX3_consent 71 = .ok (.goto (-34), 3) := by decide +kernel
theorem dX3_consent_74 : decode cX3_consent 74 = .ok (.iload_n 3, 1) := by decide +kernel
theorem dX3_consent_75 : decode cX3_consent 75 = .ok (.ireturn, 1) := by decide +kernel
set_option maxRecDepth 20000 in
theorem ggX3_picture_X3_within : GoodIn wsX3_picture wsX3_within := goodIn_r _ [10] (by decide +kernel) (by decide +kernel)
set_option maxRecDepth 20000 in
theorem gX3_picture_X3_within : GoodIn wsX3_picture (va_wsS RX3 39 yX3_within wsX3_within) := goodIn_app (goodIn_of _ (by decide +kernel)) ggX3_picture_X3_within
set_option maxRecDepth 20000 in
theorem ggX3_picture_X2_init : GoodIn wsX3_picture wsX2_init := goodIn_r _ [13, 14, 15, 16, 17, 18, 19, 20, 21, 22, 23, 24, 25, 42, 43, 44, 45, 46, 47, 48, 49, 50, 51, 52] (by decide +kernel) (by decide +kernel)
set_option maxRecDepth 20000 in
theorem gX3_picture_X2_init : GoodIn wsX3_picture (wsX2_init) := ggX3_picture_X2_init
set_option maxRecDepth 20000 in
theorem ggX3_picture_X1_hearOf : GoodIn wsX3_picture wsX1_hearOf := goodIn_r _ [30, 31, 32, 53, 54, 55, 56, 57, 58, 59, 60, 61, 62] (by decide +kernel) (by decide +kernel)
set_option maxRecDepth 20000 in
theorem gX3_picture_X1_hearOf : GoodIn wsX3_picture (wsV RX3 65 RX1 yX1_hearOf wsX1_hearOf) := goodIn_app (goodIn_of _ (by decide +kernel)) ggX3_picture_X1_hearOf
theorem dX3_picture_0 : decode cX3_picture 0 = .ok (.iload_n 1, 1) := by decide +kernel
theorem dX3_picture_1 : decode cX3_picture 1 = .ok (.iconst 0, 1) := by decide +kernel
theorem dX3_picture_2 : decode cX3_picture 2 = .ok (.iconst 2, 1) := by decide +kernel
theorem dX3_picture_3 : decode cX3_picture 3 = .ok (.invokestatic 39, 3) := by decide +kernel
theorem dX3_picture_6 : decode cX3_picture 6 = .ok (.ifCond .eq 32, 3) := by decide +kernel
theorem dX3_picture_9 : decode cX3_picture 9 = .ok (.iload_n 2, 1) := by decide +kernel
theorem dX3_picture_10 : decode cX3_picture 10 = .ok (.iconst 0, 1) := by decide +kernel
theorem dX3_picture_11 : decode cX3_picture 11 = .ok (.bipush 100, 2) := by decide +kernel
theorem dX3_picture_13 : decode cX3_picture 13 = .ok (.invokestatic 39, 3) := by decide +kernel
theorem dX3_picture_16 : decode cX3_picture 16 = .ok (.ifCond .eq 22, 3) := by decide +kernel
theorem dX3_picture_19 : decode cX3_picture 19 = .ok (.iload_n 3, 1) := by decide +kernel
theorem dX3_picture_20 : decode cX3_picture 20 = .ok (.iconst 1, 1) := by decide +kernel
theorem dX3_picture_21 : decode cX3_picture 21 = .ok (.bipush 12, 2) := by decide +kernel
theorem dX3_picture_23 : decode cX3_picture 23 = .ok (.invokestatic 39, 3) := by decide +kernel
theorem dX3_picture_26 : decode cX3_picture 26 = .ok (.ifCond .eq 12, 3) := by decide +kernel
theorem dX3_picture_29 : decode cX3_picture 29 = .ok (.aload_n 0, 1) := by decide +kernel
theorem dX3_picture_30 : decode cX3_picture 30 = .ok (.getfield 51, 3) := by decide +kernel
theorem dX3_picture_33 : decode cX3_picture 33 = .ok (.bipush 14, 2) := by decide +kernel
theorem dX3_picture_35 : decode cX3_picture 35 = .ok (.if_icmp .lt 5, 3) := by decide +kernel
theorem dX3_picture_38 : decode cX3_picture 38 = .ok (.iconst (-1), 1) := by decide +kernel
theorem dX3_picture_39 : decode cX3_picture 39 = .ok (.ireturn, 1) := by decide +kernel
theorem dX3_picture_40 : decode cX3_picture 40 = .ok (.aload_n 0, 1) := by decide +kernel
theorem dX3_picture_41 : decode cX3_picture 41 = .ok (.getfield 18, 3) := by decide +kernel
theorem dX3_picture_44 : decode cX3_picture 44 = .ok (.aload_n 0, 1) := by decide +kernel
theorem dX3_picture_45 : decode cX3_picture 45 = .ok (.getfield 51, 3) := by decide +kernel
theorem dX3_picture_48 : decode cX3_picture 48 = .ok (.new 16, 3) := by decide +kernel
theorem dX3_picture_51 : decode cX3_picture 51 = .ok (.dup, 1) := by decide +kernel
theorem dX3_picture_52 : decode cX3_picture 52 = .ok (.iload_n 1, 1) := by decide +kernel
theorem dX3_picture_53 : decode cX3_picture 53 = .ok (.iload_n 2, 1) := by decide +kernel
theorem dX3_picture_54 : decode cX3_picture 54 = .ok (.iload_n 3, 1) := by decide +kernel
theorem dX3_picture_55 : decode cX3_picture 55 = .ok (.invokespecial 62, 3) := by decide +kernel
theorem dX3_picture_58 : decode cX3_picture 58 = .ok (.aastore, 1) := by decide +kernel
theorem dX3_picture_59 : decode cX3_picture 59 = .ok (.aload_n 0, 1) := by decide +kernel
theorem dX3_picture_60 : decode cX3_picture 60 = .ok (.getfield 35, 3) := by decide +kernel
theorem dX3_picture_63 : decode cX3_picture 63 = .ok (.iload_n 3, 1) := by decide +kernel
theorem dX3_picture_64 : decode cX3_picture 64 = .ok (.invokevirtual 65, 3) := by decide +kernel
theorem dX3_picture_67 : decode cX3_picture 67 = .ok (.aload_n 0, 1) := by decide +kernel
theorem dX3_picture_68 : decode cX3_picture 68 = .ok (.dup, 1) := by decide +kernel
theorem dX3_picture_69 : decode cX3_picture 69 = .ok (.getfield 51, 3) := by decide +kernel
theorem dX3_picture_72 : decode cX3_picture 72 = .ok (.dup_x1, 1) := by decide +kernel
theorem dX3_picture_73 : decode cX3_picture 73 = .ok (.iconst 1, 1) := by decide +kernel
theorem dX3_picture_74 : decode cX3_picture 74 = .ok (.iadd, 1) := by decide +kernel
theorem dX3_picture_75 : decode cX3_picture 75 = .ok (.putfield 51, 3) := by decide +kernel
theorem dX3_picture_78 : decode cX3_picture 78 = .ok (.ireturn, 1) := by decide +kernel
set_option maxRecDepth 20000 in
theorem ggX3_face_X3_pictureAt : GoodIn wsX3_face wsX3_pictureAt := goodIn_r _ [6, 7, 8, 54, 55, 56, 57, 58, 59, 60, 61, 62] (by decide +kernel) (by decide +kernel)
set_option maxRecDepth 20000 in
theorem gX3_face_X3_pictureAt : GoodIn wsX3_face (wsV RX3 54 RX3 yX3_pictureAt wsX3_pictureAt) := goodIn_app (goodIn_of _ (by decide +kernel)) ggX3_face_X3_pictureAt
set_option maxRecDepth 20000 in
theorem ggX3_face_X3_isChild : GoodIn wsX3_face wsX3_isChild := goodIn_r _ [12, 13, 54, 55, 56, 57, 58, 59, 60, 61, 62] (by decide +kernel) (by decide +kernel)
set_option maxRecDepth 20000 in
theorem gX3_face_X3_isChild : GoodIn wsX3_face (wsV RX3 47 RX3 yX3_isChild wsX3_isChild) := goodIn_app (goodIn_of _ (by decide +kernel)) ggX3_face_X3_isChild
set_option maxRecDepth 20000 in
theorem ggX3_face_X3_within : GoodIn wsX3_face wsX3_within := goodIn_r _ [16] (by decide +kernel) (by decide +kernel)
set_option maxRecDepth 20000 in
theorem gX3_face_X3_within : GoodIn wsX3_face (va_wsS RX3 39 yX3_within wsX3_within) := goodIn_app (goodIn_of _ (by decide +kernel)) ggX3_face_X3_within
set_option maxRecDepth 20000 in
theorem ggX3_face_X2_canHold : GoodIn wsX3_face wsX2_canHold := goodIn_r _ [21, 22, 23, 63, 64, 65, 66, 67, 68, 69, 70, 71, 72, 73] (by decide +kernel) (by decide +kernel)
set_option maxRecDepth 20000 in
theorem gX3_face_X2_canHold : GoodIn wsX3_face (wsV RX3 69 RX2 yX2_canHold wsX2_canHold) := goodIn_app (goodIn_of _ (by decide +kernel)) ggX3_face_X2_canHold
set_option maxRecDepth 20000 in
theorem ggX3_face_X2_add : GoodIn wsX3_face wsX2_add := goodIn_r _ [27, 22, 23, 28, 29, 30, 63, 64, 65, 66, 67, 68, 69, 70, 71, 72, 73] (by decide +kernel) (by decide +kernel)
set_option maxRecDepth 20000 in
theorem gX3_face_X2_add : GoodIn wsX3_face (wsV RX3 72 RX2 yX2_add wsX2_add) := goodIn_app (goodIn_of _ (by decide +kernel)) ggX3_face_X2_add
set_option maxRecDepth 20000 in
theorem ggX3_face_X2_look : GoodIn wsX3_face wsX2_look := goodIn_r _ [34, 35, 22, 23, 36, 37, 38, 39, 40, 20, 41, 42, 28, 30, 43, 44, 45, 46, 29, 47, 48, 49, 50, 51, 52, 53, 63, 64, 65, 66, 67, 68, 69, 70, 71, 72, 73] (by decide +kernel) (by decide +kernel)
set_option maxRecDepth 20000 in
theorem gX3_face_X2_look : GoodIn wsX3_face (wsV RX3 58 RX2 yX2_look wsX2_look) := goodIn_app (goodIn_of _ (by decide +kernel)) ggX3_face_X2_look
theorem dX3_face_0 : decode cX3_face 0 = .ok (.aload_n 0, 1) := by decide +kernel
theorem dX3_face_1 : decode cX3_face 1 = .ok (.iload_n 1, 1) := by decide +kernel
theorem dX3_face_2 : decode cX3_face 2 = .ok (.invokevirtual 54, 3) := by decide +kernel
theorem dX3_face_5 : decode cX3_face 5 = .ok (.astore 6, 2) := by decide +kernel
theorem dX3_face_7 : decode cX3_face 7 = .ok (.aload 6, 2) := by decide +kernel
theorem dX3_face_9 : decode cX3_face 9 = .ok (.ifnull 52, 3) := by decide +kernel
theorem dX3_face_12 : decode cX3_face 12 = .ok (.aload_n 0, 1) := by decide +kernel
theorem dX3_face_13 : decode cX3_face 13 = .ok (.iload_n 2, 1) := by decide +kernel
theorem dX3_face_14 : decode cX3_face 14 = .ok (.invokevirtual 47, 3) := by decide +kernel
theorem dX3_face_17 : decode cX3_face 17 = .ok (.ifCond .eq 44, 3) := by decide +kernel
theorem dX3_face_20 : decode cX3_face 20 = .ok (.iload_n 3, 1) := by decide +kernel
theorem dX3_face_21 : decode cX3_face 21 = .ok (.iconst 0, 1) := by decide +kernel
theorem dX3_face_22 : decode cX3_face 22 = .ok (.bipush 99, 2) := by decide +kernel
theorem dX3_face_24 : decode cX3_face 24 = .ok (.invokestatic 39, 3) := by decide +kernel
theorem dX3_face_27 : decode cX3_face 27 = .ok (.ifCond .eq 34, 3) := by decide +kernel
theorem dX3_face_30 : decode cX3_face 30 = .ok (.iload 4, 2) := by decide +kernel
theorem dX3_face_32 : decode cX3_face 32 = .ok (.iconst 0, 1) := by decide +kernel
theorem dX3_face_33 : decode cX3_face 33 = .ok (.bipush 99, 2) := by decide +kernel
theorem dX3_face_35 : decode cX3_face 35 = .ok (.invokestatic 39, 3) := by decide +kernel
theorem dX3_face_38 : decode cX3_face 38 = .ok (.ifCond .eq 23, 3) := by decide +kernel
theorem dX3_face_41 : decode cX3_face 41 = .ok (.iload 5, 2) := by decide +kernel
theorem dX3_face_43 : decode cX3_face 43 = .ok (.iconst 0, 1) := by decide +kernel
theorem dX3_face_44 : decode cX3_face 44 = .ok (.bipush 20, 2) := by decide +kernel
theorem dX3_face_46 : decode cX3_face 46 = .ok (.invokestatic 39, 3) := by decide +kernel
theorem dX3_face_49 : decode cX3_face 49 = .ok (.ifCond .eq 12, 3) := by decide +kernel
theorem dX3_face_52 : decode cX3_face 52 = .ok (.aload 6, 2) := by decide +kernel
theorem dX3_face_54 : decode cX3_face 54 = .ok (.iload_n 2, 1) := by decide +kernel
theorem dX3_face_55 : decode cX3_face 55 = .ok (.invokevirtual 69, 3) := by decide +kernel
theorem dX3_face_58 : decode cX3_face 58 = .ok (.ifCond .ne 5, 3) := by decide +kernel
theorem dX3_face_61 : decode cX3_face 61 = .ok (.iconst (-1), 1) := by decide +kernel
theorem dX3_face_62 : decode cX3_face 62 = .ok (.ireturn, 1) := by decide +kernel
theorem dX3_face_63 : decode cX3_face 63 = .ok (.aload 6, 2) := by decide +kernel
theorem dX3_face_65 : decode cX3_face 65 = .ok (.iload_n 2, 1) := by decide +kernel
theorem dX3_face_66 : decode cX3_face 66 = .ok (.iload_n 3, 1) := by decide +kernel
theorem dX3_face_67 : decode cX3_face 67 = .ok (.iload 4, 2) := by decide +kernel
theorem dX3_face_69 : decode cX3_face 69 = .ok (.iload 5, 2) := by decide +kernel
theorem dX3_face_71 : decode cX3_face 71 = .ok (.invokevirtual 72, 3) := by decide +kernel
theorem dX3_face_74 : decode cX3_face 74 = .ok (.aload 6, 2) := by decide +kernel
theorem dX3_face_76 : decode cX3_face 76 = .ok (.aload_n 0, 1) := by decide +kernel
theorem dX3_face_77 : decode cX3_face 77 = .ok (.getfield 13, 3) := by decide +kernel
theorem dX3_face_80 : decode cX3_face 80 = .ok (.invokevirtual 58, 3) := by decide +kernel
theorem dX3_face_83 : decode cX3_face 83 = .ok (.aload 6, 2) := by decide +kernel
theorem dX3_face_85 : decode cX3_face 85 = .ok (.getfield 76, 3) := by decide +kernel
theorem dX3_face_88 : decode cX3_face 88 = .ok (.ireturn, 1) := by decide +kernel
set_option maxRecDepth 20000 in
theorem ggX3_set_X3_within : GoodIn wsX3_set wsX3_within := goodIn_r _ [7] (by decide +kernel) (by decide +kernel)
set_option maxRecDepth 20000 in
theorem gX3_set_X3_within : GoodIn wsX3_set (va_wsS RX3 39 yX3_within wsX3_within) := goodIn_app (goodIn_of _ (by decide +kernel)) ggX3_set_X3_within
theorem dX3_set_0 : decode cX3_set 0 = .ok (.iload_n 1, 1) := by decide +kernel
theorem dX3_set_1 : decode cX3_set 1 = .ok (.iconst 0, 1) := by decide +kernel
theorem dX3_set_2 : decode cX3_set 2 = .ok (.iconst 3, 1) := by decide +kernel
theorem dX3_set_3 : decode cX3_set 3 = .ok (.invokestatic 39, 3) := by decide +kernel
theorem dX3_set_6 : decode cX3_set 6 = .ok (.ifCond .eq 20, 3) := by decide +kernel
theorem dX3_set_9 : decode cX3_set 9 = .ok (.iload_n 2, 1) := by decide +kernel
theorem dX3_set_10 : decode cX3_set 10 = .ok (.getstatic 79, 3) := by decide +kernel
theorem dX3_set_13 : decode cX3_set 13 = .ok (.iload_n 1, 1) := by decide +kernel
theorem dX3_set_14 : decode cX3_set 14 = .ok (.iaload, 1) := by decide +kernel
theorem dX3_set_15 : decode cX3_set 15 = .ok (.getstatic 82, 3) := by decide +kernel
theorem dX3_set_18 : decode cX3_set 18 = .ok (.iload_n 1, 1) := by decide +kernel
theorem dX3_set_19 : decode cX3_set 19 = .ok (.iaload, 1) := by decide +kernel
theorem dX3_set_20 : decode cX3_set 20 = .ok (.invokestatic 39, 3) := by decide +kernel
theorem dX3_set_23 : decode cX3_set 23 = .ok (.ifCond .ne 5, 3) := by decide +kernel
theorem dX3_set_26 : decode cX3_set 26 = .ok (.iconst (-1), 1) := by decide +kernel
theorem dX3_set_27 : decode cX3_set 27 = .ok (.ireturn, 1) := by decide +kernel
theorem dX3_set_28 : decode cX3_set 28 = .ok (.aload_n 0, 1) := by decide +kernel
theorem dX3_set_29 : decode cX3_set 29 = .ok (.getfield 22, 3) := by decide +kernel
theorem dX3_set_32 : decode cX3_set 32 = .ok (.iload_n 1, 1) := by decide +kernel
theorem dX3_set_33 : decode cX3_set 33 = .ok (.iaload, 1) := by decide +kernel
theorem dX3_set_34 : decode cX3_set 34 = .ok (.istore_n 3, 1) := by decide +kernel
theorem dX3_set_35 : decode cX3_set 35 = .ok (.aload_n 0, 1) := by decide +kernel
theorem dX3_set_36 : decode cX3_set 36 = .ok (.getfield 22, 3) := by decide +kernel
theorem dX3_set_39 : decode cX3_set 39 = .ok (.iload_n 1, 1) := by decide +kernel
theorem dX3_set_40 : decode cX3_set 40 = .ok (.iload_n 2, 1) := by decide +kernel
theorem dX3_set_41 : decode cX3_set 41 = .ok (.iastore, 1) := by decide +kernel
theorem dX3_set_42 : decode cX3_set 42 = .ok (.iload_n 3, 1) := by decide +kernel
theorem dX3_set_43 : decode cX3_set 43 = .ok (.ireturn, 1) := by decide +kernel
set_option maxRecDepth 20000 in
theorem ggX3_count_X3_worthOfChoice : GoodIn wsX3_count wsX3_worthOfChoice := goodIn_r _ [9, 2, 10, 11, 12, 8, 13, 3, 14, 15, 16, 17, 18, 19, 20, 21, 22, 35, 36, 37, 38, 39, 40, 41, 42, 43, 54, 55, 56, 57, 58, 59, 60, 61, 62, 63, 64] (by decide +kernel) (by decide +kernel)
set_option maxRecDepth 20000 in
theorem gX3_count_X3_worthOfChoice : GoodIn wsX3_count (wsV RX3 88 RX3 yX3_worthOfChoice wsX3_worthOfChoice) := goodIn_app (goodIn_of _ (by decide +kernel)) ggX3_count_X3_worthOfChoice
set_option maxRecDepth 20000 in
theorem ggX3_count_X3_goodPictures : GoodIn wsX3_count wsX3_goodPictures := goodIn_r _ [26, 2, 27, 28, 29, 8, 30, 18, 19, 20, 21, 22, 35, 36, 37, 38, 39, 40, 41, 42, 43, 54, 55, 56, 57, 58, 59, 60, 61, 62, 63, 64] (by decide +kernel) (by decide +kernel)
set_option maxRecDepth 20000 in
theorem gX3_count_X3_goodPictures : GoodIn wsX3_count (wsV RX3 95 RX3 yX3_goodPictures wsX3_goodPictures) := goodIn_app (goodIn_of _ (by decide +kernel)) ggX3_count_X3_goodPictures
set_option maxRecDepth 20000 in
theorem ggX3_count_X3_childrenInGood : GoodIn wsX3_count wsX3_childrenInGood := goodIn_r _ [34, 2, 27, 28, 29, 8, 30, 18, 19, 20, 21, 22, 35, 36, 37, 38, 39, 40, 41, 42, 43, 54, 55, 56, 57, 58, 59, 60, 61, 62, 63, 64] (by decide +kernel) (by decide +kernel)
set_option maxRecDepth 20000 in
theorem gX3_count_X3_childrenInGood : GoodIn wsX3_count (wsV RX3 98 RX3 yX3_childrenInGood wsX3_childrenInGood) := goodIn_app (goodIn_of _ (by decide +kernel)) ggX3_count_X3_childrenInGood
theorem dX3_count_0 : decode cX3_count 0 = .ok (.iload_n 1, 1) := by decide +kernel
theorem dX3_count_1 : decode cX3_count 1 = .ok (.tableswitch 81 0 6 #[43, 48, 53, 58, 63, 71, 76], 43) := by decide +kernel
theorem dX3_count_44 : decode cX3_count 44 = .ok (.aload_n 0, 1) := by decide +kernel
theorem dX3_count_45 : decode cX3_count 45 = .ok (.getfield 43, 3) := by decide +kernel
theorem dX3_count_48 : decode cX3_count 48 = .ok (.ireturn, 1) := by decide +kernel
theorem dX3_count_49 : decode cX3_count 49 = .ok (.aload_n 0, 1) := by decide +kernel
theorem dX3_count_50 : decode cX3_count 50 = .ok (.getfield 51, 3) := by decide +kernel
theorem dX3_count_53 : decode cX3_count 53 = .ok (.ireturn, 1) := by decide +kernel
theorem dX3_count_54 : decode cX3_count 54 = .ok (.aload_n 0, 1) := by decide +kernel
theorem dX3_count_55 : decode cX3_count 55 = .ok (.getfield 85, 3) := by decide +kernel
theorem dX3_count_58 : decode cX3_count 58 = .ok (.ireturn, 1) := by decide +kernel
theorem dX3_count_59 : decode cX3_count 59 = .ok (.aload_n 0, 1) := by decide +kernel
theorem dX3_count_60 : decode cX3_count 60 = .ok (.invokevirtual 88, 3) := by decide +kernel
theorem dX3_count_63 : decode cX3_count 63 = .ok (.ireturn, 1) := by decide +kernel
theorem dX3_count_64 : decode cX3_count 64 = .ok (.aload_n 0, 1) := by decide +kernel
theorem dX3_count_65 : decode cX3_count 65 = .ok (.getfield 35, 3) := by decide +kernel
theorem dX3_count_68 : decode cX3_count 68 = .ok (.getfield 92, 3) := by decide +kernel
theorem dX3_count_71 : decode cX3_count 71 = .ok (.ireturn, 1) := by decide +kernel
theorem dX3_count_72 : decode cX3_count 72 = .ok (.aload_n 0, 1) := by decide +kernel
theorem dX3_count_73 : decode cX3_count 73 = .ok (.invokevirtual 95, 3) := by decide +kernel
theorem dX3_count_76 : decode cX3_count 76 = .ok (.ireturn, 1) := by decide +kernel
theorem dX3_count_77 : decode cX3_count 77 = .ok (.aload_n 0, 1) := by decide +kernel
theorem dX3_count_78 : decode cX3_count 78 = .ok (.invokevirtual 98, 3) := by decide +kernel
theorem dX3_count_81 : decode cX3_count 81 = .ok (.ireturn, 1) := by decide +kernel
theorem dX3_count_82 : decode cX3_count 82 = .ok (.iconst (-1), 1) := by decide +kernel
theorem dX3_count_83 : decode cX3_count 83 = .ok (.ireturn, 1) := by decide +kernel
set_option maxRecDepth 20000 in
theorem ggX3_told_X3_pictureAt : GoodIn wsX3_told wsX3_pictureAt := goodIn_r _ [8, 9, 10, 39, 40, 41, 42, 43, 44, 45, 46, 47] (by decide +kernel) (by decide +kernel)
set_option maxRecDepth 20000 in
theorem gX3_told_X3_pictureAt : GoodIn wsX3_told (wsV RX3 54 RX3 yX3_pictureAt wsX3_pictureAt) := goodIn_app (goodIn_of _ (by decide +kernel)) ggX3_told_X3_pictureAt
set_option maxRecDepth 20000 in
theorem ggX3_told_X3_within : GoodIn wsX3_told wsX3_within := goodIn_r _ [13] (by decide +kernel) (by decide +kernel)
set_option maxRecDepth 20000 in
theorem gX3_told_X3_within : GoodIn wsX3_told (va_wsS RX3 39 yX3_within wsX3_within) := goodIn_app (goodIn_of _ (by decide +kernel)) ggX3_told_X3_within
set_option maxRecDepth 20000 in
theorem ggX3_told_X1_pageOf : GoodIn wsX3_told wsX1_pageOf := goodIn_r _ [18, 19, 20, 48, 49, 50, 51, 52, 53, 54, 55, 56, 57] (by decide +kernel) (by decide +kernel)
set_option maxRecDepth 20000 in
theorem gX3_told_X1_pageOf : GoodIn wsX3_told (wsV RX3 120 RX1 yX1_pageOf wsX1_pageOf) := goodIn_app (goodIn_of _ (by decide +kernel)) ggX3_told_X1_pageOf
set_option maxRecDepth 20000 in
theorem ggX3_told_X2_edge : GoodIn wsX3_told wsX2_edge := goodIn_r _ [25, 26, 27, 28, 29, 30, 31, 32, 33, 34, 35, 36, 37, 38] (by decide +kernel) (by decide +kernel)
set_option maxRecDepth 20000 in
theorem gX3_told_X2_edge : GoodIn wsX3_told (wsV RX3 124 RX2 yX2_edge wsX2_edge) := goodIn_app (goodIn_of _ (by decide +kernel)) ggX3_told_X2_edge
theorem dX3_told_0 : decode cX3_told 0 = .ok (.aload_n 0, 1) := by decide +kernel
theorem dX3_told_1 : decode cX3_told 1 = .ok (.iload_n 1, 1) := by decide +kernel
theorem dX3_told_2 : decode cX3_told 2 = .ok (.invokevirtual 54, 3) := by decide +kernel
theorem dX3_told_5 : decode cX3_told 5 = .ok (.astore_n 3, 1) := by decide +kernel
theorem dX3_told_6 : decode cX3_told 6 = .ok (.aload_n 3, 1) := by decide +kernel
theorem dX3_told_7 : decode cX3_told 7 = .ok (.ifnull 13, 3) := by decide +kernel
theorem dX3_told_10 : decode cX3_told 10 = .ok (.iload_n 2, 1) := by decide +kernel
theorem dX3_told_11 : decode cX3_told 11 = .ok (.iconst 0, 1) := by decide +kernel
theorem dX3_told_12 : decode cX3_told 12 = .ok (.bipush 10, 2) := by decide +kernel
theorem dX3_told_14 : decode cX3_told 14 = .ok (.invokestatic 39, 3) := by decide +kernel
theorem dX3_told_17 : decode cX3_told 17 = .ok (.ifCond .ne 13, 3) := by decide +kernel
theorem dX3_told_20 : decode cX3_told 20 = .ok (.new 101, 3) := by decide +kernel
theorem dX3_told_23 : decode cX3_told 23 = .ok (.dup, 1) := by decide +kernel
theorem dX3_told_24 : decode cX3_told 24 = .ok (.ldc 103, 2) := by decide +kernel
theorem dX3_told_26 : decode cX3_told 26 = .ok (.invokespecial 105, 3) := by decide +kernel
theorem dX3_told_29 : decode cX3_told 29 = .ok (.athrow, 1) := by decide +kernel
theorem dX3_told_30 : decode cX3_told 30 = .ok (.iload_n 2, 1) := by decide +kernel
theorem dX3_told_31 : decode cX3_told 31 = .ok (.tableswitch 104 0 10 #[57, 62, 67, 72, 77, 90, 104, 104, 104, 104, 95], 57) := by decide +kernel
theorem dX3_told_88 : decode cX3_told 88 = .ok (.aload_n 3, 1) := by decide +kernel
theorem dX3_told_89 : decode cX3_told 89 = .ok (.getfield 108, 3) := by decide +kernel
theorem dX3_told_92 : decode cX3_told 92 = .ok (.ireturn, 1) := by decide +kernel
theorem dX3_told_93 : decode cX3_told 93 = .ok (.aload_n 3, 1) := by decide +kernel
theorem dX3_told_94 : decode cX3_told 94 = .ok (.getfield 111, 3) := by decide +kernel
theorem dX3_told_97 : decode cX3_told 97 = .ok (.ireturn, 1) := by decide +kernel
theorem dX3_told_98 : decode cX3_told 98 = .ok (.aload_n 3, 1) := by decide +kernel
theorem dX3_told_99 : decode cX3_told 99 = .ok (.getfield 114, 3) := by decide +kernel
theorem dX3_told_102 : decode cX3_told 102 = .ok (.ireturn, 1) := by decide +kernel
theorem dX3_told_103 : decode cX3_told 103 = .ok (.aload_n 3, 1) := by decide +kernel
theorem dX3_told_104 : decode cX3_told 104 = .ok (.getfield 76, 3) := by decide +kernel
theorem dX3_told_107 : decode cX3_told 107 = .ok (.ireturn, 1) := by decide +kernel
theorem dX3_told_108 : decode cX3_told 108 = .ok (.aload_n 3, 1) := by decide +kernel
theorem dX3_told_109 : decode cX3_told 109 = .ok (.getfield 117, 3) := by decide +kernel
theorem dX3_told_112 : decode cX3_told 112 = .ok (.ifCond .eq 7, 3) := by decide +kernel
theorem dX3_told_115 : decode cX3_told 115 = .ok (.iconst 1, 1) := by decide +kernel
theorem dX3_told_116 : decode cX3_told 116 = .ok (.goto 4, 3) := by decide +kernel
theorem dX3_told_119 : decode cX3_told 119 = .ok (.iconst 0, 1) := by decide +kernel
theorem dX3_told_120 : decode cX3_told 120 = .ok (.ireturn, 1) := by decide +kernel
theorem dX3_told_121 : decode cX3_told 121 = .ok (.aload_n 3, 1) := by decide +kernel
theorem dX3_told_122 : decode cX3_told 122 = .ok (.getfield 117, 3) := by decide +kernel
theorem dX3_told_125 : decode cX3_told 125 = .ok (.ireturn, 1) := by decide +kernel
theorem dX3_told_126 : decode cX3_told 126 = .ok (.aload_n 0, 1) := by decide +kernel
theorem dX3_told_127 : decode cX3_told 127 = .ok (.getfield 35, 3) := by decide +kernel
theorem dX3_told_130 : decode cX3_told 130 = .ok (.iload_n 1, 1) := by decide +kernel
theorem dX3_told_131 : decode cX3_told 131 = .ok (.invokevirtual 120, 3) := by decide +kernel
theorem dX3_told_134 : decode cX3_told 134 = .ok (.ireturn, 1) := by decide +kernel
theorem dX3_told_135 : decode cX3_told 135 = .ok (.aload_n 3, 1) := by decide +kernel
theorem dX3_told_136 : decode cX3_told 136 = .ok (.iload_n 2, 1) := by decide +kernel
theorem dX3_told_137 : decode cX3_told 137 = .ok (.bipush 6, 2) := by decide +kernel
theorem dX3_told_139 : decode cX3_told 139 = .ok (.isub, 1) := by decide +kernel
theorem dX3_told_140 : decode cX3_told 140 = .ok (.invokevirtual 124, 3) := by decide +kernel
theorem dX3_told_143 : decode cX3_told 143 = .ok (.ireturn, 1) := by decide +kernel
set_option maxRecDepth 20000 in
theorem ggX3_name_X3_pictureAt : GoodIn wsX3_name wsX3_pictureAt := goodIn_r _ [6, 7, 8, 53, 54, 55, 56, 57, 58, 59, 60, 61] (by decide +kernel) (by decide +kernel)
set_option maxRecDepth 20000 in
theorem gX3_name_X3_pictureAt : GoodIn wsX3_name (wsV RX3 54 RX3 yX3_pictureAt wsX3_pictureAt) := goodIn_app (goodIn_of _ (by decide +kernel)) ggX3_name_X3_pictureAt
set_option maxRecDepth 20000 in
theorem ggX3_name_X2_nameAt : GoodIn wsX3_name wsX2_nameAt := goodIn_r _ [13, 14, 15, 16, 17, 12, 18, 19, 20, 21, 22, 23, 24, 25, 26, 27, 28, 29, 30, 31, 32, 33, 34, 35, 36, 37, 38, 39, 40, 41, 42, 43, 44, 45, 46, 47, 48, 49, 50, 51, 52] (by decide +kernel) (by decide +kernel)
set_option maxRecDepth 20000 in
theorem gX3_name_X2_nameAt : GoodIn wsX3_name (wsV RX3 127 RX2 yX2_nameAt wsX2_nameAt) := goodIn_app (goodIn_of _ (by decide +kernel)) ggX3_name_X2_nameAt
theorem dX3_name_0 : decode cX3_name 0 = .ok (.aload_n 0, 1) := by decide +kernel
theorem dX3_name_1 : decode cX3_name 1 = .ok (.iload_n 1, 1) := by decide +kernel
theorem dX3_name_2 : decode cX3_name 2 = .ok (.invokevirtual 54, 3) := by decide +kernel
theorem dX3_name_5 : decode cX3_name 5 = .ok (.astore_n 3, 1) := by decide +kernel
theorem dX3_name_6 : decode cX3_name 6 = .ok (.aload_n 3, 1) := by decide +kernel
theorem dX3_name_7 : decode cX3_name 7 = .ok (.ifnull 14, 3) := by decide +kernel
theorem dX3_name_10 : decode cX3_name 10 = .ok (.aload_n 3, 1) := by decide +kernel
theorem dX3_name_11 : decode cX3_name 11 = .ok (.getfield 117, 3) := by decide +kernel
theorem dX3_name_14 : decode cX3_name 14 = .ok (.ifCond .eq 7, 3) := by decide +kernel
theorem dX3_name_17 : decode cX3_name 17 = .ok (.iload_n 2, 1) := by decide +kernel
theorem dX3_name_18 : decode cX3_name 18 = .ok (.ifCond .ge 7, 3) := by decide +kernel
theorem dX3_name_21 : decode cX3_name 21 = .ok (.iconst (-1), 1) := by decide +kernel
theorem dX3_name_22 : decode cX3_name 22 = .ok (.goto 14, 3) := by decide +kernel
theorem dX3_name_25 : decode cX3_name 25 = .ok (.aload_n 3, 1) := by decide +kernel
theorem dX3_name_26 : decode cX3_name 26 = .ok (.iload_n 2, 1) := by decide +kernel
theorem dX3_name_27 : decode cX3_name 27 = .ok (.aload_n 0, 1) := by decide +kernel
theorem dX3_name_28 : decode cX3_name 28 = .ok (.getfield 22, 3) := by decide +kernel
theorem dX3_name_31 : decode cX3_name 31 = .ok (.iconst 0, 1) := by decide +kernel
theorem dX3_name_32 : decode cX3_name 32 = .ok (.iaload, 1) := by decide +kernel
theorem dX3_name_33 : decode cX3_name 33 = .ok (.invokevirtual 127, 3) := by decide +kernel
theorem dX3_name_36 : decode cX3_name 36 = .ok (.ireturn, 1) := by decide +kernel
set_option maxRecDepth 20000 in
theorem ggX3_seen_X3_isChild : GoodIn wsX3_seen wsX3_isChild := goodIn_r _ [5, 6, 26, 27, 28, 29, 30, 31, 32, 33, 34] (by decide +kernel) (by decide +kernel)
set_option maxRecDepth 20000 in
theorem gX3_seen_X3_isChild : GoodIn wsX3_seen (wsV RX3 47 RX3 yX3_isChild wsX3_isChild) := goodIn_app (goodIn_of _ (by decide +kernel)) ggX3_seen_X3_isChild
set_option maxRecDepth 20000 in
theorem ggX3_seen_X3_chosenShowing : GoodIn wsX3_seen wsX3_chosenShowing := goodIn_r _ [10, 11, 12, 13, 14, 4, 15, 16, 17, 18, 19, 20, 21, 22, 23, 24, 25, 26, 27, 28, 29, 30, 31, 32, 33, 34, 35, 36, 37, 38, 39, 40, 41, 42, 43, 44, 45] (by decide +kernel) (by decide +kernel)
set_option maxRecDepth 20000 in
theorem gX3_seen_X3_chosenShowing : GoodIn wsX3_seen (wsV RX3 131 RX3 yX3_chosenShowing wsX3_chosenShowing) := goodIn_app (goodIn_of _ (by decide +kernel)) ggX3_seen_X3_chosenShowing
theorem dX3_seen_0 : decode cX3_seen 0 = .ok (.aload_n 0, 1) := by decide +kernel
theorem dX3_seen_1 : decode cX3_seen 1 = .ok (.iload_n 1, 1) := by decide +kernel
theorem dX3_seen_2 : decode cX3_seen 2 = .ok (.invokevirtual 47, 3) := by decide +kernel
theorem dX3_seen_5 : decode cX3_seen 5 = .ok (.ifCond .eq 13, 3) := by decide +kernel
theorem dX3_seen_8 : decode cX3_seen 8 = .ok (.aload_n 0, 1) := by decide +kernel
theorem dX3_seen_9 : decode cX3_seen 9 = .ok (.iconst 1, 1) := by decide +kernel
theorem dX3_seen_10 : decode cX3_seen 10 = .ok (.iload_n 1, 1) := by decide +kernel
theorem dX3_seen_11 : decode cX3_seen 11 = .ok (.ishl, 1) := by decide +kernel
theorem dX3_seen_12 : decode cX3_seen 12 = .ok (.invokevirtual 131, 3) := by decide +kernel
theorem dX3_seen_15 : decode cX3_seen 15 = .ok (.goto 4, 3) := by decide +kernel
theorem dX3_seen_18 : decode cX3_seen 18 = .ok (.iconst (-1), 1) := by decide +kernel
theorem dX3_seen_19 : decode cX3_seen 19 = .ok (.ireturn, 1) := by decide +kernel
set_option maxRecDepth 20000 in
theorem ggX3_proof_X3_isChild : GoodIn wsX3_proof wsX3_isChild := goodIn_r _ [6, 7, 22, 23, 24, 25, 26, 27, 28, 29, 30] (by decide +kernel) (by decide +kernel)
set_option maxRecDepth 20000 in
theorem gX3_proof_X3_isChild : GoodIn wsX3_proof (wsV RX3 47 RX3 yX3_isChild wsX3_isChild) := goodIn_app (goodIn_of _ (by decide +kernel)) ggX3_proof_X3_isChild
set_option maxRecDepth 20000 in
theorem ggX3_proof_X3_isChosen : GoodIn wsX3_proof wsX3_isChosen := goodIn_r _ [11, 12, 22, 23, 24, 25, 26, 27, 28, 29, 30] (by decide +kernel) (by decide +kernel)
set_option maxRecDepth 20000 in
theorem gX3_proof_X3_isChosen : GoodIn wsX3_proof (wsV RX3 134 RX3 yX3_isChosen wsX3_isChosen) := goodIn_app (goodIn_of _ (by decide +kernel)) ggX3_proof_X3_isChosen
set_option maxRecDepth 20000 in
theorem ggX3_proof_X3_shownIn : GoodIn wsX3_proof wsX3_shownIn := goodIn_r _ [16, 17, 18, 19, 5, 20, 1, 21, 31, 32, 33, 34, 35, 36, 37, 38, 39, 40, 41, 22, 23, 24, 25, 26, 27, 28, 29, 30] (by decide +kernel) (by decide +kernel)
set_option maxRecDepth 20000 in
theorem gX3_proof_X3_shownIn : GoodIn wsX3_proof (wsV RX3 137 RX3 yX3_shownIn wsX3_shownIn) := goodIn_app (goodIn_of _ (by decide +kernel)) ggX3_proof_X3_shownIn
theorem dX3_proof_0 : decode cX3_proof 0 = .ok (.aload_n 0, 1) := by decide +kernel
theorem dX3_proof_1 : decode cX3_proof 1 = .ok (.iload_n 1, 1) := by decide +kernel
theorem dX3_proof_2 : decode cX3_proof 2 = .ok (.invokevirtual 47, 3) := by decide +kernel
theorem dX3_proof_5 : decode cX3_proof 5 = .ok (.ifCond .eq 7, 3) := by decide +kernel
theorem dX3_proof_8 : decode cX3_proof 8 = .ok (.iload_n 2, 1) := by decide +kernel
theorem dX3_proof_9 : decode cX3_proof 9 = .ok (.ifCond .ge 5, 3) := by decide +kernel
theorem dX3_proof_12 : decode cX3_proof 12 = .ok (.iconst (-1), 1) := by decide +kernel
theorem dX3_proof_13 : decode cX3_proof 13 = .ok (.ireturn, 1) := by decide +kernel
theorem dX3_proof_14 : decode cX3_proof 14 = .ok (.iconst 0, 1) := by decide +kernel
theorem dX3_proof_15 : decode cX3_proof 15 = .ok (.istore_n 3, 1) := by decide +kernel
theorem dX3_proof_16 : decode cX3_proof 16 = .ok (.iconst 0, 1) := by decide +kernel
theorem dX3_proof_17 : decode cX3_proof 17 = .ok (.istore 4, 2) := by decide +kernel
theorem dX3_proof_19 : decode cX3_proof 19 = .ok (.iload 4, 2) := by decide +kernel
theorem dX3_proof_21 : decode cX3_proof 21 = .ok (.aload_n 0, 1) := by decide +kernel
theorem dX3_proof_22 : decode cX3_proof 22 = .ok (.getfield 51, 3) := by decide +kernel
theorem dX3_proof_25 : decode cX3_proof 25 = .ok (.if_icmp .ge 42, 3) := by decide +kernel
theorem dX3_proof_28 : decode cX3_proof 28 = .ok (.aload_n 0, 1) := by decide +kernel
theorem dX3_proof_29 : decode cX3_proof 29 = .ok (.iload 4, 2) := by decide +kernel
theorem dX3_proof_31 : decode cX3_proof 31 = .ok (.invokevirtual 134, 3) := by decide +kernel
theorem dX3_proof_34 : decode cX3_proof 34 = .ok (.ifCond .eq 27, 3) := by decide +kernel
theorem dX3_proof_37 : decode cX3_proof 37 = .ok (.aload_n 0, 1) := by decide +kernel
theorem dX3_proof_38 : decode cX3_proof 38 = .ok (.iload 4, 2) := by decide +kernel
theorem dX3_proof_40 : decode cX3_proof 40 = .ok (.invokevirtual 137, 3) := by decide +kernel
theorem dX3_proof_43 : decode cX3_proof 43 = .ok (.iload_n 1, 1) := by decide +kernel
theorem dX3_proof_44 : decode cX3_proof 44 = .ok (.ishr, 1) := by decide +kernel
theorem dX3_proof_45 : decode cX3_proof 45 = .ok (.iconst 1, 1) := by decide +kernel
theorem dX3_proof_46 : decode cX3_proof 46 = .ok (.iand, 1) := by decide +kernel
theorem dX3_proof_47 : decode cX3_proof 47 = .ok (.ifCond .eq 14, 3) := by decide +kernel
theorem dX3_proof_50 : decode cX3_proof 50 = .ok (.iload_n 3, 1) := by decide +kernel
theorem dX3_proof_51 : decode cX3_proof 51 = .ok (.iload_n 2, 1) := by decide +kernel
theorem dX3_proof_52 : decode cX3_proof 52 = .ok (.if_icmp .ne 6, 3) := by decide +kernel
theorem dX3_proof_55 : decode cX3_proof 55 = .ok (.iload 4, 2) := by decide +kernel
theorem dX3_proof_57 : decode cX3_proof 57 = .ok (.ireturn, 1) := by decide +kernel
theorem dX3_proof_58 : decode cX3_proof 58 = .ok (.iinc 3 1, 3) := by decide +kernel
theorem dX3_proof_61 : decode cX3_proof 61 = .ok (.iinc 4 1, 3) := by decide +kernel
theorem dX3_proof_64 : decode cX3_proof 64 = .ok (.goto (-45), 3) := by decide +kernel
theorem dX3_proof_67 : decode cX3_proof 67 = .ok (.iconst (-1), 1) := by decide +kernel
theorem dX3_proof_68 : decode cX3_proof 68 = .ok (.ireturn, 1) := by decide +kernel
set_option maxRecDepth 20000 in
theorem ggX3_shows_X3_within : GoodIn wsX3_shows wsX3_within := goodIn_r _ [6] (by decide +kernel) (by decide +kernel)
set_option maxRecDepth 20000 in
theorem gX3_shows_X3_within : GoodIn wsX3_shows (va_wsS RX3 39 yX3_within wsX3_within) := goodIn_app (goodIn_of _ (by decide +kernel)) ggX3_shows_X3_within
set_option maxRecDepth 20000 in
theorem ggX3_shows_X3_chosenShowing : GoodIn wsX3_shows wsX3_chosenShowing := goodIn_r _ [10, 11, 12, 13, 14, 5, 15, 16, 17, 18, 19, 20, 21, 22, 23, 24, 25, 26, 27, 28, 29, 30, 31, 32, 33, 34, 35, 36, 37, 38, 39, 40, 41, 42, 43, 44, 45] (by decide +kernel) (by decide +kernel)
set_option maxRecDepth 20000 in
theorem gX3_shows_X3_chosenShowing : GoodIn wsX3_shows (wsV RX3 131 RX3 yX3_chosenShowing wsX3_chosenShowing) := goodIn_app (goodIn_of _ (by decide +kernel)) ggX3_shows_X3_chosenShowing
theorem dX3_shows_0 : decode cX3_shows 0 = .ok (.iload_n 1, 1) := by decide +kernel
theorem dX3_shows_1 : decode cX3_shows 1 = .ok (.iconst 0, 1) := by decide +kernel
theorem dX3_shows_2 : decode cX3_shows 2 = .ok (.bipush 9, 2) := by decide +kernel
theorem dX3_shows_4 : decode cX3_shows 4 = .ok (.invokestatic 39, 3) := by decide +kernel
theorem dX3_shows_7 : decode cX3_shows 7 = .ok (.ifCond .ne 5, 3) := by decide +kernel
theorem dX3_shows_10 : decode cX3_shows 10 = .ok (.iconst (-1), 1) := by decide +kernel
theorem dX3_shows_11 : decode cX3_shows 11 = .ok (.ireturn, 1) := by decide +kernel
theorem dX3_shows_12 : decode cX3_shows 12 = .ok (.iconst 0, 1) := by decide +kernel
theorem dX3_shows_13 : decode cX3_shows 13 = .ok (.istore_n 2, 1) := by decide +kernel
theorem dX3_shows_14 : decode cX3_shows 14 = .ok (.iconst 0, 1) := by decide +kernel
theorem dX3_shows_15 : decode cX3_shows 15 = .ok (.istore_n 3, 1) := by decide +kernel
theorem dX3_shows_16 : decode cX3_shows 16 = .ok (.iload_n 3, 1) := by decide +kernel
theorem dX3_shows_17 : decode cX3_shows 17 = .ok (.aload_n 0, 1) := by decide +kernel
theorem dX3_shows_18 : decode cX3_shows 18 = .ok (.getfield 43, 3) := by decide +kernel
theorem dX3_shows_21 : decode cX3_shows 21 = .ok (.if_icmp .ge 25, 3) := by decide +kernel
theorem dX3_shows_24 : decode cX3_shows 24 = .ok (.aload_n 0, 1) := by decide +kernel
theorem dX3_shows_25 : decode cX3_shows 25 = .ok (.getfield 9, 3) := by decide +kernel
theorem dX3_shows_28 : decode cX3_shows 28 = .ok (.iload_n 3, 1) := by decide +kernel
theorem dX3_shows_29 : decode cX3_shows 29 = .ok (.iaload, 1) := by decide +kernel
theorem dX3_shows_30 : decode cX3_shows 30 = .ok (.iload_n 1, 1) := by decide +kernel
theorem dX3_shows_31 : decode cX3_shows 31 = .ok (.if_icmp .ne 9, 3) := by decide +kernel
theorem dX3_shows_34 : decode cX3_shows 34 = .ok (.iload_n 2, 1) := by decide +kernel
theorem dX3_shows_35 : decode cX3_shows 35 = .ok (.iconst 1, 1) := by decide +kernel
theorem dX3_shows_36 : decode cX3_shows 36 = .ok (.iload_n 3, 1) := by decide +kernel
theorem dX3_shows_37 : decode cX3_shows 37 = .ok (.ishl, 1) := by decide +kernel
theorem dX3_shows_38 : decode cX3_shows 38 = .ok (.ior, 1) := by decide +kernel
theorem dX3_shows_39 : decode cX3_shows 39 = .ok (.istore_n 2, 1) := by decide +kernel
theorem dX3_shows_40 : decode cX3_shows 40 = .ok (.iinc 3 1, 3) := by decide +kernel
theorem dX3_shows_43 : decode cX3_shows 43 = .ok (.goto (-27), 3) := by decide +kernel
theorem dX3_shows_46 : decode cX3_shows 46 = .ok (.aload_n 0, 1) := by decide +kernel
theorem dX3_shows_47 : decode cX3_shows 47 = .ok (.iload_n 2, 1) := by decide +kernel
theorem dX3_shows_48 : decode cX3_shows 48 = .ok (.invokevirtual 131, 3) := by decide +kernel
theorem dX3_shows_51 : decode cX3_shows 51 = .ok (.ireturn, 1) := by decide +kernel
set_option maxRecDepth 20000 in
theorem ggX3_choose_X3_decide : GoodIn wsX3_choose wsX3_decide := goodIn_r _ [6, 7, 8, 9, 10, 11, 12, 13, 14, 15, 16, 17, 18, 19, 20, 21, 22, 23, 24, 25, 26, 27, 28, 29, 30, 31, 32, 33] (by decide +kernel) (by decide +kernel)
set_option maxRecDepth 20000 in
theorem gX3_choose_X3_decide : GoodIn wsX3_choose (wsV RX3 140 RX3 yX3_decide wsX3_decide) := goodIn_app (goodIn_of _ (by decide +kernel)) ggX3_choose_X3_decide
theorem dX3_choose_0 : decode cX3_choose 0 = .ok (.iload_n 1, 1) := by decide +kernel
theorem dX3_choose_1 : decode cX3_choose 1 = .ok (.ifCond .lt 12, 3) := by decide +kernel
theorem dX3_choose_4 : decode cX3_choose 4 = .ok (.iload_n 1, 1) := by decide +kernel
theorem dX3_choose_5 : decode cX3_choose 5 = .ok (.aload_n 0, 1) := by decide +kernel
theorem dX3_choose_6 : decode cX3_choose 6 = .ok (.getfield 51, 3) := by decide +kernel
theorem dX3_choose_9 : decode cX3_choose 9 = .ok (.ishr, 1) := by decide +kernel
theorem dX3_choose_10 : decode cX3_choose 10 = .ok (.ifCond .eq 5, 3) := by decide +kernel
theorem dX3_choose_13 : decode cX3_choose 13 = .ok (.iconst 0, 1) := by decide +kernel
theorem dX3_choose_14 : decode cX3_choose 14 = .ok (.ireturn, 1) := by decide +kernel
theorem dX3_choose_15 : decode cX3_choose 15 = .ok (.aload_n 0, 1) := by decide +kernel
theorem dX3_choose_16 : decode cX3_choose 16 = .ok (.iload_n 1, 1) := by decide +kernel
theorem dX3_choose_17 : decode cX3_choose 17 = .ok (.invokevirtual 140, 3) := by decide +kernel
theorem dX3_choose_20 : decode cX3_choose 20 = .ok (.iconst 1, 1) := by decide +kernel
theorem dX3_choose_21 : decode cX3_choose 21 = .ok (.ireturn, 1) := by decide +kernel
set_option maxRecDepth 20000 in
theorem ggX3_wrong_X3_goodPictures : GoodIn wsX3_wrong wsX3_goodPictures := goodIn_r _ [8, 9, 10, 11, 12, 7, 13, 14, 15, 16, 17, 18, 31, 32, 33, 34, 35, 36, 37, 38, 39, 40, 41, 42, 43, 44, 45, 46, 47, 48, 49, 50] (by decide +kernel) (by decide +kernel)
set_option maxRecDepth 20000 in
theorem gX3_wrong_X3_goodPictures : GoodIn wsX3_wrong (wsV RX3 95 RX3 yX3_goodPictures wsX3_goodPictures) := goodIn_app (goodIn_of _ (by decide +kernel)) ggX3_wrong_X3_goodPictures
set_option maxRecDepth 20000 in
theorem ggX3_wrong_X3_childrenInGood : GoodIn wsX3_wrong wsX3_childrenInGood := goodIn_r _ [22, 9, 10, 11, 12, 7, 13, 14, 15, 16, 17, 18, 31, 32, 33, 34, 35, 36, 37, 38, 39, 40, 41, 42, 43, 44, 45, 46, 47, 48, 49, 50] (by decide +kernel) (by decide +kernel)
set_option maxRecDepth 20000 in
theorem gX3_wrong_X3_childrenInGood : GoodIn wsX3_wrong (wsV RX3 98 RX3 yX3_childrenInGood wsX3_childrenInGood) := goodIn_app (goodIn_of _ (by decide +kernel)) ggX3_wrong_X3_childrenInGood
set_option maxRecDepth 20000 in
theorem ggX3_wrong_X3_chosenShowing : GoodIn wsX3_wrong wsX3_chosenShowing := goodIn_r _ [26, 9, 27, 28, 29, 7, 30, 1, 10, 11, 12, 13, 14, 15, 16, 17, 18, 31, 32, 33, 34, 35, 36, 37, 38, 39, 40, 41, 42, 43, 44, 45, 46, 47, 48, 49, 50] (by decide +kernel) (by decide +kernel)
set_option maxRecDepth 20000 in
theorem gX3_wrong_X3_chosenShowing : GoodIn wsX3_wrong (wsV RX3 131 RX3 yX3_chosenShowing wsX3_chosenShowing) := goodIn_app (goodIn_of _ (by decide +kernel)) ggX3_wrong_X3_chosenShowing
theorem dX3_wrong_0 : decode cX3_wrong 0 = .ok (.aload_n 0, 1) := by decide +kernel
theorem dX3_wrong_1 : decode cX3_wrong 1 = .ok (.getfield 85, 3) := by decide +kernel
theorem dX3_wrong_4 : decode cX3_wrong 4 = .ok (.aload_n 0, 1) := by decide +kernel
theorem dX3_wrong_5 : decode cX3_wrong 5 = .ok (.invokevirtual 95, 3) := by decide +kernel
theorem dX3_wrong_8 : decode cX3_wrong 8 = .ok (.iconst (-1), 1) := by decide +kernel
theorem dX3_wrong_9 : decode cX3_wrong 9 = .ok (.ixor, 1) := by decide +kernel
theorem dX3_wrong_10 : decode cX3_wrong 10 = .ok (.iand, 1) := by decide +kernel
theorem dX3_wrong_11 : decode cX3_wrong 11 = .ok (.ifCond .eq 5, 3) := by decide +kernel
theorem dX3_wrong_14 : decode cX3_wrong 14 = .ok (.iconst 1, 1) := by decide +kernel
theorem dX3_wrong_15 : decode cX3_wrong 15 = .ok (.ireturn, 1) := by decide +kernel
theorem dX3_wrong_16 : decode cX3_wrong 16 = .ok (.aload_n 0, 1) := by decide +kernel
theorem dX3_wrong_17 : decode cX3_wrong 17 = .ok (.invokevirtual 98, 3) := by decide +kernel
theorem dX3_wrong_20 : decode cX3_wrong 20 = .ok (.istore_n 1, 1) := by decide +kernel
theorem dX3_wrong_21 : decode cX3_wrong 21 = .ok (.iconst 0, 1) := by decide +kernel
theorem dX3_wrong_22 : decode cX3_wrong 22 = .ok (.istore_n 2, 1) := by decide +kernel
theorem dX3_wrong_23 : decode cX3_wrong 23 = .ok (.iconst 0, 1) := by decide +kernel
theorem dX3_wrong_24 : decode cX3_wrong 24 = .ok (.istore_n 3, 1) := by decide +kernel
theorem dX3_wrong_25 : decode cX3_wrong 25 = .ok (.iload_n 3, 1) := by decide +kernel
theorem dX3_wrong_26 : decode cX3_wrong 26 = .ok (.aload_n 0, 1) := by decide +kernel
theorem dX3_wrong_27 : decode cX3_wrong 27 = .ok (.getfield 43, 3) := by decide +kernel
theorem dX3_wrong_30 : decode cX3_wrong 30 = .ok (.if_icmp .ge 58, 3) := by decide +kernel
theorem dX3_wrong_33 : decode cX3_wrong 33 = .ok (.iload_n 1, 1) := by decide +kernel
theorem dX3_wrong_34 : decode cX3_wrong 34 = .ok (.iload_n 3, 1) := by decide +kernel
theorem dX3_wrong_35 : decode cX3_wrong 35 = .ok (.ishr, 1) := by decide +kernel
theorem dX3_wrong_36 : decode cX3_wrong 36 = .ok (.iconst 1, 1) := by decide +kernel
theorem dX3_wrong_37 : decode cX3_wrong 37 = .ok (.iand, 1) := by decide +kernel
theorem dX3_wrong_38 : decode cX3_wrong 38 = .ok (.ifCond .eq 44, 3) := by decide +kernel
theorem dX3_wrong_41 : decode cX3_wrong 41 = .ok (.aload_n 0, 1) := by decide +kernel
theorem dX3_wrong_42 : decode cX3_wrong 42 = .ok (.iconst 1, 1) := by decide +kernel
theorem dX3_wrong_43 : decode cX3_wrong 43 = .ok (.iload_n 3, 1) := by decide +kernel
theorem dX3_wrong_44 : decode cX3_wrong 44 = .ok (.ishl, 1) := by decide +kernel
theorem dX3_wrong_45 : decode cX3_wrong 45 = .ok (.invokevirtual 131, 3) := by decide +kernel
theorem dX3_wrong_48 : decode cX3_wrong 48 = .ok (.istore 4, 2) := by decide +kernel
theorem dX3_wrong_50 : decode cX3_wrong 50 = .ok (.iload 4, 2) := by decide +kernel
theorem dX3_wrong_52 : decode cX3_wrong 52 = .ok (.aload_n 0, 1) := by decide +kernel
theorem dX3_wrong_53 : decode cX3_wrong 53 = .ok (.getfield 22, 3) := by decide +kernel
theorem dX3_wrong_56 : decode cX3_wrong 56 = .ok (.iconst 1, 1) := by decide +kernel
theorem dX3_wrong_57 : decode cX3_wrong 57 = .ok (.iaload, 1) := by decide +kernel
theorem dX3_wrong_58 : decode cX3_wrong 58 = .ok (.if_icmp .ge 5, 3) := by decide +kernel
theorem dX3_wrong_61 : decode cX3_wrong 61 = .ok (.iconst 2, 1) := by decide +kernel
theorem dX3_wrong_62 : decode cX3_wrong 62 = .ok (.ireturn, 1) := by decide +kernel
theorem dX3_wrong_63 : decode cX3_wrong 63 = .ok (.iload_n 2, 1) := by decide +kernel
theorem dX3_wrong_64 : decode cX3_wrong 64 = .ok (.iload 4, 2) := by decide +kernel
theorem dX3_wrong_66 : decode cX3_wrong 66 = .ok (.aload_n 0, 1) := by decide +kernel
theorem dX3_wrong_67 : decode cX3_wrong 67 = .ok (.getfield 22, 3) := by decide +kernel
theorem dX3_wrong_70 : decode cX3_wrong 70 = .ok (.iconst 2, 1) := by decide +kernel
theorem dX3_wrong_71 : decode cX3_wrong 71 = .ok (.iaload, 1) := by decide +kernel
theorem dX3_wrong_72 : decode cX3_wrong 72 = .ok (.if_icmp .le 7, 3) := by decide +kernel
theorem dX3_wrong_75 : decode cX3_wrong 75 = .ok (.iconst 1, 1) := by decide +kernel
theorem dX3_wrong_76 : decode cX3_wrong 76 = .ok (.goto 4, 3) := by decide +kernel
theorem dX3_wrong_79 : decode cX3_wrong 79 = .ok (.iconst 0, 1) := by decide +kernel
theorem dX3_wrong_80 : decode cX3_wrong 80 = .ok (.ior, 1) := by decide +kernel
theorem dX3_wrong_81 : decode cX3_wrong 81 = .ok (.istore_n 2, 1) := by decide +kernel
theorem dX3_wrong_82 : decode cX3_wrong 82 = .ok (.iinc 3 1, 3) := by decide +kernel
theorem dX3_wrong_85 : decode cX3_wrong 85 = .ok (.goto (-60), 3) := by decide +kernel
theorem dX3_wrong_88 : decode cX3_wrong 88 = .ok (.iload_n 2, 1) := by decide +kernel
theorem dX3_wrong_89 : decode cX3_wrong 89 = .ok (.ifCond .eq 7, 3) := by decide +kernel
theorem dX3_wrong_92 : decode cX3_wrong 92 = .ok (.iconst 3, 1) := by decide +kernel
theorem dX3_wrong_93 : decode cX3_wrong 93 = .ok (.goto 4, 3) := by decide +kernel
theorem dX3_wrong_96 : decode cX3_wrong 96 = .ok (.iconst 0, 1) := by decide +kernel
theorem dX3_wrong_97 : decode cX3_wrong 97 = .ok (.ireturn, 1) := by decide +kernel
set_option maxRecDepth 20000 in
theorem ggX3_best_X3_offerPictures : GoodIn wsX3_best wsX3_offerPictures := goodIn_r _ [6, 1, 7, 8, 9, 10, 11, 12, 13, 14, 15, 16, 17, 18, 19, 20, 21, 22, 23, 5, 24, 25, 26, 27, 28, 29, 30, 31, 32, 33, 34, 35, 36, 37, 38, 39, 40, 41, 42, 43, 44, 45, 46, 47, 48, 49, 50, 51, 52, 53, 54, 55, 56, 57, 99, 100, 101, 102, 103, 104, 105, 106, 107, 108, 109, 110, 111, 112, 113, 114, 115, 116, 117, 118, 119, 120, 121, 122, 123, 124, 125, 126, 127, 128, 129, 130, 131, 132] (by decide +kernel) (by decide +kernel)
set_option maxRecDepth 20000 in
theorem gX3_best_X3_offerPictures : GoodIn wsX3_best (wsV RX3 143 RX3 yX3_offerPictures wsX3_offerPictures) := goodIn_app (goodIn_of _ (by decide +kernel)) ggX3_best_X3_offerPictures
set_option maxRecDepth 20000 in
theorem ggX3_best_X0_findBest : GoodIn wsX3_best wsX0_findBest := goodIn_r _ [61, 62, 63, 64, 65, 14, 66, 18, 57, 67, 55, 56, 68, 45, 43, 44, 69, 70, 71, 72, 54, 73, 74, 75, 76, 17, 77, 78, 79, 80, 81, 82, 83, 20, 16, 108, 109, 110, 111, 112, 113, 114, 115, 116, 117, 118, 119, 120, 121] (by decide +kernel) (by decide +kernel)
set_option maxRecDepth 20000 in
theorem gX3_best_X0_findBest : GoodIn wsX3_best (wsV RX3 147 RX0 yX0_findBest wsX0_findBest) := goodIn_app (goodIn_of _ (by decide +kernel)) ggX3_best_X0_findBest
set_option maxRecDepth 20000 in
theorem ggX3_best_X3_decide : GoodIn wsX3_best wsX3_decide := goodIn_r _ [87, 38, 88, 89, 90, 91, 92, 93, 94, 99, 100, 101, 102, 103, 104, 105, 106, 107, 133, 134, 135, 136, 137, 138, 139, 140, 141, 142] (by decide +kernel) (by decide +kernel)
set_option maxRecDepth 20000 in
theorem gX3_best_X3_decide : GoodIn wsX3_best (wsV RX3 140 RX3 yX3_decide wsX3_decide) := goodIn_app (goodIn_of _ (by decide +kernel)) ggX3_best_X3_decide
set_option maxRecDepth 20000 in
theorem ggX3_best_X3_worthOfChoice : GoodIn wsX3_best wsX3_worthOfChoice := goodIn_r _ [98, 8, 34, 35, 36, 5, 37, 38, 30, 31, 32, 33, 25, 26, 27, 28, 29, 99, 100, 101, 102, 103, 104, 105, 106, 107, 122, 123, 124, 125, 126, 127, 128, 129, 130, 131, 132] (by decide +kernel) (by decide +kernel)
set_option maxRecDepth 20000 in
theorem gX3_best_X3_worthOfChoice : GoodIn wsX3_best (wsV RX3 88 RX3 yX3_worthOfChoice wsX3_worthOfChoice) := goodIn_app (goodIn_of _ (by decide +kernel)) ggX3_best_X3_worthOfChoice
theorem dX3_best_0 : decode cX3_best 0 = .ok (.aload_n 0, 1) := by decide +kernel
theorem dX3_best_1 : decode cX3_best 1 = .ok (.lconst 0, 1) := by decide +kernel
theorem dX3_best_2 : decode cX3_best 2 = .ok (.invokevirtual 143, 3) := by decide +kernel
theorem dX3_best_5 : decode cX3_best 5 = .ok (.aload_n 0, 1) := by decide +kernel
theorem dX3_best_6 : decode cX3_best 6 = .ok (.getfield 28, 3) := by decide +kernel
theorem dX3_best_9 : decode cX3_best 9 = .ok (.invokevirtual 147, 3) := by decide +kernel
theorem dX3_best_12 : decode cX3_best 12 = .ok (.ifCond .ne 5, 3) := by decide +kernel
theorem dX3_best_15 : decode cX3_best 15 = .ok (.iconst (-1), 1) := by decide +kernel
theorem dX3_best_16 : decode cX3_best 16 = .ok (.ireturn, 1) := by decide +kernel
theorem dX3_best_17 : decode cX3_best 17 = .ok (.aload_n 0, 1) := by decide +kernel
theorem dX3_best_18 : decode cX3_best 18 = .ok (.aload_n 0, 1) := by decide +kernel
theorem dX3_best_19 : decode cX3_best 19 = .ok (.getfield 28, 3) := by decide +kernel
theorem dX3_best_22 : decode cX3_best 22 = .ok (.getfield 151, 3) := by decide +kernel
theorem dX3_best_25 : decode cX3_best 25 = .ok (.invokevirtual 140, 3) := by decide +kernel
theorem dX3_best_28 : decode cX3_best 28 = .ok (.aload_n 0, 1) := by decide +kernel
theorem dX3_best_29 : decode cX3_best 29 = .ok (.invokevirtual 88, 3) := by decide +kernel
theorem dX3_best_32 : decode cX3_best 32 = .ok (.ireturn, 1) := by decide +kernel
set_option maxRecDepth 20000 in
theorem ggX3_mend_X3_offerPictures : GoodIn wsX3_mend wsX3_offerPictures := goodIn_r _ [8, 2, 9, 10, 11, 12, 13, 14, 15, 16, 17, 18, 19, 20, 21, 22, 23, 24, 25, 7, 26, 27, 28, 29, 30, 31, 32, 33, 34, 35, 36, 37, 38, 39, 3, 40, 41, 42, 43, 44, 45, 46, 47, 48, 49, 50, 51, 52, 53, 54, 55, 56, 57, 58, 103, 104, 105, 106, 107, 108, 109, 110, 111, 112, 113, 114, 115, 116, 117, 118, 119, 120, 121, 122, 123, 124, 125, 126, 127, 128, 129, 130, 131, 132, 133, 134, 135, 136] (by decide +kernel) (by decide +kernel)
set_option maxRecDepth 20000 in
theorem gX3_mend_X3_offerPictures : GoodIn wsX3_mend (wsV RX3 143 RX3 yX3_offerPictures wsX3_offerPictures) := goodIn_app (goodIn_of _ (by decide +kernel)) ggX3_mend_X3_offerPictures
set_option maxRecDepth 20000 in
theorem ggX3_mend_X0_findBest : GoodIn wsX3_mend wsX0_findBest := goodIn_r _ [62, 63, 64, 65, 66, 16, 67, 20, 58, 68, 56, 57, 69, 46, 44, 45, 70, 71, 72, 73, 55, 74, 75, 76, 77, 19, 78, 79, 80, 81, 82, 83, 84, 22, 18, 112, 113, 114, 115, 116, 117, 118, 119, 120, 121, 122, 123, 124, 125] (by decide +kernel) (by decide +kernel)
set_option maxRecDepth 20000 in
theorem gX3_mend_X0_findBest : GoodIn wsX3_mend (wsV RX3 147 RX0 yX0_findBest wsX0_findBest) := goodIn_app (goodIn_of _ (by decide +kernel)) ggX3_mend_X0_findBest
set_option maxRecDepth 20000 in
theorem ggX3_mend_X3_decide : GoodIn wsX3_mend wsX3_decide := goodIn_r _ [88, 3, 89, 90, 91, 92, 93, 94, 95, 103, 104, 105, 106, 107, 108, 109, 110, 111, 137, 138, 139, 140, 141, 142, 143, 144, 145, 146] (by decide +kernel) (by decide +kernel)
set_option maxRecDepth 20000 in
theorem gX3_mend_X3_decide : GoodIn wsX3_mend (wsV RX3 140 RX3 yX3_decide wsX3_decide) := goodIn_app (goodIn_of _ (by decide +kernel)) ggX3_mend_X3_decide
set_option maxRecDepth 20000 in
theorem ggX3_mend_J6_bitCount_0f7a4 : GoodIn wsX3_mend wsJ6_bitCount_0f7a4 := goodIn_r _ [99, 100, 101, 102] (by decide +kernel) (by decide +kernel)
set_option maxRecDepth 20000 in
theorem gX3_mend_J6_bitCount_0f7a4 : GoodIn wsX3_mend (va_wsS RX3 156 yJ6_bitCount_0f7a4 wsJ6_bitCount_0f7a4) := goodIn_app (goodIn_of _ (by decide +kernel)) ggX3_mend_J6_bitCount_0f7a4
theorem dX3_mend_0 : decode cX3_mend 0 = .ok (.aload_n 0, 1) := by decide +kernel
theorem dX3_mend_1 : decode cX3_mend 1 = .ok (.ldc2_w 154, 3) := by decide +kernel
theorem dX3_mend_4 : decode cX3_mend 4 = .ok (.invokevirtual 143, 3) := by decide +kernel
theorem dX3_mend_7 : decode cX3_mend 7 = .ok (.aload_n 0, 1) := by decide +kernel
theorem dX3_mend_8 : decode cX3_mend 8 = .ok (.getfield 28, 3) := by decide +kernel
theorem dX3_mend_11 : decode cX3_mend 11 = .ok (.invokevirtual 147, 3) := by decide +kernel
theorem dX3_mend_14 : decode cX3_mend 14 = .ok (.ifCond .ne 5, 3) := by decide +kernel
theorem dX3_mend_17 : decode cX3_mend 17 = .ok (.iconst (-1), 1) := by decide +kernel
theorem dX3_mend_18 : decode cX3_mend 18 = .ok (.ireturn, 1) := by decide +kernel
theorem dX3_mend_19 : decode cX3_mend 19 = .ok (.aload_n 0, 1) := by decide +kernel
theorem dX3_mend_20 : decode cX3_mend 20 = .ok (.getfield 85, 3) := by decide +kernel
theorem dX3_mend_23 : decode cX3_mend 23 = .ok (.istore_n 1, 1) := by decide +kernel
theorem dX3_mend_24 : decode cX3_mend 24 = .ok (.aload_n 0, 1) := by decide +kernel
theorem dX3_mend_25 : decode cX3_mend 25 = .ok (.aload_n 0, 1) := by decide +kernel
theorem dX3_mend_26 : decode cX3_mend 26 = .ok (.getfield 28, 3) := by decide +kernel
theorem dX3_mend_29 : decode cX3_mend 29 = .ok (.getfield 151, 3) := by decide +kernel
theorem dX3_mend_32 : decode cX3_mend 32 = .ok (.invokevirtual 140, 3) := by decide +kernel
theorem dX3_mend_35 : decode cX3_mend 35 = .ok (.iload_n 1, 1) := by decide +kernel
theorem dX3_mend_36 : decode cX3_mend 36 = .ok (.aload_n 0, 1) := by decide +kernel
theorem dX3_mend_37 : decode cX3_mend 37 = .ok (.getfield 85, 3) := by decide +kernel
theorem dX3_mend_40 : decode cX3_mend 40 = .ok (.ixor, 1) := by decide +kernel
theorem dX3_mend_41 : decode cX3_mend 41 = .ok (.invokestatic 156, 3) := by decide +kernel
theorem dX3_mend_44 : decode cX3_mend 44 = .ok (.ireturn, 1) := by decide +kernel
set_option maxRecDepth 20000 in
theorem ggX3_choices_X3_offerPictures : GoodIn wsX3_choices wsX3_offerPictures := goodIn_r _ [6, 1, 7, 8, 9, 10, 11, 12, 13, 14, 15, 16, 17, 18, 19, 20, 21, 22, 23, 5, 24, 25, 26, 27, 28, 29, 30, 31, 32, 33, 34, 35, 36, 37, 38, 39, 40, 41, 42, 43, 44, 45, 46, 47, 48, 49, 50, 51, 52, 53, 54, 55, 56, 57, 81, 82, 83, 84, 85, 86, 87, 88, 89, 90, 91, 92, 93, 94, 95, 96, 97, 98, 99, 100, 101, 102, 103, 104, 105, 106, 107, 108, 109, 110, 111, 112, 113, 114] (by decide +kernel) (by decide +kernel)
set_option maxRecDepth 20000 in
theorem gX3_choices_X3_offerPictures : GoodIn wsX3_choices (wsV RX3 143 RX3 yX3_offerPictures wsX3_offerPictures) := goodIn_app (goodIn_of _ (by decide +kernel)) ggX3_choices_X3_offerPictures
set_option maxRecDepth 20000 in
theorem ggX3_choices_X0_countFitting : GoodIn wsX3_choices wsX0_countFitting := goodIn_r _ [61, 62, 63, 64, 14, 65, 18, 54, 44, 66, 67, 68, 69, 70, 71, 72, 73, 17, 74, 75, 76, 77, 78, 79, 80, 20, 16, 90, 91, 92, 93, 94, 95, 96, 97, 98, 99, 100, 101, 102, 103] (by decide +kernel) (by decide +kernel)
set_option maxRecDepth 20000 in
theorem gX3_choices_X0_countFitting : GoodIn wsX3_choices (wsV RX3 161 RX0 yX0_countFitting wsX0_countFitting) := goodIn_app (goodIn_of _ (by decide +kernel)) ggX3_choices_X0_countFitting
theorem dX3_choices_0 : decode cX3_choices 0 = .ok (.aload_n 0, 1) := by decide +kernel
theorem dX3_choices_1 : decode cX3_choices 1 = .ok (.lconst 0, 1) := by decide +kernel
theorem dX3_choices_2 : decode cX3_choices 2 = .ok (.invokevirtual 143, 3) := by decide +kernel
theorem dX3_choices_5 : decode cX3_choices 5 = .ok (.aload_n 0, 1) := by decide +kernel
theorem dX3_choices_6 : decode cX3_choices 6 = .ok (.getfield 28, 3) := by decide +kernel
theorem dX3_choices_9 : decode cX3_choices 9 = .ok (.invokevirtual 161, 3) := by decide +kernel
theorem dX3_choices_12 : decode cX3_choices 12 = .ok (.ireturn, 1) := by decide +kernel
set_option maxRecDepth 20000 in
theorem ggX3_lacking_X3_shownIn : GoodIn wsX3_lacking wsX3_shownIn := goodIn_r _ [8, 9, 10, 11, 7, 12, 2, 13, 23, 24, 25, 26, 27, 28, 29, 30, 31, 32, 33, 14, 15, 16, 17, 18, 19, 20, 21, 22] (by decide +kernel) (by decide +kernel)
set_option maxRecDepth 20000 in
theorem gX3_lacking_X3_shownIn : GoodIn wsX3_lacking (wsV RX3 137 RX3 yX3_shownIn wsX3_shownIn) := goodIn_app (goodIn_of _ (by decide +kernel)) ggX3_lacking_X3_shownIn
theorem dX3_lacking_0 : decode cX3_lacking 0 = .ok (.iconst 0, 1) := by decide +kernel
theorem dX3_lacking_1 : decode cX3_lacking 1 = .ok (.istore_n 1, 1) := by decide +kernel
theorem dX3_lacking_2 : decode cX3_lacking 2 = .ok (.iload_n 1, 1) := by decide +kernel
theorem dX3_lacking_3 : decode cX3_lacking 3 = .ok (.aload_n 0, 1) := by decide +kernel
theorem dX3_lacking_4 : decode cX3_lacking 4 = .ok (.getfield 43, 3) := by decide +kernel
theorem dX3_lacking_7 : decode cX3_lacking 7 = .ok (.if_icmp .ge 51, 3) := by decide +kernel
theorem dX3_lacking_10 : decode cX3_lacking 10 = .ok (.iconst 0, 1) := by decide +kernel
theorem dX3_lacking_11 : decode cX3_lacking 11 = .ok (.istore_n 2, 1) := by decide +kernel
theorem dX3_lacking_12 : decode cX3_lacking 12 = .ok (.iconst 0, 1) := by decide +kernel
theorem dX3_lacking_13 : decode cX3_lacking 13 = .ok (.istore_n 3, 1) := by decide +kernel
theorem dX3_lacking_14 : decode cX3_lacking 14 = .ok (.iload_n 3, 1) := by decide +kernel
theorem dX3_lacking_15 : decode cX3_lacking 15 = .ok (.aload_n 0, 1) := by decide +kernel
theorem dX3_lacking_16 : decode cX3_lacking 16 = .ok (.getfield 51, 3) := by decide +kernel
theorem dX3_lacking_19 : decode cX3_lacking 19 = .ok (.if_icmp .ge 21, 3) := by decide +kernel
theorem dX3_lacking_22 : decode cX3_lacking 22 = .ok (.iload_n 2, 1) := by decide +kernel
theorem dX3_lacking_23 : decode cX3_lacking 23 = .ok (.aload_n 0, 1) := by decide +kernel
theorem dX3_lacking_24 : decode cX3_lacking 24 = .ok (.iload_n 3, 1) := by decide +kernel
theorem dX3_lacking_25 : decode cX3_lacking 25 = .ok (.invokevirtual 137, 3) := by decide +kernel
theorem dX3_lacking_28 : decode cX3_lacking 28 = .ok (.iload_n 1, 1) := by decide +kernel
theorem dX3_lacking_29 : decode cX3_lacking 29 = .ok (.ishr, 1) := by decide +kernel
theorem dX3_lacking_30 : decode cX3_lacking 30 = .ok (.iconst 1, 1) := by decide +kernel
theorem dX3_lacking_31 : decode cX3_lacking 31 = .ok (.iand, 1) := by decide +kernel
theorem dX3_lacking_32 : decode cX3_lacking 32 = .ok (.iadd, 1) := by decide +kernel
theorem dX3_lacking_33 : decode cX3_lacking 33 = .ok (.istore_n 2, 1) := by decide +kernel
theorem dX3_lacking_34 : decode cX3_lacking 34 = .ok (.iinc 3 1, 3) := by decide +kernel
theorem dX3_lacking_37 : decode cX3_lacking 37 = .ok (.goto (-23), 3) := by decide +kernel
theorem dX3_lacking_40 : decode cX3_lacking 40 = .ok (.iload_n 2, 1) := by decide +kernel
theorem dX3_lacking_41 : decode cX3_lacking 41 = .ok (.aload_n 0, 1) := by decide +kernel
theorem dX3_lacking_42 : decode cX3_lacking 42 = .ok (.getfield 22, 3) := by decide +kernel
theorem dX3_lacking_45 : decode cX3_lacking 45 = .ok (.iconst 1, 1) := by decide +kernel
theorem dX3_lacking_46 : decode cX3_lacking 46 = .ok (.iaload, 1) := by decide +kernel
theorem dX3_lacking_47 : decode cX3_lacking 47 = .ok (.if_icmp .ge 5, 3) := by decide +kernel
theorem dX3_lacking_50 : decode cX3_lacking 50 = .ok (.iload_n 1, 1) := by decide +kernel
theorem dX3_lacking_51 : decode cX3_lacking 51 = .ok (.ireturn, 1) := by decide +kernel
theorem dX3_lacking_52 : decode cX3_lacking 52 = .ok (.iinc 1 1, 3) := by decide +kernel
theorem dX3_lacking_55 : decode cX3_lacking 55 = .ok (.goto (-53), 3) := by decide +kernel
theorem dX3_lacking_58 : decode cX3_lacking 58 = .ok (.iconst (-1), 1) := by decide +kernel
theorem dX3_lacking_59 : decode cX3_lacking 59 = .ok (.ireturn, 1) := by decide +kernel
set_option maxRecDepth 20000 in
theorem ggX3_fewest_X1_pagesFor : GoodIn wsX3_fewest wsX1_pagesFor := goodIn_r _ [7, 8, 9, 10, 11, 12, 13, 6, 14, 15, 16, 17, 18, 19, 20, 21, 22, 23, 24, 25, 26, 27, 28, 29, 30, 31, 32, 33, 34, 35, 36, 37, 38, 48, 49, 50, 51, 52, 53, 54, 55, 56, 57] (by decide +kernel) (by decide +kernel)
set_option maxRecDepth 20000 in
theorem gX3_fewest_X1_pagesFor : GoodIn wsX3_fewest (wsV RX3 164 RX1 yX1_pagesFor wsX1_pagesFor) := goodIn_app (goodIn_of _ (by decide +kernel)) ggX3_fewest_X1_pagesFor
theorem dX3_fewest_0 : decode cX3_fewest 0 = .ok (.aload_n 0, 1) := by decide +kernel
theorem dX3_fewest_1 : decode cX3_fewest 1 = .ok (.getfield 35, 3) := by decide +kernel
theorem dX3_fewest_4 : decode cX3_fewest 4 = .ok (.aload_n 0, 1) := by decide +kernel
theorem dX3_fewest_5 : decode cX3_fewest 5 = .ok (.getfield 85, 3) := by decide +kernel
theorem dX3_fewest_8 : decode cX3_fewest 8 = .ok (.invokevirtual 164, 3) := by decide +kernel
theorem dX3_fewest_11 : decode cX3_fewest 11 = .ok (.ireturn, 1) := by decide +kernel
set_option maxRecDepth 20000 in
theorem ggX3_lay_X1_layOut : GoodIn wsX3_lay wsX1_layOut := goodIn_r _ [8, 9, 10, 11, 12, 7, 13, 14, 15, 16, 17, 18, 19, 20, 21, 22, 23, 24, 25, 26, 27, 28, 29, 30, 31, 32, 33, 34, 35, 36, 37, 38, 39, 40, 41, 42, 43, 44, 45, 46, 47, 48, 49, 50, 51, 52, 53, 54, 55, 56, 57, 58, 59, 60, 61, 71, 72, 73, 74, 75, 76, 77, 78, 79, 80] (by decide +kernel) (by decide +kernel)
set_option maxRecDepth 20000 in
theorem gX3_lay_X1_layOut : GoodIn wsX3_lay (wsV RX3 167 RX1 yX1_layOut wsX1_layOut) := goodIn_app (goodIn_of _ (by decide +kernel)) ggX3_lay_X1_layOut
theorem dX3_lay_0 : decode cX3_lay 0 = .ok (.aload_n 0, 1) := by decide +kernel
theorem dX3_lay_1 : decode cX3_lay 1 = .ok (.getfield 35, 3) := by decide +kernel
theorem dX3_lay_4 : decode cX3_lay 4 = .ok (.aload_n 0, 1) := by decide +kernel
theorem dX3_lay_5 : decode cX3_lay 5 = .ok (.getfield 85, 3) := by decide +kernel
theorem dX3_lay_8 : decode cX3_lay 8 = .ok (.aload_n 0, 1) := by decide +kernel
theorem dX3_lay_9 : decode cX3_lay 9 = .ok (.getfield 22, 3) := by decide +kernel
theorem dX3_lay_12 : decode cX3_lay 12 = .ok (.iconst 3, 1) := by decide +kernel
theorem dX3_lay_13 : decode cX3_lay 13 = .ok (.iaload, 1) := by decide +kernel
theorem dX3_lay_14 : decode cX3_lay 14 = .ok (.invokevirtual 167, 3) := by decide +kernel
theorem dX3_lay_17 : decode cX3_lay 17 = .ok (.ireturn, 1) := by decide +kernel
set_option maxRecDepth 20000 in
theorem ggX3_page_X1_has : GoodIn wsX3_page wsX1_has := goodIn_r _ [6, 7, 17, 18, 19, 20, 21, 22, 23, 24, 25, 26] (by decide +kernel) (by decide +kernel)
set_option maxRecDepth 20000 in
theorem gX3_page_X1_has : GoodIn wsX3_page (wsV RX3 170 RX1 yX1_has wsX1_has) := goodIn_app (goodIn_of _ (by decide +kernel)) ggX3_page_X1_has
theorem dX3_page_0 : decode cX3_page 0 = .ok (.aload_n 0, 1) := by decide +kernel
theorem dX3_page_1 : decode cX3_page 1 = .ok (.getfield 35, 3) := by decide +kernel
theorem dX3_page_4 : decode cX3_page 4 = .ok (.iload_n 1, 1) := by decide +kernel
theorem dX3_page_5 : decode cX3_page 5 = .ok (.invokevirtual 170, 3) := by decide +kernel
theorem dX3_page_8 : decode cX3_page 8 = .ok (.ifCond .eq 15, 3) := by decide +kernel
theorem dX3_page_11 : decode cX3_page 11 = .ok (.aload_n 0, 1) := by decide +kernel
theorem dX3_page_12 : decode cX3_page 12 = .ok (.getfield 35, 3) := by decide +kernel
theorem dX3_page_15 : decode cX3_page 15 = .ok (.getfield 173, 3) := by decide +kernel
theorem dX3_page_18 : decode cX3_page 18 = .ok (.iload_n 1, 1) := by decide +kernel
theorem dX3_page_19 : decode cX3_page 19 = .ok (.iaload, 1) := by decide +kernel
theorem dX3_page_20 : decode cX3_page 20 = .ok (.goto 4, 3) := by decide +kernel
theorem dX3_page_23 : decode cX3_page 23 = .ok (.iconst (-1), 1) := by decide +kernel
theorem dX3_page_24 : decode cX3_page 24 = .ok (.ireturn, 1) := by decide +kernel
set_option maxRecDepth 20000 in
theorem ggX3_left_X1_has : GoodIn wsX3_left wsX1_has := goodIn_r _ [6, 7, 23, 24, 25, 26, 27, 28, 29, 30, 31, 32] (by decide +kernel) (by decide +kernel)
set_option maxRecDepth 20000 in
theorem gX3_left_X1_has : GoodIn wsX3_left (wsV RX3 170 RX1 yX1_has wsX1_has) := goodIn_app (goodIn_of _ (by decide +kernel)) ggX3_left_X1_has
set_option maxRecDepth 20000 in
theorem ggX3_left_X1_pointsOf : GoodIn wsX3_left wsX1_pointsOf := goodIn_r _ [11, 12, 13, 23, 24, 25, 26, 27, 28, 29, 30, 31, 32] (by decide +kernel) (by decide +kernel)
set_option maxRecDepth 20000 in
theorem gX3_left_X1_pointsOf : GoodIn wsX3_left (wsV RX3 176 RX1 yX1_pointsOf wsX1_pointsOf) := goodIn_app (goodIn_of _ (by decide +kernel)) ggX3_left_X1_pointsOf
theorem dX3_left_0 : decode cX3_left 0 = .ok (.aload_n 0, 1) := by decide +kernel
theorem dX3_left_1 : decode cX3_left 1 = .ok (.getfield 35, 3) := by decide +kernel
theorem dX3_left_4 : decode cX3_left 4 = .ok (.iload_n 1, 1) := by decide +kernel
theorem dX3_left_5 : decode cX3_left 5 = .ok (.invokevirtual 170, 3) := by decide +kernel
theorem dX3_left_8 : decode cX3_left 8 = .ok (.ifCond .eq 25, 3) := by decide +kernel
theorem dX3_left_11 : decode cX3_left 11 = .ok (.bipush 12, 2) := by decide +kernel
theorem dX3_left_13 : decode cX3_left 13 = .ok (.aload_n 0, 1) := by decide +kernel
theorem dX3_left_14 : decode cX3_left 14 = .ok (.getfield 35, 3) := by decide +kernel
theorem dX3_left_17 : decode cX3_left 17 = .ok (.aload_n 0, 1) := by decide +kernel
theorem dX3_left_18 : decode cX3_left 18 = .ok (.getfield 35, 3) := by decide +kernel
theorem dX3_left_21 : decode cX3_left 21 = .ok (.getfield 173, 3) := by decide +kernel
theorem dX3_left_24 : decode cX3_left 24 = .ok (.iload_n 1, 1) := by decide +kernel
theorem dX3_left_25 : decode cX3_left 25 = .ok (.iaload, 1) := by decide +kernel
theorem dX3_left_26 : decode cX3_left 26 = .ok (.invokevirtual 176, 3) := by decide +kernel
end
section
theorem dX3_left_29 : decode cX3_left 29 = .ok (.isub, 1) := by decide +kernel
theorem dX3_left_30 : decode cX3_left 30 = .ok (.goto 4, 3) := by decide +kernel
theorem dX3_left_33 : decode cX3_left 33 = .ok (.iconst (-1), 1) := by decide +kernel
theorem dX3_left_34 : decode cX3_left 34 = .ok (.ireturn, 1) := by decide +kernel
set_option maxRecDepth 20000 in
theorem ggX3_late_X3_pictureAt : GoodIn wsX3_late wsX3_pictureAt := goodIn_r _ [8, 9, 10, 92, 93, 94, 95, 96, 97, 98, 99, 100] (by decide +kernel) (by decide +kernel)
set_option maxRecDepth 20000 in
theorem gX3_late_X3_pictureAt : GoodIn wsX3_late (wsV RX3 54 RX3 yX3_pictureAt wsX3_pictureAt) := goodIn_app (goodIn_of _ (by decide +kernel)) ggX3_late_X3_pictureAt
set_option maxRecDepth 20000 in
theorem ggX3_late_X3_isChosen : GoodIn wsX3_late wsX3_isChosen := goodIn_r _ [14, 3, 92, 93, 94, 95, 96, 97, 98, 99, 100] (by decide +kernel) (by decide +kernel)
set_option maxRecDepth 20000 in
theorem gX3_late_X3_isChosen : GoodIn wsX3_late (wsV RX3 134 RX3 yX3_isChosen wsX3_isChosen) := goodIn_app (goodIn_of _ (by decide +kernel)) ggX3_late_X3_isChosen
set_option maxRecDepth 20000 in
theorem ggX3_late_X1_bringIn : GoodIn wsX3_late wsX1_bringIn := goodIn_r _ [19, 20, 21, 22, 23, 24, 18, 25, 26, 27, 28, 29, 30, 31, 32, 33, 34, 35, 36, 37, 38, 39, 40, 41, 42, 43, 44, 45, 46, 47, 48, 49, 50, 51, 52, 53, 54, 55, 56, 57, 58, 59, 60, 61, 62, 63, 64, 65, 66, 67, 68, 69, 70, 71, 72, 73, 74, 75, 76, 77, 78, 79, 80, 81, 82, 83, 84, 85, 86, 87, 88, 89, 90, 91, 101, 102, 103, 104, 105, 106, 107, 108, 109, 110] (by decide +kernel) (by decide +kernel)
set_option maxRecDepth 20000 in
theorem gX3_late_X1_bringIn : GoodIn wsX3_late (wsV RX3 179 RX1 yX1_bringIn wsX1_bringIn) := goodIn_app (goodIn_of _ (by decide +kernel)) ggX3_late_X1_bringIn
theorem dX3_late_0 : decode cX3_late 0 = .ok (.aload_n 0, 1) := by decide +kernel
theorem dX3_late_1 : decode cX3_late 1 = .ok (.iload_n 1, 1) := by decide +kernel
theorem dX3_late_2 : decode cX3_late 2 = .ok (.invokevirtual 54, 3) := by decide +kernel
theorem dX3_late_5 : decode cX3_late 5 = .ok (.ifnull 21, 3) := by decide +kernel
theorem dX3_late_8 : decode cX3_late 8 = .ok (.aload_n 0, 1) := by decide +kernel
theorem dX3_late_9 : decode cX3_late 9 = .ok (.iload_n 1, 1) := by decide +kernel
theorem dX3_late_10 : decode cX3_late 10 = .ok (.invokevirtual 134, 3) := by decide +kernel
theorem dX3_late_13 : decode cX3_late 13 = .ok (.ifCond .ne 13, 3) := by decide +kernel
theorem dX3_late_16 : decode cX3_late 16 = .ok (.aload_n 0, 1) := by decide +kernel
theorem dX3_late_17 : decode cX3_late 17 = .ok (.getfield 35, 3) := by decide +kernel
theorem dX3_late_20 : decode cX3_late 20 = .ok (.getfield 92, 3) := by decide +kernel
theorem dX3_late_23 : decode cX3_late 23 = .ok (.ifCond .ne 5, 3) := by decide +kernel
theorem dX3_late_26 : decode cX3_late 26 = .ok (.iconst (-1), 1) := by decide +kernel
theorem dX3_late_27 : decode cX3_late 27 = .ok (.ireturn, 1) := by decide +kernel
theorem dX3_late_28 : decode cX3_late 28 = .ok (.aload_n 0, 1) := by decide +kernel
theorem dX3_late_29 : decode cX3_late 29 = .ok (.getfield 35, 3) := by decide +kernel
theorem dX3_late_32 : decode cX3_late 32 = .ok (.iload_n 1, 1) := by decide +kernel
theorem dX3_late_33 : decode cX3_late 33 = .ok (.aload_n 0, 1) := by decide +kernel
theorem dX3_late_34 : decode cX3_late 34 = .ok (.getfield 22, 3) := by decide +kernel
theorem dX3_late_37 : decode cX3_late 37 = .ok (.iconst 3, 1) := by decide +kernel
theorem dX3_late_38 : decode cX3_late 38 = .ok (.iaload, 1) := by decide +kernel
theorem dX3_late_39 : decode cX3_late 39 = .ok (.invokevirtual 179, 3) := by decide +kernel
theorem dX3_late_42 : decode cX3_late 42 = .ok (.istore_n 2, 1) := by decide +kernel
theorem dX3_late_43 : decode cX3_late 43 = .ok (.iload_n 2, 1) := by decide +kernel
theorem dX3_late_44 : decode cX3_late 44 = .ok (.iconst (-1), 1) := by decide +kernel
theorem dX3_late_45 : decode cX3_late 45 = .ok (.if_icmp .eq 15, 3) := by decide +kernel
theorem dX3_late_48 : decode cX3_late 48 = .ok (.aload_n 0, 1) := by decide +kernel
theorem dX3_late_49 : decode cX3_late 49 = .ok (.dup, 1) := by decide +kernel
theorem dX3_late_50 : decode cX3_late 50 = .ok (.getfield 85, 3) := by decide +kernel
theorem dX3_late_53 : decode cX3_late 53 = .ok (.iconst 1, 1) := by decide +kernel
theorem dX3_late_54 : decode cX3_late 54 = .ok (.iload_n 1, 1) := by decide +kernel
theorem dX3_late_55 : decode cX3_late 55 = .ok (.ishl, 1) := by decide +kernel
theorem dX3_late_56 : decode cX3_late 56 = .ok (.ior, 1) := by decide +kernel
theorem dX3_late_57 : decode cX3_late 57 = .ok (.putfield 85, 3) := by decide +kernel
theorem dX3_late_60 : decode cX3_late 60 = .ok (.iload_n 2, 1) := by decide +kernel
theorem dX3_late_61 : decode cX3_late 61 = .ok (.ireturn, 1) := by decide +kernel
set_option maxRecDepth 20000 in
theorem ggX3_drop_X3_pictureAt : GoodIn wsX3_drop wsX3_pictureAt := goodIn_r _ [7, 8, 9, 21, 22, 23, 24, 25, 26, 27, 28, 29] (by decide +kernel) (by decide +kernel)
set_option maxRecDepth 20000 in
theorem gX3_drop_X3_pictureAt : GoodIn wsX3_drop (wsV RX3 54 RX3 yX3_pictureAt wsX3_pictureAt) := goodIn_app (goodIn_of _ (by decide +kernel)) ggX3_drop_X3_pictureAt
set_option maxRecDepth 20000 in
theorem ggX3_drop_X1_takeOut : GoodIn wsX3_drop wsX1_takeOut := goodIn_r _ [14, 15, 16, 17, 18, 19, 13, 20, 30, 31, 32, 33, 34, 35, 36, 37, 38, 39] (by decide +kernel) (by decide +kernel)
set_option maxRecDepth 20000 in
theorem gX3_drop_X1_takeOut : GoodIn wsX3_drop (wsV RX3 182 RX1 yX1_takeOut wsX1_takeOut) := goodIn_app (goodIn_of _ (by decide +kernel)) ggX3_drop_X1_takeOut
theorem dX3_drop_0 : decode cX3_drop 0 = .ok (.aload_n 0, 1) := by decide +kernel
theorem dX3_drop_1 : decode cX3_drop 1 = .ok (.iload_n 1, 1) := by decide +kernel
theorem dX3_drop_2 : decode cX3_drop 2 = .ok (.invokevirtual 54, 3) := by decide +kernel
theorem dX3_drop_5 : decode cX3_drop 5 = .ok (.ifnull 14, 3) := by decide +kernel
theorem dX3_drop_8 : decode cX3_drop 8 = .ok (.aload_n 0, 1) := by decide +kernel
theorem dX3_drop_9 : decode cX3_drop 9 = .ok (.getfield 35, 3) := by decide +kernel
theorem dX3_drop_12 : decode cX3_drop 12 = .ok (.iload_n 1, 1) := by decide +kernel
theorem dX3_drop_13 : decode cX3_drop 13 = .ok (.invokevirtual 182, 3) := by decide +kernel
theorem dX3_drop_16 : decode cX3_drop 16 = .ok (.ifCond .ne 5, 3) := by decide +kernel
theorem dX3_drop_19 : decode cX3_drop 19 = .ok (.iconst 0, 1) := by decide +kernel
theorem dX3_drop_20 : decode cX3_drop 20 = .ok (.ireturn, 1) := by decide +kernel
theorem dX3_drop_21 : decode cX3_drop 21 = .ok (.aload_n 0, 1) := by decide +kernel
theorem dX3_drop_22 : decode cX3_drop 22 = .ok (.dup, 1) := by decide +kernel
theorem dX3_drop_23 : decode cX3_drop 23 = .ok (.getfield 85, 3) := by decide +kernel
theorem dX3_drop_26 : decode cX3_drop 26 = .ok (.iconst 1, 1) := by decide +kernel
theorem dX3_drop_27 : decode cX3_drop 27 = .ok (.iload_n 1, 1) := by decide +kernel
theorem dX3_drop_28 : decode cX3_drop 28 = .ok (.ishl, 1) := by decide +kernel
theorem dX3_drop_29 : decode cX3_drop 29 = .ok (.iconst (-1), 1) := by decide +kernel
theorem dX3_drop_30 : decode cX3_drop 30 = .ok (.ixor, 1) := by decide +kernel
theorem dX3_drop_31 : decode cX3_drop 31 = .ok (.iand, 1) := by decide +kernel
theorem dX3_drop_32 : decode cX3_drop 32 = .ok (.putfield 85, 3) := by decide +kernel
theorem dX3_drop_35 : decode cX3_drop 35 = .ok (.iconst 1, 1) := by decide +kernel
theorem dX3_drop_36 : decode cX3_drop 36 = .ok (.ireturn, 1) := by decide +kernel
theorem dX3_within_0 : decode cX3_within 0 = .ok (.iload_n 0, 1) := by decide +kernel
theorem dX3_within_1 : decode cX3_within 1 = .ok (.iload_n 1, 1) := by decide +kernel
theorem dX3_within_2 : decode cX3_within 2 = .ok (.if_icmp .lt 12, 3) := by decide +kernel
theorem dX3_within_5 : decode cX3_within 5 = .ok (.iload_n 0, 1) := by decide +kernel
theorem dX3_within_6 : decode cX3_within 6 = .ok (.iload_n 2, 1) := by decide +kernel
theorem dX3_within_7 : decode cX3_within 7 = .ok (.if_icmp .gt 7, 3) := by decide +kernel
theorem dX3_within_10 : decode cX3_within 10 = .ok (.iconst 1, 1) := by decide +kernel
theorem dX3_within_11 : decode cX3_within 11 = .ok (.goto 4, 3) := by decide +kernel
theorem dX3_within_14 : decode cX3_within 14 = .ok (.iconst 0, 1) := by decide +kernel
theorem dX3_within_15 : decode cX3_within 15 = .ok (.ireturn, 1) := by decide +kernel
theorem dX3_isChild_0 : decode cX3_isChild 0 = .ok (.iload_n 1, 1) := by decide +kernel
theorem dX3_isChild_1 : decode cX3_isChild 1 = .ok (.ifCond .lt 15, 3) := by decide +kernel
theorem dX3_isChild_4 : decode cX3_isChild 4 = .ok (.iload_n 1, 1) := by decide +kernel
theorem dX3_isChild_5 : decode cX3_isChild 5 = .ok (.aload_n 0, 1) := by decide +kernel
theorem dX3_isChild_6 : decode cX3_isChild 6 = .ok (.getfield 43, 3) := by decide +kernel
theorem dX3_isChild_9 : decode cX3_isChild 9 = .ok (.if_icmp .ge 7, 3) := by decide +kernel
theorem dX3_isChild_12 : decode cX3_isChild 12 = .ok (.iconst 1, 1) := by decide +kernel
theorem dX3_isChild_13 : decode cX3_isChild 13 = .ok (.goto 4, 3) := by decide +kernel
theorem dX3_isChild_16 : decode cX3_isChild 16 = .ok (.iconst 0, 1) := by decide +kernel
theorem dX3_isChild_17 : decode cX3_isChild 17 = .ok (.ireturn, 1) := by decide +kernel
theorem dX3_pictureAt_0 : decode cX3_pictureAt 0 = .ok (.iload_n 1, 1) := by decide +kernel
theorem dX3_pictureAt_1 : decode cX3_pictureAt 1 = .ok (.ifCond .lt 20, 3) := by decide +kernel
theorem dX3_pictureAt_4 : decode cX3_pictureAt 4 = .ok (.iload_n 1, 1) := by decide +kernel
theorem dX3_pictureAt_5 : decode cX3_pictureAt 5 = .ok (.aload_n 0, 1) := by decide +kernel
theorem dX3_pictureAt_6 : decode cX3_pictureAt 6 = .ok (.getfield 51, 3) := by decide +kernel
theorem dX3_pictureAt_9 : decode cX3_pictureAt 9 = .ok (.if_icmp .ge 12, 3) := by decide +kernel
theorem dX3_pictureAt_12 : decode cX3_pictureAt 12 = .ok (.aload_n 0, 1) := by decide +kernel
theorem dX3_pictureAt_13 : decode cX3_pictureAt 13 = .ok (.getfield 18, 3) := by decide +kernel
theorem dX3_pictureAt_16 : decode cX3_pictureAt 16 = .ok (.iload_n 1, 1) := by decide +kernel
theorem dX3_pictureAt_17 : decode cX3_pictureAt 17 = .ok (.aaload, 1) := by decide +kernel
theorem dX3_pictureAt_18 : decode cX3_pictureAt 18 = .ok (.goto 4, 3) := by decide +kernel
theorem dX3_pictureAt_21 : decode cX3_pictureAt 21 = .ok (.aconst_null, 1) := by decide +kernel
theorem dX3_pictureAt_22 : decode cX3_pictureAt 22 = .ok (.areturn, 1) := by decide +kernel
theorem dX3_isChosen_0 : decode cX3_isChosen 0 = .ok (.aload_n 0, 1) := by decide +kernel
theorem dX3_isChosen_1 : decode cX3_isChosen 1 = .ok (.getfield 85, 3) := by decide +kernel
theorem dX3_isChosen_4 : decode cX3_isChosen 4 = .ok (.iload_n 1, 1) := by decide +kernel
theorem dX3_isChosen_5 : decode cX3_isChosen 5 = .ok (.ishr, 1) := by decide +kernel
theorem dX3_isChosen_6 : decode cX3_isChosen 6 = .ok (.iconst 1, 1) := by decide +kernel
theorem dX3_isChosen_7 : decode cX3_isChosen 7 = .ok (.iand, 1) := by decide +kernel
theorem dX3_isChosen_8 : decode cX3_isChosen 8 = .ok (.ifCond .eq 7, 3) := by decide +kernel
theorem dX3_isChosen_11 : decode cX3_isChosen 11 = .ok (.iconst 1, 1) := by decide +kernel
theorem dX3_isChosen_12 : decode cX3_isChosen 12 = .ok (.goto 4, 3) := by decide +kernel
theorem dX3_isChosen_15 : decode cX3_isChosen 15 = .ok (.iconst 0, 1) := by decide +kernel
theorem dX3_isChosen_16 : decode cX3_isChosen 16 = .ok (.ireturn, 1) := by decide +kernel
set_option maxRecDepth 20000 in
theorem ggX3_shownIn_X3_pictureAt : GoodIn wsX3_shownIn wsX3_pictureAt := goodIn_r _ [5, 6, 7, 19, 20, 21, 22, 23, 24, 25, 26, 27] (by decide +kernel) (by decide +kernel)
set_option maxRecDepth 20000 in
theorem gX3_shownIn_X3_pictureAt : GoodIn wsX3_shownIn (wsV RX3 54 RX3 yX3_pictureAt wsX3_pictureAt) := goodIn_app (goodIn_of _ (by decide +kernel)) ggX3_shownIn_X3_pictureAt
theorem dX3_shownIn_0 : decode cX3_shownIn 0 = .ok (.aload_n 0, 1) := by decide +kernel
theorem dX3_shownIn_1 : decode cX3_shownIn 1 = .ok (.iload_n 1, 1) := by decide +kernel
theorem dX3_shownIn_2 : decode cX3_shownIn 2 = .ok (.invokevirtual 54, 3) := by decide +kernel
theorem dX3_shownIn_5 : decode cX3_shownIn 5 = .ok (.astore_n 2, 1) := by decide +kernel
theorem dX3_shownIn_6 : decode cX3_shownIn 6 = .ok (.aload_n 2, 1) := by decide +kernel
theorem dX3_shownIn_7 : decode cX3_shownIn 7 = .ok (.ifnonnull 7, 3) := by decide +kernel
theorem dX3_shownIn_10 : decode cX3_shownIn 10 = .ok (.iconst 0, 1) := by decide +kernel
theorem dX3_shownIn_11 : decode cX3_shownIn 11 = .ok (.goto 7, 3) := by decide +kernel
theorem dX3_shownIn_14 : decode cX3_shownIn 14 = .ok (.aload_n 2, 1) := by decide +kernel
theorem dX3_shownIn_15 : decode cX3_shownIn 15 = .ok (.getfield 117, 3) := by decide +kernel
theorem dX3_shownIn_18 : decode cX3_shownIn 18 = .ok (.ireturn, 1) := by decide +kernel
set_option maxRecDepth 20000 in
theorem ggX3_worthOf_X3_pictureAt : GoodIn wsX3_worthOf wsX3_pictureAt := goodIn_r _ [5, 6, 7, 19, 20, 21, 22, 23, 24, 25, 26, 27] (by decide +kernel) (by decide +kernel)
set_option maxRecDepth 20000 in
theorem gX3_worthOf_X3_pictureAt : GoodIn wsX3_worthOf (wsV RX3 54 RX3 yX3_pictureAt wsX3_pictureAt) := goodIn_app (goodIn_of _ (by decide +kernel)) ggX3_worthOf_X3_pictureAt
theorem dX3_worthOf_0 : decode cX3_worthOf 0 = .ok (.aload_n 0, 1) := by decide +kernel
theorem dX3_worthOf_1 : decode cX3_worthOf 1 = .ok (.iload_n 1, 1) := by decide +kernel
theorem dX3_worthOf_2 : decode cX3_worthOf 2 = .ok (.invokevirtual 54, 3) := by decide +kernel
theorem dX3_worthOf_5 : decode cX3_worthOf 5 = .ok (.astore_n 2, 1) := by decide +kernel
theorem dX3_worthOf_6 : decode cX3_worthOf 6 = .ok (.aload_n 2, 1) := by decide +kernel
theorem dX3_worthOf_7 : decode cX3_worthOf 7 = .ok (.ifnonnull 7, 3) := by decide +kernel
theorem dX3_worthOf_10 : decode cX3_worthOf 10 = .ok (.iconst 0, 1) := by decide +kernel
theorem dX3_worthOf_11 : decode cX3_worthOf 11 = .ok (.goto 7, 3) := by decide +kernel
theorem dX3_worthOf_14 : decode cX3_worthOf 14 = .ok (.aload_n 2, 1) := by decide +kernel
theorem dX3_worthOf_15 : decode cX3_worthOf 15 = .ok (.getfield 111, 3) := by decide +kernel
theorem dX3_worthOf_18 : decode cX3_worthOf 18 = .ok (.ireturn, 1) := by decide +kernel
set_option maxRecDepth 20000 in
theorem ggX3_worthOfChoice_X3_isChosen : GoodIn wsX3_worthOfChoice wsX3_isChosen := goodIn_r _ [6, 7, 17, 18, 19, 20, 21, 22, 23, 24, 25] (by decide +kernel) (by decide +kernel)
set_option maxRecDepth 20000 in
theorem gX3_worthOfChoice_X3_isChosen : GoodIn wsX3_worthOfChoice (wsV RX3 134 RX3 yX3_isChosen wsX3_isChosen) := goodIn_app (goodIn_of _ (by decide +kernel)) ggX3_worthOfChoice_X3_isChosen
set_option maxRecDepth 20000 in
theorem ggX3_worthOfChoice_X3_worthOf : GoodIn wsX3_worthOfChoice wsX3_worthOf := goodIn_r _ [11, 12, 13, 14, 5, 15, 1, 16, 26, 27, 28, 29, 30, 31, 32, 33, 34, 35, 36, 17, 18, 19, 20, 21, 22, 23, 24, 25] (by decide +kernel) (by decide +kernel)
set_option maxRecDepth 20000 in
theorem gX3_worthOfChoice_X3_worthOf : GoodIn wsX3_worthOfChoice (wsV RX3 185 RX3 yX3_worthOf wsX3_worthOf) := goodIn_app (goodIn_of _ (by decide +kernel)) ggX3_worthOfChoice_X3_worthOf
theorem dX3_worthOfChoice_0 : decode cX3_worthOfChoice 0 = .ok (.iconst 0, 1) := by decide +kernel
theorem dX3_worthOfChoice_1 : decode cX3_worthOfChoice 1 = .ok (.istore_n 1, 1) := by decide +kernel
theorem dX3_worthOfChoice_2 : decode cX3_worthOfChoice 2 = .ok (.iconst 0, 1) := by decide +kernel
theorem dX3_worthOfChoice_3 : decode cX3_worthOfChoice 3 = .ok (.istore_n 2, 1) := by decide +kernel
theorem dX3_worthOfChoice_4 : decode cX3_worthOfChoice 4 = .ok (.iload_n 2, 1) := by decide +kernel
theorem dX3_worthOfChoice_5 : decode cX3_worthOfChoice 5 = .ok (.aload_n 0, 1) := by decide +kernel
theorem dX3_worthOfChoice_6 : decode cX3_worthOfChoice 6 = .ok (.getfield 51, 3) := by decide +kernel
theorem dX3_worthOfChoice_9 : decode cX3_worthOfChoice 9 = .ok (.if_icmp .ge 25, 3) := by decide +kernel
theorem dX3_worthOfChoice_12 : decode cX3_worthOfChoice 12 = .ok (.aload_n 0, 1) := by decide +kernel
theorem dX3_worthOfChoice_13 : decode cX3_worthOfChoice 13 = .ok (.iload_n 2, 1) := by decide +kernel
theorem dX3_worthOfChoice_14 : decode cX3_worthOfChoice 14 = .ok (.invokevirtual 134, 3) := by decide +kernel
theorem dX3_worthOfChoice_17 : decode cX3_worthOfChoice 17 = .ok (.ifCond .eq 11, 3) := by decide +kernel
theorem dX3_worthOfChoice_20 : decode cX3_worthOfChoice 20 = .ok (.iload_n 1, 1) := by decide +kernel
theorem dX3_worthOfChoice_21 : decode cX3_worthOfChoice 21 = .ok (.aload_n 0, 1) := by decide +kernel
theorem dX3_worthOfChoice_22 : decode cX3_worthOfChoice 22 = .ok (.iload_n 2, 1) := by decide +kernel
theorem dX3_worthOfChoice_23 : decode cX3_worthOfChoice 23 = .ok (.invokevirtual 185, 3) := by decide +kernel
theorem dX3_worthOfChoice_26 : decode cX3_worthOfChoice 26 = .ok (.iadd, 1) := by decide +kernel
theorem dX3_worthOfChoice_27 : decode cX3_worthOfChoice 27 = .ok (.istore_n 1, 1) := by decide +kernel
theorem dX3_worthOfChoice_28 : decode cX3_worthOfChoice 28 = .ok (.iinc 2 1, 3) := by decide +kernel
theorem dX3_worthOfChoice_31 : decode cX3_worthOfChoice 31 = .ok (.goto (-27), 3) := by decide +kernel
theorem dX3_worthOfChoice_34 : decode cX3_worthOfChoice 34 = .ok (.iload_n 1, 1) := by decide +kernel
theorem dX3_worthOfChoice_35 : decode cX3_worthOfChoice 35 = .ok (.ireturn, 1) := by decide +kernel
set_option maxRecDepth 20000 in
theorem ggX3_goodPictures_X3_shownIn : GoodIn wsX3_goodPictures wsX3_shownIn := goodIn_r _ [6, 7, 8, 9, 5, 10, 1, 11, 21, 22, 23, 24, 25, 26, 27, 28, 29, 30, 31, 12, 13, 14, 15, 16, 17, 18, 19, 20] (by decide +kernel) (by decide +kernel)
set_option maxRecDepth 20000 in
theorem gX3_goodPictures_X3_shownIn : GoodIn wsX3_goodPictures (wsV RX3 137 RX3 yX3_shownIn wsX3_shownIn) := goodIn_app (goodIn_of _ (by decide +kernel)) ggX3_goodPictures_X3_shownIn
theorem dX3_goodPictures_0 : decode cX3_goodPictures 0 = .ok (.iconst 0, 1) := by decide +kernel
theorem dX3_goodPictures_1 : decode cX3_goodPictures 1 = .ok (.istore_n 1, 1) := by decide +kernel
theorem dX3_goodPictures_2 : decode cX3_goodPictures 2 = .ok (.iconst 0, 1) := by decide +kernel
theorem dX3_goodPictures_3 : decode cX3_goodPictures 3 = .ok (.istore_n 2, 1) := by decide +kernel
theorem dX3_goodPictures_4 : decode cX3_goodPictures 4 = .ok (.iload_n 2, 1) := by decide +kernel
theorem dX3_goodPictures_5 : decode cX3_goodPictures 5 = .ok (.aload_n 0, 1) := by decide +kernel
theorem dX3_goodPictures_6 : decode cX3_goodPictures 6 = .ok (.getfield 51, 3) := by decide +kernel
theorem dX3_goodPictures_9 : decode cX3_goodPictures 9 = .ok (.if_icmp .ge 23, 3) := by decide +kernel
theorem dX3_goodPictures_12 : decode cX3_goodPictures 12 = .ok (.aload_n 0, 1) := by decide +kernel
theorem dX3_goodPictures_13 : decode cX3_goodPictures 13 = .ok (.iload_n 2, 1) := by decide +kernel
theorem dX3_goodPictures_14 : decode cX3_goodPictures 14 = .ok (.invokevirtual 137, 3) := by decide +kernel
theorem dX3_goodPictures_17 : decode cX3_goodPictures 17 = .ok (.ifCond .eq 9, 3) := by decide +kernel
theorem dX3_goodPictures_20 : decode cX3_goodPictures 20 = .ok (.iload_n 1, 1) := by decide +kernel
theorem dX3_goodPictures_21 : decode cX3_goodPictures 21 = .ok (.iconst 1, 1) := by decide +kernel
theorem dX3_goodPictures_22 : decode cX3_goodPictures 22 = .ok (.iload_n 2, 1) := by decide +kernel
theorem dX3_goodPictures_23 : decode cX3_goodPictures 23 = .ok (.ishl, 1) := by decide +kernel
theorem dX3_goodPictures_24 : decode cX3_goodPictures 24 = .ok (.ior, 1) := by decide +kernel
theorem dX3_goodPictures_25 : decode cX3_goodPictures 25 = .ok (.istore_n 1, 1) := by decide +kernel
theorem dX3_goodPictures_26 : decode cX3_goodPictures 26 = .ok (.iinc 2 1, 3) := by decide +kernel
theorem dX3_goodPictures_29 : decode cX3_goodPictures 29 = .ok (.goto (-25), 3) := by decide +kernel
theorem dX3_goodPictures_32 : decode cX3_goodPictures 32 = .ok (.iload_n 1, 1) := by decide +kernel
theorem dX3_goodPictures_33 : decode cX3_goodPictures 33 = .ok (.ireturn, 1) := by decide +kernel
set_option maxRecDepth 20000 in
theorem ggX3_childrenInGood_X3_shownIn : GoodIn wsX3_childrenInGood wsX3_shownIn := goodIn_r _ [6, 7, 8, 9, 5, 10, 1, 11, 21, 22, 23, 24, 25, 26, 27, 28, 29, 30, 31, 12, 13, 14, 15, 16, 17, 18, 19, 20] (by decide +kernel) (by decide +kernel)
set_option maxRecDepth 20000 in
theorem gX3_childrenInGood_X3_shownIn : GoodIn wsX3_childrenInGood (wsV RX3 137 RX3 yX3_shownIn wsX3_shownIn) := goodIn_app (goodIn_of _ (by decide +kernel)) ggX3_childrenInGood_X3_shownIn
theorem dX3_childrenInGood_0 : decode cX3_childrenInGood 0 = .ok (.iconst 0, 1) := by decide +kernel
theorem dX3_childrenInGood_1 : decode cX3_childrenInGood 1 = .ok (.istore_n 1, 1) := by decide +kernel
theorem dX3_childrenInGood_2 : decode cX3_childrenInGood 2 = .ok (.iconst 0, 1) := by decide +kernel
theorem dX3_childrenInGood_3 : decode cX3_childrenInGood 3 = .ok (.istore_n 2, 1) := by decide +kernel
theorem dX3_childrenInGood_4 : decode cX3_childrenInGood 4 = .ok (.iload_n 2, 1) := by decide +kernel
theorem dX3_childrenInGood_5 : decode cX3_childrenInGood 5 = .ok (.aload_n 0, 1) := by decide +kernel
theorem dX3_childrenInGood_6 : decode cX3_childrenInGood 6 = .ok (.getfield 51, 3) := by decide +kernel
theorem dX3_childrenInGood_9 : decode cX3_childrenInGood 9 = .ok (.if_icmp .ge 17, 3) := by decide +kernel
theorem dX3_childrenInGood_12 : decode cX3_childrenInGood 12 = .ok (.iload_n 1, 1) := by decide +kernel
theorem dX3_childrenInGood_13 : decode cX3_childrenInGood 13 = .ok (.aload_n 0, 1) := by decide +kernel
theorem dX3_childrenInGood_14 : decode cX3_childrenInGood 14 = .ok (.iload_n 2, 1) := by decide +kernel
theorem dX3_childrenInGood_15 : decode cX3_childrenInGood 15 = .ok (.invokevirtual 137, 3) := by decide +kernel
theorem dX3_childrenInGood_18 : decode cX3_childrenInGood 18 = .ok (.ior, 1) := by decide +kernel
theorem dX3_childrenInGood_19 : decode cX3_childrenInGood 19 = .ok (.istore_n 1, 1) := by decide +kernel
theorem dX3_childrenInGood_20 : decode cX3_childrenInGood 20 = .ok (.iinc 2 1, 3) := by decide +kernel
theorem dX3_childrenInGood_23 : decode cX3_childrenInGood 23 = .ok (.goto (-19), 3) := by decide +kernel
theorem dX3_childrenInGood_26 : decode cX3_childrenInGood 26 = .ok (.iload_n 1, 1) := by decide +kernel
theorem dX3_childrenInGood_27 : decode cX3_childrenInGood 27 = .ok (.ireturn, 1) := by decide +kernel
set_option maxRecDepth 20000 in
theorem ggX3_chosenShowing_X3_isChosen : GoodIn wsX3_chosenShowing wsX3_isChosen := goodIn_r _ [6, 7, 17, 18, 19, 20, 21, 22, 23, 24, 25] (by decide +kernel) (by decide +kernel)
set_option maxRecDepth 20000 in
theorem gX3_chosenShowing_X3_isChosen : GoodIn wsX3_chosenShowing (wsV RX3 134 RX3 yX3_isChosen wsX3_isChosen) := goodIn_app (goodIn_of _ (by decide +kernel)) ggX3_chosenShowing_X3_isChosen
set_option maxRecDepth 20000 in
theorem ggX3_chosenShowing_X3_shownIn : GoodIn wsX3_chosenShowing wsX3_shownIn := goodIn_r _ [11, 12, 13, 14, 5, 15, 1, 16, 26, 27, 28, 29, 30, 31, 32, 33, 34, 35, 36, 17, 18, 19, 20, 21, 22, 23, 24, 25] (by decide +kernel) (by decide +kernel)
set_option maxRecDepth 20000 in
theorem gX3_chosenShowing_X3_shownIn : GoodIn wsX3_chosenShowing (wsV RX3 137 RX3 yX3_shownIn wsX3_shownIn) := goodIn_app (goodIn_of _ (by decide +kernel)) ggX3_chosenShowing_X3_shownIn
theorem dX3_chosenShowing_0 : decode cX3_chosenShowing 0 = .ok (.iconst 0, 1) := by decide +kernel
theorem dX3_chosenShowing_1 : decode cX3_chosenShowing 1 = .ok (.istore_n 2, 1) := by decide +kernel
theorem dX3_chosenShowing_2 : decode cX3_chosenShowing 2 = .ok (.iconst 0, 1) := by decide +kernel
theorem dX3_chosenShowing_3 : decode cX3_chosenShowing 3 = .ok (.istore_n 3, 1) := by decide +kernel
theorem dX3_chosenShowing_4 : decode cX3_chosenShowing 4 = .ok (.iload_n 3, 1) := by decide +kernel
theorem dX3_chosenShowing_5 : decode cX3_chosenShowing 5 = .ok (.aload_n 0, 1) := by decide +kernel
theorem dX3_chosenShowing_6 : decode cX3_chosenShowing 6 = .ok (.getfield 51, 3) := by decide +kernel
theorem dX3_chosenShowing_9 : decode cX3_chosenShowing 9 = .ok (.if_icmp .ge 30, 3) := by decide +kernel
theorem dX3_chosenShowing_12 : decode cX3_chosenShowing 12 = .ok (.aload_n 0, 1) := by decide +kernel
theorem dX3_chosenShowing_13 : decode cX3_chosenShowing 13 = .ok (.iload_n 3, 1) := by decide +kernel
theorem dX3_chosenShowing_14 : decode cX3_chosenShowing 14 = .ok (.invokevirtual 134, 3) := by decide +kernel
theorem dX3_chosenShowing_17 : decode cX3_chosenShowing 17 = .ok (.ifCond .eq 16, 3) := by decide +kernel
theorem dX3_chosenShowing_20 : decode cX3_chosenShowing 20 = .ok (.aload_n 0, 1) := by decide +kernel
theorem dX3_chosenShowing_21 : decode cX3_chosenShowing 21 = .ok (.iload_n 3, 1) := by decide +kernel
theorem dX3_chosenShowing_22 : decode cX3_chosenShowing 22 = .ok (.invokevirtual 137, 3) := by decide +kernel
theorem dX3_chosenShowing_25 : decode cX3_chosenShowing 25 = .ok (.iload_n 1, 1) := by decide +kernel
theorem dX3_chosenShowing_26 : decode cX3_chosenShowing 26 = .ok (.iand, 1) := by decide +kernel
theorem dX3_chosenShowing_27 : decode cX3_chosenShowing 27 = .ok (.ifCond .eq 6, 3) := by decide +kernel
theorem dX3_chosenShowing_30 : decode cX3_chosenShowing 30 = .ok (.iinc 2 1, 3) := by decide +kernel
theorem dX3_chosenShowing_33 : decode cX3_chosenShowing 33 = .ok (.iinc 3 1, 3) := by decide +kernel
theorem dX3_chosenShowing_36 : decode cX3_chosenShowing 36 = .ok (.goto (-32), 3) := by decide +kernel
theorem dX3_chosenShowing_39 : decode cX3_chosenShowing 39 = .ok (.iload_n 2, 1) := by decide +kernel
theorem dX3_chosenShowing_40 : decode cX3_chosenShowing 40 = .ok (.ireturn, 1) := by decide +kernel
set_option maxRecDepth 20000 in
theorem ggX3_decide_X1_clear : GoodIn wsX3_decide wsX1_clear := goodIn_r _ [7, 8, 18, 19, 20, 21, 22, 23, 24, 25, 26, 27] (by decide +kernel) (by decide +kernel)
set_option maxRecDepth 20000 in
theorem gX3_decide_X1_clear : GoodIn wsX3_decide (wsV RX3 188 RX1 yX1_clear wsX1_clear) := goodIn_app (goodIn_of _ (by decide +kernel)) ggX3_decide_X1_clear
theorem dX3_decide_0 : decode cX3_decide 0 = .ok (.aload_n 0, 1) := by decide +kernel
theorem dX3_decide_1 : decode cX3_decide 1 = .ok (.iload_n 1, 1) := by decide +kernel
theorem dX3_decide_2 : decode cX3_decide 2 = .ok (.putfield 85, 3) := by decide +kernel
theorem dX3_decide_5 : decode cX3_decide 5 = .ok (.aload_n 0, 1) := by decide +kernel
theorem dX3_decide_6 : decode cX3_decide 6 = .ok (.getfield 35, 3) := by decide +kernel
theorem dX3_decide_9 : decode cX3_decide 9 = .ok (.invokevirtual 188, 3) := by decide +kernel
theorem dX3_decide_12 : decode cX3_decide 12 = .ok (.return_, 1) := by decide +kernel
set_option maxRecDepth 20000 in
theorem ggX3_offerPictures_X0_begin : GoodIn wsX3_offerPictures wsX0_begin := goodIn_r _ [10, 11, 12, 13, 14, 15, 63, 64, 65, 66, 67, 68, 69, 70, 71, 72, 73, 74, 75, 76] (by decide +kernel) (by decide +kernel)
set_option maxRecDepth 20000 in
theorem gX3_offerPictures_X0_begin : GoodIn wsX3_offerPictures (wsV RX3 191 RX0 yX0_begin wsX0_begin) := goodIn_app (goodIn_of _ (by decide +kernel)) ggX3_offerPictures_X0_begin
set_option maxRecDepth 20000 in
theorem ggX3_offerPictures_X3_shownIn : GoodIn wsX3_offerPictures wsX3_shownIn := goodIn_r _ [20, 21, 22, 23, 19, 24, 3, 25, 77, 78, 79, 80, 81, 82, 83, 84, 85, 86, 87, 54, 55, 56, 57, 58, 59, 60, 61, 62] (by decide +kernel) (by decide +kernel)
set_option maxRecDepth 20000 in
theorem gX3_offerPictures_X3_shownIn : GoodIn wsX3_offerPictures (wsV RX3 137 RX3 yX3_shownIn wsX3_shownIn) := goodIn_app (goodIn_of _ (by decide +kernel)) ggX3_offerPictures_X3_shownIn
set_option maxRecDepth 20000 in
theorem ggX3_offerPictures_X3_worthOf : GoodIn wsX3_offerPictures wsX3_worthOf := goodIn_r _ [29, 21, 22, 23, 19, 24, 3, 25, 77, 78, 79, 80, 81, 82, 83, 84, 85, 86, 87, 54, 55, 56, 57, 58, 59, 60, 61, 62] (by decide +kernel) (by decide +kernel)
set_option maxRecDepth 20000 in
theorem gX3_offerPictures_X3_worthOf : GoodIn wsX3_offerPictures (wsV RX3 185 RX3 yX3_worthOf wsX3_worthOf) := goodIn_app (goodIn_of _ (by decide +kernel)) ggX3_offerPictures_X3_worthOf
set_option maxRecDepth 20000 in
theorem ggX3_offerPictures_X3_isChosen : GoodIn wsX3_offerPictures wsX3_isChosen := goodIn_r _ [33, 34, 54, 55, 56, 57, 58, 59, 60, 61, 62] (by decide +kernel) (by decide +kernel)
set_option maxRecDepth 20000 in
theorem gX3_offerPictures_X3_isChosen : GoodIn wsX3_offerPictures (wsV RX3 134 RX3 yX3_isChosen wsX3_isChosen) := goodIn_app (goodIn_of _ (by decide +kernel)) ggX3_offerPictures_X3_isChosen
set_option maxRecDepth 20000 in
theorem ggX3_offerPictures_X0_offer : GoodIn wsX3_offerPictures wsX0_offer := goodIn_r _ [38, 13, 39, 40, 41, 15, 42, 14, 43, 44, 9, 45, 63, 64, 65, 66, 67, 68, 69, 70, 71, 72, 73, 74, 75, 76] (by decide +kernel) (by decide +kernel)
set_option maxRecDepth 20000 in
theorem gX3_offerPictures_X0_offer : GoodIn wsX3_offerPictures (wsV RX3 199 RX0 yX0_offer wsX0_offer) := goodIn_app (goodIn_of _ (by decide +kernel)) ggX3_offerPictures_X0_offer
set_option maxRecDepth 20000 in
theorem ggX3_offerPictures_X0_sumUp : GoodIn wsX3_offerPictures wsX0_sumUp := goodIn_r _ [49, 50, 13, 51, 52, 53, 41, 40, 39, 63, 64, 65, 66, 67, 68, 69, 70, 71, 72, 73, 74, 75, 76] (by decide +kernel) (by decide +kernel)
set_option maxRecDepth 20000 in
theorem gX3_offerPictures_X0_sumUp : GoodIn wsX3_offerPictures (wsV RX3 203 RX0 yX0_sumUp wsX0_sumUp) := goodIn_app (goodIn_of _ (by decide +kernel)) ggX3_offerPictures_X0_sumUp
theorem dX3_offerPictures_0 : decode cX3_offerPictures 0 = .ok (.aload_n 0, 1) := by decide +kernel
theorem dX3_offerPictures_1 : decode cX3_offerPictures 1 = .ok (.getfield 28, 3) := by decide +kernel
theorem dX3_offerPictures_4 : decode cX3_offerPictures 4 = .ok (.aload_n 0, 1) := by decide +kernel
theorem dX3_offerPictures_5 : decode cX3_offerPictures 5 = .ok (.getfield 22, 3) := by decide +kernel
theorem dX3_offerPictures_8 : decode cX3_offerPictures 8 = .ok (.iconst 1, 1) := by decide +kernel
theorem dX3_offerPictures_9 : decode cX3_offerPictures 9 = .ok (.iaload, 1) := by decide +kernel
theorem dX3_offerPictures_10 : decode cX3_offerPictures 10 = .ok (.aload_n 0, 1) := by decide +kernel
theorem dX3_offerPictures_11 : decode cX3_offerPictures 11 = .ok (.getfield 22, 3) := by decide +kernel
theorem dX3_offerPictures_14 : decode cX3_offerPictures 14 = .ok (.iconst 2, 1) := by decide +kernel
theorem dX3_offerPictures_15 : decode cX3_offerPictures 15 = .ok (.iaload, 1) := by decide +kernel
theorem dX3_offerPictures_16 : decode cX3_offerPictures 16 = .ok (.invokevirtual 191, 3) := by decide +kernel
theorem dX3_offerPictures_19 : decode cX3_offerPictures 19 = .ok (.iconst 0, 1) := by decide +kernel
theorem dX3_offerPictures_20 : decode cX3_offerPictures 20 = .ok (.istore_n 3, 1) := by decide +kernel
theorem dX3_offerPictures_21 : decode cX3_offerPictures 21 = .ok (.iload_n 3, 1) := by decide +kernel
theorem dX3_offerPictures_22 : decode cX3_offerPictures 22 = .ok (.aload_n 0, 1) := by decide +kernel
theorem dX3_offerPictures_23 : decode cX3_offerPictures 23 = .ok (.getfield 51, 3) := by decide +kernel
theorem dX3_offerPictures_26 : decode cX3_offerPictures 26 = .ok (.if_icmp .ge 70, 3) := by decide +kernel
theorem dX3_offerPictures_29 : decode cX3_offerPictures 29 = .ok (.aload_n 0, 1) := by decide +kernel
theorem dX3_offerPictures_30 : decode cX3_offerPictures 30 = .ok (.iload_n 3, 1) := by decide +kernel
theorem dX3_offerPictures_31 : decode cX3_offerPictures 31 = .ok (.invokevirtual 137, 3) := by decide +kernel
theorem dX3_offerPictures_34 : decode cX3_offerPictures 34 = .ok (.istore 4, 2) := by decide +kernel
theorem dX3_offerPictures_36 : decode cX3_offerPictures 36 = .ok (.iload 4, 2) := by decide +kernel
theorem dX3_offerPictures_38 : decode cX3_offerPictures 38 = .ok (.ifCond .eq 52, 3) := by decide +kernel
theorem dX3_offerPictures_41 : decode cX3_offerPictures 41 = .ok (.aload_n 0, 1) := by decide +kernel
theorem dX3_offerPictures_42 : decode cX3_offerPictures 42 = .ok (.iload_n 3, 1) := by decide +kernel
theorem dX3_offerPictures_43 : decode cX3_offerPictures 43 = .ok (.invokevirtual 185, 3) := by decide +kernel
theorem dX3_offerPictures_46 : decode cX3_offerPictures 46 = .ok (.i2l, 1) := by decide +kernel
theorem dX3_offerPictures_47 : decode cX3_offerPictures 47 = .ok (.ldc2_w 195, 3) := by decide +kernel
theorem dX3_offerPictures_50 : decode cX3_offerPictures 50 = .ok (.lmul, 1) := by decide +kernel
theorem dX3_offerPictures_51 : decode cX3_offerPictures 51 = .ok (.ldc2_w 197, 3) := by decide +kernel
theorem dX3_offerPictures_54 : decode cX3_offerPictures 54 = .ok (.lsub, 1) := by decide +kernel
theorem dX3_offerPictures_55 : decode cX3_offerPictures 55 = .ok (.lconst 1, 1) := by decide +kernel
theorem dX3_offerPictures_56 : decode cX3_offerPictures 56 = .ok (.iload_n 3, 1) := by decide +kernel
theorem dX3_offerPictures_57 : decode cX3_offerPictures 57 = .ok (.lshl, 1) := by decide +kernel
theorem dX3_offerPictures_58 : decode cX3_offerPictures 58 = .ok (.lsub, 1) := by decide +kernel
theorem dX3_offerPictures_59 : decode cX3_offerPictures 59 = .ok (.lstore 5, 2) := by decide +kernel
theorem dX3_offerPictures_61 : decode cX3_offerPictures 61 = .ok (.aload_n 0, 1) := by decide +kernel
theorem dX3_offerPictures_62 : decode cX3_offerPictures 62 = .ok (.getfield 28, 3) := by decide +kernel
theorem dX3_offerPictures_65 : decode cX3_offerPictures 65 = .ok (.iconst 1, 1) := by decide +kernel
theorem dX3_offerPictures_66 : decode cX3_offerPictures 66 = .ok (.iload_n 3, 1) := by decide +kernel
theorem dX3_offerPictures_67 : decode cX3_offerPictures 67 = .ok (.ishl, 1) := by decide +kernel
theorem dX3_offerPictures_68 : decode cX3_offerPictures 68 = .ok (.iload 4, 2) := by decide +kernel
theorem dX3_offerPictures_70 : decode cX3_offerPictures 70 = .ok (.lload 5, 2) := by decide +kernel
theorem dX3_offerPictures_72 : decode cX3_offerPictures 72 = .ok (.aload_n 0, 1) := by decide +kernel
theorem dX3_offerPictures_73 : decode cX3_offerPictures 73 = .ok (.iload_n 3, 1) := by decide +kernel
theorem dX3_offerPictures_74 : decode cX3_offerPictures 74 = .ok (.invokevirtual 134, 3) := by decide +kernel
theorem dX3_offerPictures_77 : decode cX3_offerPictures 77 = .ok (.ifCond .eq 7, 3) := by decide +kernel
theorem dX3_offerPictures_80 : decode cX3_offerPictures 80 = .ok (.lload_n 1, 1) := by decide +kernel
theorem dX3_offerPictures_81 : decode cX3_offerPictures 81 = .ok (.goto 5, 3) := by decide +kernel
theorem dX3_offerPictures_84 : decode cX3_offerPictures 84 = .ok (.lload_n 1, 1) := by decide +kernel
theorem dX3_offerPictures_85 : decode cX3_offerPictures 85 = .ok (.lneg, 1) := by decide +kernel
theorem dX3_offerPictures_86 : decode cX3_offerPictures 86 = .ok (.ladd, 1) := by decide +kernel
theorem dX3_offerPictures_87 : decode cX3_offerPictures 87 = .ok (.invokevirtual 199, 3) := by decide +kernel
theorem dX3_offerPictures_90 : decode cX3_offerPictures 90 = .ok (.iinc 3 1, 3) := by decide +kernel
theorem dX3_offerPictures_93 : decode cX3_offerPictures 93 = .ok (.goto (-72), 3) := by decide +kernel
theorem dX3_offerPictures_96 : decode cX3_offerPictures 96 = .ok (.aload_n 0, 1) := by decide +kernel
theorem dX3_offerPictures_97 : decode cX3_offerPictures 97 = .ok (.getfield 28, 3) := by decide +kernel
theorem dX3_offerPictures_100 : decode cX3_offerPictures 100 = .ok (.invokevirtual 203, 3) := by decide +kernel
theorem dX3_offerPictures_103 : decode cX3_offerPictures 103 = .ok (.return_, 1) := by decide +kernel
theorem dX4_init_0 : decode cX4_init 0 = .ok (.aload_n 0, 1) := by decide +kernel
theorem dX4_init_1 : decode cX4_init 1 = .ok (.invokespecial 3, 3) := by decide +kernel
theorem dX4_init_4 : decode cX4_init 4 = .ok (.aload_n 0, 1) := by decide +kernel
theorem dX4_init_5 : decode cX4_init 5 = .ok (.bipush 16, 2) := by decide +kernel
theorem dX4_init_7 : decode cX4_init 7 = .ok (.newarray .int, 2) := by decide +kernel
theorem dX4_init_9 : decode cX4_init 9 = .ok (.putfield 9, 3) := by decide +kernel
theorem dX4_init_12 : decode cX4_init 12 = .ok (.aload_n 0, 1) := by decide +kernel
theorem dX4_init_13 : decode cX4_init 13 = .ok (.bipush 16, 2) := by decide +kernel
theorem dX4_init_15 : decode cX4_init 15 = .ok (.newarray .int, 2) := by decide +kernel
theorem dX4_init_17 : decode cX4_init 17 = .ok (.putfield 13, 3) := by decide +kernel
theorem dX4_init_20 : decode cX4_init 20 = .ok (.aload_n 0, 1) := by decide +kernel
theorem dX4_init_21 : decode cX4_init 21 = .ok (.bipush 14, 2) := by decide +kernel
theorem dX4_init_23 : decode cX4_init 23 = .ok (.newarray .int, 2) := by decide +kernel
theorem dX4_init_25 : decode cX4_init 25 = .ok (.putfield 16, 3) := by decide +kernel
theorem dX4_init_28 : decode cX4_init 28 = .ok (.aload_n 0, 1) := by decide +kernel
theorem dX4_init_29 : decode cX4_init 29 = .ok (.bipush 14, 2) := by decide +kernel
theorem dX4_init_31 : decode cX4_init 31 = .ok (.newarray .int, 2) := by decide +kernel
theorem dX4_init_33 : decode cX4_init 33 = .ok (.putfield 19, 3) := by decide +kernel
theorem dX4_init_36 : decode cX4_init 36 = .ok (.aload_n 0, 1) := by decide +kernel
theorem dX4_init_37 : decode cX4_init 37 = .ok (.bipush 14, 2) := by decide +kernel
theorem dX4_init_39 : decode cX4_init 39 = .ok (.newarray .int, 2) := by decide +kernel
theorem dX4_init_41 : decode cX4_init 41 = .ok (.putfield 22, 3) := by decide +kernel
theorem dX4_init_44 : decode cX4_init 44 = .ok (.aload_n 0, 1) := by decide +kernel
theorem dX4_init_45 : decode cX4_init 45 = .ok (.bipush 14, 2) := by decide +kernel
theorem dX4_init_47 : decode cX4_init 47 = .ok (.newarray .int, 2) := by decide +kernel
theorem dX4_init_49 : decode cX4_init 49 = .ok (.putfield 25, 3) := by decide +kernel
theorem dX4_init_52 : decode cX4_init 52 = .ok (.aload_n 0, 1) := by decide +kernel
theorem dX4_init_53 : decode cX4_init 53 = .ok (.bipush 112, 2) := by decide +kernel
theorem dX4_init_55 : decode cX4_init 55 = .ok (.newarray .int, 2) := by decide +kernel
theorem dX4_init_57 : decode cX4_init 57 = .ok (.putfield 28, 3) := by decide +kernel
theorem dX4_init_60 : decode cX4_init 60 = .ok (.aload_n 0, 1) := by decide +kernel
theorem dX4_init_61 : decode cX4_init 61 = .ok (.bipush 112, 2) := by decide +kernel
theorem dX4_init_63 : decode cX4_init 63 = .ok (.newarray .int, 2) := by decide +kernel
theorem dX4_init_65 : decode cX4_init 65 = .ok (.putfield 31, 3) := by decide +kernel
theorem dX4_init_68 : decode cX4_init 68 = .ok (.aload_n 0, 1) := by decide +kernel
theorem dX4_init_69 : decode cX4_init 69 = .ok (.bipush 112, 2) := by decide +kernel
theorem dX4_init_71 : decode cX4_init 71 = .ok (.newarray .int, 2) := by decide +kernel
theorem dX4_init_73 : decode cX4_init 73 = .ok (.putfield 34, 3) := by decide +kernel
theorem dX4_init_76 : decode cX4_init 76 = .ok (.aload_n 0, 1) := by decide +kernel
theorem dX4_init_77 : decode cX4_init 77 = .ok (.bipush 112, 2) := by decide +kernel
theorem dX4_init_79 : decode cX4_init 79 = .ok (.newarray .int, 2) := by decide +kernel
theorem dX4_init_81 : decode cX4_init 81 = .ok (.putfield 37, 3) := by decide +kernel
theorem dX4_init_84 : decode cX4_init 84 = .ok (.aload_n 0, 1) := by decide +kernel
theorem dX4_init_85 : decode cX4_init 85 = .ok (.bipush 10, 2) := by decide +kernel
theorem dX4_init_87 : decode cX4_init 87 = .ok (.putfield 40, 3) := by decide +kernel
theorem dX4_init_90 : decode cX4_init 90 = .ok (.aload_n 0, 1) := by decide +kernel
theorem dX4_init_91 : decode cX4_init 91 = .ok (.bipush 14, 2) := by decide +kernel
theorem dX4_init_93 : decode cX4_init 93 = .ok (.putfield 44, 3) := by decide +kernel
theorem dX4_init_96 : decode cX4_init 96 = .ok (.aload_n 0, 1) := by decide +kernel
theorem dX4_init_97 : decode cX4_init 97 = .ok (.bipush 14, 2) := by decide +kernel
theorem dX4_init_99 : decode cX4_init 99 = .ok (.putfield 47, 3) := by decide +kernel
theorem dX4_init_102 : decode cX4_init 102 = .ok (.aload_n 0, 1) := by decide +kernel
theorem dX4_init_103 : decode cX4_init 103 = .ok (.bipush 14, 2) := by decide +kernel
theorem dX4_init_105 : decode cX4_init 105 = .ok (.newarray .int, 2) := by decide +kernel
theorem dX4_init_107 : decode cX4_init 107 = .ok (.putfield 50, 3) := by decide +kernel
theorem dX4_init_110 : decode cX4_init 110 = .ok (.aload_n 0, 1) := by decide +kernel
theorem dX4_init_111 : decode cX4_init 111 = .ok (.iconst 4, 1) := by decide +kernel
theorem dX4_init_112 : decode cX4_init 112 = .ok (.newarray .int, 2) := by decide +kernel
theorem dX4_init_114 : decode cX4_init 114 = .ok (.putfield 53, 3) := by decide +kernel
theorem dX4_init_117 : decode cX4_init 117 = .ok (.aload_n 0, 1) := by decide +kernel
theorem dX4_init_118 : decode cX4_init 118 = .ok (.bipush 8, 2) := by decide +kernel
theorem dX4_init_120 : decode cX4_init 120 = .ok (.newarray .int, 2) := by decide +kernel
theorem dX4_init_122 : decode cX4_init 122 = .ok (.putfield 56, 3) := by decide +kernel
theorem dX4_init_125 : decode cX4_init 125 = .ok (.aload_n 0, 1) := by decide +kernel
theorem dX4_init_126 : decode cX4_init 126 = .ok (.bipush 14, 2) := by decide +kernel
theorem dX4_init_128 : decode cX4_init 128 = .ok (.newarray .int, 2) := by decide +kernel
theorem dX4_init_130 : decode cX4_init 130 = .ok (.putfield 59, 3) := by decide +kernel
theorem dX4_init_133 : decode cX4_init 133 = .ok (.aload_n 0, 1) := by decide +kernel
theorem dX4_init_134 : decode cX4_init 134 = .ok (.sipush 16384, 3) := by decide +kernel
theorem dX4_init_137 : decode cX4_init 137 = .ok (.newarray .int, 2) := by decide +kernel
theorem dX4_init_139 : decode cX4_init 139 = .ok (.putfield 62, 3) := by decide +kernel
theorem dX4_init_142 : decode cX4_init 142 = .ok (.aload_n 0, 1) := by decide +kernel
theorem dX4_init_143 : decode cX4_init 143 = .ok (.sipush 16384, 3) := by decide +kernel
theorem dX4_init_146 : decode cX4_init 146 = .ok (.newarray .int, 2) := by decide +kernel
theorem dX4_init_148 : decode cX4_init 148 = .ok (.putfield 65, 3) := by decide +kernel
theorem dX4_init_151 : decode cX4_init 151 = .ok (.aload_n 0, 1) := by decide +kernel
theorem dX4_init_152 : decode cX4_init 152 = .ok (.bipush 14, 2) := by decide +kernel
theorem dX4_init_154 : decode cX4_init 154 = .ok (.newarray .int, 2) := by decide +kernel
theorem dX4_init_156 : decode cX4_init 156 = .ok (.putfield 68, 3) := by decide +kernel
theorem dX4_init_159 : decode cX4_init 159 = .ok (.return_, 1) := by decide +kernel
theorem dX4_thrown_0 : decode cX4_thrown 0 = .ok (.aload_n 0, 1) := by decide +kernel
theorem dX4_thrown_1 : decode cX4_thrown 1 = .ok (.getfield 71, 3) := by decide +kernel
theorem dX4_thrown_4 : decode cX4_thrown 4 = .ok (.ireturn, 1) := by decide +kernel
theorem dX4_in_0 : decode cX4_in 0 = .ok (.iload_n 0, 1) := by decide +kernel
theorem dX4_in_1 : decode cX4_in 1 = .ok (.iload_n 1, 1) := by decide +kernel
theorem dX4_in_2 : decode cX4_in 2 = .ok (.if_icmp .lt 12, 3) := by decide +kernel
theorem dX4_in_5 : decode cX4_in 5 = .ok (.iload_n 0, 1) := by decide +kernel
theorem dX4_in_6 : decode cX4_in 6 = .ok (.iload_n 2, 1) := by decide +kernel
theorem dX4_in_7 : decode cX4_in 7 = .ok (.if_icmp .gt 7, 3) := by decide +kernel
theorem dX4_in_10 : decode cX4_in 10 = .ok (.iconst 1, 1) := by decide +kernel
theorem dX4_in_11 : decode cX4_in 11 = .ok (.goto 4, 3) := by decide +kernel
theorem dX4_in_14 : decode cX4_in 14 = .ok (.iconst 0, 1) := by decide +kernel
theorem dX4_in_15 : decode cX4_in 15 = .ok (.ireturn, 1) := by decide +kernel
set_option maxRecDepth 20000 in
theorem ggX4_isPicture_X4_in : GoodIn wsX4_isPicture wsX4_in := goodIn_r _ [5] (by decide +kernel) (by decide +kernel)
set_option maxRecDepth 20000 in
theorem gX4_isPicture_X4_in : GoodIn wsX4_isPicture (va_wsS RX4 77 yX4_in wsX4_in) := goodIn_app (goodIn_of _ (by decide +kernel)) ggX4_isPicture_X4_in
theorem dX4_isPicture_0 : decode cX4_isPicture 0 = .ok (.iload_n 1, 1) := by decide +kernel
theorem dX4_isPicture_1 : decode cX4_isPicture 1 = .ok (.iconst 0, 1) := by decide +kernel
theorem dX4_isPicture_2 : decode cX4_isPicture 2 = .ok (.aload_n 0, 1) := by decide +kernel
theorem dX4_isPicture_3 : decode cX4_isPicture 3 = .ok (.getfield 74, 3) := by decide +kernel
theorem dX4_isPicture_6 : decode cX4_isPicture 6 = .ok (.iconst 1, 1) := by decide +kernel
theorem dX4_isPicture_7 : decode cX4_isPicture 7 = .ok (.isub, 1) := by decide +kernel
theorem dX4_isPicture_8 : decode cX4_isPicture 8 = .ok (.invokestatic 77, 3) := by decide +kernel
theorem dX4_isPicture_11 : decode cX4_isPicture 11 = .ok (.ireturn, 1) := by decide +kernel
set_option maxRecDepth 20000 in
theorem ggX4_isChild_X4_in : GoodIn wsX4_isChild wsX4_in := goodIn_r _ [5] (by decide +kernel) (by decide +kernel)
set_option maxRecDepth 20000 in
theorem gX4_isChild_X4_in : GoodIn wsX4_isChild (va_wsS RX4 77 yX4_in wsX4_in) := goodIn_app (goodIn_of _ (by decide +kernel)) ggX4_isChild_X4_in
theorem dX4_isChild_0 : decode cX4_isChild 0 = .ok (.iload_n 1, 1) := by decide +kernel
theorem dX4_isChild_1 : decode cX4_isChild 1 = .ok (.iconst 0, 1) := by decide +kernel
theorem dX4_isChild_2 : decode cX4_isChild 2 = .ok (.aload_n 0, 1) := by decide +kernel
theorem dX4_isChild_3 : decode cX4_isChild 3 = .ok (.getfield 81, 3) := by decide +kernel
theorem dX4_isChild_6 : decode cX4_isChild 6 = .ok (.iconst 1, 1) := by decide +kernel
theorem dX4_isChild_7 : decode cX4_isChild 7 = .ok (.isub, 1) := by decide +kernel
theorem dX4_isChild_8 : decode cX4_isChild 8 = .ok (.invokestatic 77, 3) := by decide +kernel
theorem dX4_isChild_11 : decode cX4_isChild 11 = .ok (.ireturn, 1) := by decide +kernel
set_option maxRecDepth 20000 in
theorem ggX4_child_X4_in : GoodIn wsX4_child wsX4_in := goodIn_r _ [8] (by decide +kernel) (by decide +kernel)
set_option maxRecDepth 20000 in
theorem gX4_child_X4_in : GoodIn wsX4_child (va_wsS RX4 77 yX4_in wsX4_in) := goodIn_app (goodIn_of _ (by decide +kernel)) ggX4_child_X4_in
theorem dX4_child_0 : decode cX4_child 0 = .ok (.aload_n 0, 1) := by decide +kernel
theorem dX4_child_1 : decode cX4_child 1 = .ok (.iconst 0, 1) := by decide +kernel
theorem dX4_child_2 : decode cX4_child 2 = .ok (.putfield 71, 3) := by decide +kernel
theorem dX4_child_5 : decode cX4_child 5 = .ok (.iload_n 1, 1) := by decide +kernel
theorem dX4_child_6 : decode cX4_child 6 = .ok (.iconst 0, 1) := by decide +kernel
theorem dX4_child_7 : decode cX4_child 7 = .ok (.bipush 9, 2) := by decide +kernel
theorem dX4_child_9 : decode cX4_child 9 = .ok (.invokestatic 77, 3) := by decide +kernel
theorem dX4_child_12 : decode cX4_child 12 = .ok (.ifCond .eq 12, 3) := by decide +kernel
theorem dX4_child_15 : decode cX4_child 15 = .ok (.aload_n 0, 1) := by decide +kernel
theorem dX4_child_16 : decode cX4_child 16 = .ok (.getfield 81, 3) := by decide +kernel
theorem dX4_child_19 : decode cX4_child 19 = .ok (.bipush 16, 2) := by decide +kernel
theorem dX4_child_21 : decode cX4_child 21 = .ok (.if_icmp .ne 5, 3) := by decide +kernel
theorem dX4_child_24 : decode cX4_child 24 = .ok (.iconst (-1), 1) := by decide +kernel
theorem dX4_child_25 : decode cX4_child 25 = .ok (.ireturn, 1) := by decide +kernel
theorem dX4_child_26 : decode cX4_child 26 = .ok (.aload_n 0, 1) := by decide +kernel
theorem dX4_child_27 : decode cX4_child 27 = .ok (.getfield 9, 3) := by decide +kernel
theorem dX4_child_30 : decode cX4_child 30 = .ok (.aload_n 0, 1) := by decide +kernel
theorem dX4_child_31 : decode cX4_child 31 = .ok (.getfield 81, 3) := by decide +kernel
theorem dX4_child_34 : decode cX4_child 34 = .ok (.iload_n 1, 1) := by decide +kernel
theorem dX4_child_35 : decode cX4_child 35 = .ok (.iastore, 1) := by decide +kernel
theorem dX4_child_36 : decode cX4_child 36 = .ok (.aload_n 0, 1) := by decide +kernel
theorem dX4_child_37 : decode cX4_child 37 = .ok (.getfield 13, 3) := by decide +kernel
theorem dX4_child_40 : decode cX4_child 40 = .ok (.aload_n 0, 1) := by decide +kernel
theorem dX4_child_41 : decode cX4_child 41 = .ok (.getfield 81, 3) := by decide +kernel
theorem dX4_child_44 : decode cX4_child 44 = .ok (.bipush 7, 2) := by decide +kernel
theorem dX4_child_46 : decode cX4_child 46 = .ok (.iastore, 1) := by decide +kernel
theorem dX4_child_47 : decode cX4_child 47 = .ok (.aload_n 0, 1) := by decide +kernel
theorem dX4_child_48 : decode cX4_child 48 = .ok (.dup, 1) := by decide +kernel
theorem dX4_child_49 : decode cX4_child 49 = .ok (.getfield 81, 3) := by decide +kernel
theorem dX4_child_52 : decode cX4_child 52 = .ok (.iconst 1, 1) := by decide +kernel
theorem dX4_child_53 : decode cX4_child 53 = .ok (.iadd, 1) := by decide +kernel
theorem dX4_child_54 : decode cX4_child 54 = .ok (.putfield 81, 3) := by decide +kernel
theorem dX4_child_57 : decode cX4_child 57 = .ok (.aload_n 0, 1) := by decide +kernel
theorem dX4_child_58 : decode cX4_child 58 = .ok (.getfield 81, 3) := by decide +kernel
theorem dX4_child_61 : decode cX4_child 61 = .ok (.iconst 1, 1) := by decide +kernel
theorem dX4_child_62 : decode cX4_child 62 = .ok (.isub, 1) := by decide +kernel
theorem dX4_child_63 : decode cX4_child 63 = .ok (.ireturn, 1) := by decide +kernel
set_option maxRecDepth 20000 in
theorem ggX4_consent_X4_isChild : GoodIn wsX4_consent wsX4_isChild := goodIn_r _ [7, 8, 9, 10, 6, 11, 12, 13, 14, 15, 16, 17, 18, 19, 20, 21, 22, 23, 24, 25, 26, 27, 28, 29, 30, 31, 32, 33, 34, 35, 36, 37, 38] (by decide +kernel) (by decide +kernel)
set_option maxRecDepth 20000 in
theorem gX4_consent_X4_isChild : GoodIn wsX4_consent (wsV RX4 84 RX4 yX4_isChild wsX4_isChild) := goodIn_app (goodIn_of _ (by decide +kernel)) ggX4_consent_X4_isChild
set_option maxRecDepth 20000 in
theorem ggX4_consent_X4_in : GoodIn wsX4_consent wsX4_in := goodIn_r _ [11] (by decide +kernel) (by decide +kernel)
set_option maxRecDepth 20000 in
theorem gX4_consent_X4_in : GoodIn wsX4_consent (va_wsS RX4 77 yX4_in wsX4_in) := goodIn_app (goodIn_of _ (by decide +kernel)) ggX4_consent_X4_in
theorem dX4_consent_0 : decode cX4_consent 0 = .ok (.aload_n 0, 1) := by decide +kernel
theorem dX4_consent_1 : decode cX4_consent 1 = .ok (.iconst 0, 1) := by decide +kernel
theorem dX4_consent_2 : decode cX4_consent 2 = .ok (.putfield 71, 3) := by decide +kernel
theorem dX4_consent_5 : decode cX4_consent 5 = .ok (.aload_n 0, 1) := by decide +kernel
theorem dX4_consent_6 : decode cX4_consent 6 = .ok (.iload_n 1, 1) := by decide +kernel
theorem dX4_consent_7 : decode cX4_consent 7 = .ok (.invokevirtual 84, 3) := by decide +kernel
theorem dX4_consent_10 : decode cX4_consent 10 = .ok (.ifCond .eq 13, 3) := by decide +kernel
theorem dX4_consent_13 : decode cX4_consent 13 = .ok (.iload_n 2, 1) := by decide +kernel
theorem dX4_consent_14 : decode cX4_consent 14 = .ok (.iconst 0, 1) := by decide +kernel
theorem dX4_consent_15 : decode cX4_consent 15 = .ok (.bipush 7, 2) := by decide +kernel
theorem dX4_consent_17 : decode cX4_consent 17 = .ok (.invokestatic 77, 3) := by decide +kernel
theorem dX4_consent_20 : decode cX4_consent 20 = .ok (.ifCond .ne 5, 3) := by decide +kernel
theorem dX4_consent_23 : decode cX4_consent 23 = .ok (.iconst (-1), 1) := by decide +kernel
theorem dX4_consent_24 : decode cX4_consent 24 = .ok (.ireturn, 1) := by decide +kernel
theorem dX4_consent_25 : decode cX4_consent 25 = .ok (.aload_n 0, 1) := by decide +kernel
theorem dX4_consent_26 : decode cX4_consent 26 = .ok (.getfield 13, 3) := by decide +kernel
theorem dX4_consent_29 : decode cX4_consent 29 = .ok (.iload_n 1, 1) := by decide +kernel
theorem dX4_consent_30 : decode cX4_consent 30 = .ok (.iaload, 1) := by decide +kernel
theorem dX4_consent_31 : decode cX4_consent 31 = .ok (.istore_n 3, 1) := by decide +kernel
theorem dX4_consent_32 : decode cX4_consent 32 = .ok (.aload_n 0, 1) := by decide +kernel
theorem dX4_consent_33 : decode cX4_consent 33 = .ok (.getfield 13, 3) := by decide +kernel
theorem dX4_consent_36 : decode cX4_consent 36 = .ok (.iload_n 1, 1) := by decide +kernel
theorem dX4_consent_37 : decode cX4_consent 37 = .ok (.iload_n 2, 1) := by decide +kernel
theorem dX4_consent_38 : decode cX4_consent 38 = .ok (.iastore, 1) := by decide +kernel
theorem dX4_consent_39 : decode cX4_consent 39 = .ok (.iload_n 3, 1) := by decide +kernel
theorem dX4_consent_40 : decode cX4_consent 40 = .ok (.ireturn, 1) := by decide +kernel
set_option maxRecDepth 20000 in
theorem ggX4_picture_X4_in : GoodIn wsX4_picture wsX4_in := goodIn_r _ [10] (by decide +kernel) (by decide +kernel)
set_option maxRecDepth 20000 in
theorem gX4_picture_X4_in : GoodIn wsX4_picture (va_wsS RX4 77 yX4_in wsX4_in) := goodIn_app (goodIn_of _ (by decide +kernel)) ggX4_picture_X4_in
theorem dX4_picture_0 : decode cX4_picture 0 = .ok (.aload_n 0, 1) := by decide +kernel
theorem dX4_picture_1 : decode cX4_picture 1 = .ok (.iconst 0, 1) := by decide +kernel
theorem dX4_picture_2 : decode cX4_picture 2 = .ok (.putfield 71, 3) := by decide +kernel
theorem dX4_picture_5 : decode cX4_picture 5 = .ok (.iload_n 1, 1) := by decide +kernel
theorem dX4_picture_6 : decode cX4_picture 6 = .ok (.iconst 0, 1) := by decide +kernel
theorem dX4_picture_7 : decode cX4_picture 7 = .ok (.iconst 2, 1) := by decide +kernel
theorem dX4_picture_8 : decode cX4_picture 8 = .ok (.invokestatic 77, 3) := by decide +kernel
theorem dX4_picture_11 : decode cX4_picture 11 = .ok (.ifCond .eq 32, 3) := by decide +kernel
theorem dX4_picture_14 : decode cX4_picture 14 = .ok (.iload_n 2, 1) := by decide +kernel
theorem dX4_picture_15 : decode cX4_picture 15 = .ok (.iconst 0, 1) := by decide +kernel
theorem dX4_picture_16 : decode cX4_picture 16 = .ok (.bipush 100, 2) := by decide +kernel
theorem dX4_picture_18 : decode cX4_picture 18 = .ok (.invokestatic 77, 3) := by decide +kernel
theorem dX4_picture_21 : decode cX4_picture 21 = .ok (.ifCond .eq 22, 3) := by decide +kernel
theorem dX4_picture_24 : decode cX4_picture 24 = .ok (.iload_n 3, 1) := by decide +kernel
theorem dX4_picture_25 : decode cX4_picture 25 = .ok (.iconst 1, 1) := by decide +kernel
theorem dX4_picture_26 : decode cX4_picture 26 = .ok (.bipush 12, 2) := by decide +kernel
theorem dX4_picture_28 : decode cX4_picture 28 = .ok (.invokestatic 77, 3) := by decide +kernel
theorem dX4_picture_31 : decode cX4_picture 31 = .ok (.ifCond .eq 12, 3) := by decide +kernel
theorem dX4_picture_34 : decode cX4_picture 34 = .ok (.aload_n 0, 1) := by decide +kernel
theorem dX4_picture_35 : decode cX4_picture 35 = .ok (.getfield 74, 3) := by decide +kernel
theorem dX4_picture_38 : decode cX4_picture 38 = .ok (.bipush 14, 2) := by decide +kernel
theorem dX4_picture_40 : decode cX4_picture 40 = .ok (.if_icmp .ne 5, 3) := by decide +kernel
theorem dX4_picture_43 : decode cX4_picture 43 = .ok (.iconst (-1), 1) := by decide +kernel
theorem dX4_picture_44 : decode cX4_picture 44 = .ok (.ireturn, 1) := by decide +kernel
theorem dX4_picture_45 : decode cX4_picture 45 = .ok (.aload_n 0, 1) := by decide +kernel
theorem dX4_picture_46 : decode cX4_picture 46 = .ok (.getfield 16, 3) := by decide +kernel
theorem dX4_picture_49 : decode cX4_picture 49 = .ok (.aload_n 0, 1) := by decide +kernel
theorem dX4_picture_50 : decode cX4_picture 50 = .ok (.getfield 74, 3) := by decide +kernel
theorem dX4_picture_53 : decode cX4_picture 53 = .ok (.iload_n 1, 1) := by decide +kernel
theorem dX4_picture_54 : decode cX4_picture 54 = .ok (.iastore, 1) := by decide +kernel
theorem dX4_picture_55 : decode cX4_picture 55 = .ok (.aload_n 0, 1) := by decide +kernel
theorem dX4_picture_56 : decode cX4_picture 56 = .ok (.getfield 19, 3) := by decide +kernel
theorem dX4_picture_59 : decode cX4_picture 59 = .ok (.aload_n 0, 1) := by decide +kernel
theorem dX4_picture_60 : decode cX4_picture 60 = .ok (.getfield 74, 3) := by decide +kernel
theorem dX4_picture_63 : decode cX4_picture 63 = .ok (.iload_n 2, 1) := by decide +kernel
theorem dX4_picture_64 : decode cX4_picture 64 = .ok (.iastore, 1) := by decide +kernel
theorem dX4_picture_65 : decode cX4_picture 65 = .ok (.aload_n 0, 1) := by decide +kernel
theorem dX4_picture_66 : decode cX4_picture 66 = .ok (.getfield 22, 3) := by decide +kernel
theorem dX4_picture_69 : decode cX4_picture 69 = .ok (.aload_n 0, 1) := by decide +kernel
theorem dX4_picture_70 : decode cX4_picture 70 = .ok (.getfield 74, 3) := by decide +kernel
theorem dX4_picture_73 : decode cX4_picture 73 = .ok (.iload_n 3, 1) := by decide +kernel
theorem dX4_picture_74 : decode cX4_picture 74 = .ok (.iastore, 1) := by decide +kernel
theorem dX4_picture_75 : decode cX4_picture 75 = .ok (.aload_n 0, 1) := by decide +kernel
theorem dX4_picture_76 : decode cX4_picture 76 = .ok (.getfield 25, 3) := by decide +kernel
theorem dX4_picture_79 : decode cX4_picture 79 = .ok (.aload_n 0, 1) := by decide +kernel
theorem dX4_picture_80 : decode cX4_picture 80 = .ok (.getfield 74, 3) := by decide +kernel
theorem dX4_picture_83 : decode cX4_picture 83 = .ok (.iconst 0, 1) := by decide +kernel
theorem dX4_picture_84 : decode cX4_picture 84 = .ok (.iastore, 1) := by decide +kernel
theorem dX4_picture_85 : decode cX4_picture 85 = .ok (.aload_n 0, 1) := by decide +kernel
theorem dX4_picture_86 : decode cX4_picture 86 = .ok (.dup, 1) := by decide +kernel
theorem dX4_picture_87 : decode cX4_picture 87 = .ok (.getfield 74, 3) := by decide +kernel
theorem dX4_picture_90 : decode cX4_picture 90 = .ok (.iconst 1, 1) := by decide +kernel
theorem dX4_picture_91 : decode cX4_picture 91 = .ok (.iadd, 1) := by decide +kernel
theorem dX4_picture_92 : decode cX4_picture 92 = .ok (.putfield 74, 3) := by decide +kernel
theorem dX4_picture_95 : decode cX4_picture 95 = .ok (.aload_n 0, 1) := by decide +kernel
theorem dX4_picture_96 : decode cX4_picture 96 = .ok (.getfield 74, 3) := by decide +kernel
theorem dX4_picture_99 : decode cX4_picture 99 = .ok (.iconst 1, 1) := by decide +kernel
theorem dX4_picture_100 : decode cX4_picture 100 = .ok (.isub, 1) := by decide +kernel
theorem dX4_picture_101 : decode cX4_picture 101 = .ok (.ireturn, 1) := by decide +kernel
set_option maxRecDepth 20000 in
theorem ggX4_face_X4_isPicture : GoodIn wsX4_face wsX4_isPicture := goodIn_r _ [11, 12, 13, 14, 10, 15, 21, 22, 23, 24, 25, 26, 27, 28, 29, 30, 31, 32, 33, 34, 35, 36, 37, 38, 39, 40, 41, 42, 43, 44, 45, 46, 47] (by decide +kernel) (by decide +kernel)
set_option maxRecDepth 20000 in
theorem gX4_face_X4_isPicture : GoodIn wsX4_face (wsV RX4 88 RX4 yX4_isPicture wsX4_isPicture) := goodIn_app (goodIn_of _ (by decide +kernel)) ggX4_face_X4_isPicture
set_option maxRecDepth 20000 in
theorem ggX4_face_X4_isChild : GoodIn wsX4_face wsX4_isChild := goodIn_r _ [19, 20, 13, 14, 10, 15, 21, 22, 23, 24, 25, 26, 27, 28, 29, 30, 31, 32, 33, 34, 35, 36, 37, 38, 39, 40, 41, 42, 43, 44, 45, 46, 47] (by decide +kernel) (by decide +kernel)
set_option maxRecDepth 20000 in
theorem gX4_face_X4_isChild : GoodIn wsX4_face (wsV RX4 84 RX4 yX4_isChild wsX4_isChild) := goodIn_app (goodIn_of _ (by decide +kernel)) ggX4_face_X4_isChild
set_option maxRecDepth 20000 in
theorem ggX4_face_X4_in : GoodIn wsX4_face wsX4_in := goodIn_r _ [15] (by decide +kernel) (by decide +kernel)
set_option maxRecDepth 20000 in
theorem gX4_face_X4_in : GoodIn wsX4_face (va_wsS RX4 77 yX4_in wsX4_in) := goodIn_app (goodIn_of _ (by decide +kernel)) ggX4_face_X4_in
theorem dX4_face_0 : decode cX4_face 0 = .ok (.aload_n 0, 1) := by decide +kernel
theorem dX4_face_1 : decode cX4_face 1 = .ok (.iconst 0, 1) := by decide +kernel
theorem dX4_face_2 : decode cX4_face 2 = .ok (.putfield 71, 3) := by decide +kernel
theorem dX4_face_5 : decode cX4_face 5 = .ok (.aload_n 0, 1) := by decide +kernel
theorem dX4_face_6 : decode cX4_face 6 = .ok (.iload_n 1, 1) := by decide +kernel
theorem dX4_face_7 : decode cX4_face 7 = .ok (.invokevirtual 88, 3) := by decide +kernel
theorem dX4_face_10 : decode cX4_face 10 = .ok (.ifCond .eq 54, 3) := by decide +kernel
theorem dX4_face_13 : decode cX4_face 13 = .ok (.aload_n 0, 1) := by decide +kernel
theorem dX4_face_14 : decode cX4_face 14 = .ok (.iload_n 2, 1) := by decide +kernel
theorem dX4_face_15 : decode cX4_face 15 = .ok (.invokevirtual 84, 3) := by decide +kernel
theorem dX4_face_18 : decode cX4_face 18 = .ok (.ifCond .eq 46, 3) := by decide +kernel
theorem dX4_face_21 : decode cX4_face 21 = .ok (.iload_n 3, 1) := by decide +kernel
theorem dX4_face_22 : decode cX4_face 22 = .ok (.iconst 0, 1) := by decide +kernel
theorem dX4_face_23 : decode cX4_face 23 = .ok (.bipush 99, 2) := by decide +kernel
theorem dX4_face_25 : decode cX4_face 25 = .ok (.invokestatic 77, 3) := by decide +kernel
theorem dX4_face_28 : decode cX4_face 28 = .ok (.ifCond .eq 36, 3) := by decide +kernel
theorem dX4_face_31 : decode cX4_face 31 = .ok (.iload 4, 2) := by decide +kernel
theorem dX4_face_33 : decode cX4_face 33 = .ok (.iconst 0, 1) := by decide +kernel
theorem dX4_face_34 : decode cX4_face 34 = .ok (.bipush 99, 2) := by decide +kernel
theorem dX4_face_36 : decode cX4_face 36 = .ok (.invokestatic 77, 3) := by decide +kernel
theorem dX4_face_39 : decode cX4_face 39 = .ok (.ifCond .eq 25, 3) := by decide +kernel
theorem dX4_face_42 : decode cX4_face 42 = .ok (.iload 5, 2) := by decide +kernel
theorem dX4_face_44 : decode cX4_face 44 = .ok (.iconst 0, 1) := by decide +kernel
theorem dX4_face_45 : decode cX4_face 45 = .ok (.bipush 20, 2) := by decide +kernel
theorem dX4_face_47 : decode cX4_face 47 = .ok (.invokestatic 77, 3) := by decide +kernel
theorem dX4_face_50 : decode cX4_face 50 = .ok (.ifCond .eq 14, 3) := by decide +kernel
theorem dX4_face_53 : decode cX4_face 53 = .ok (.aload_n 0, 1) := by decide +kernel
theorem dX4_face_54 : decode cX4_face 54 = .ok (.getfield 25, 3) := by decide +kernel
theorem dX4_face_57 : decode cX4_face 57 = .ok (.iload_n 1, 1) := by decide +kernel
theorem dX4_face_58 : decode cX4_face 58 = .ok (.iaload, 1) := by decide +kernel
theorem dX4_face_59 : decode cX4_face 59 = .ok (.bipush 8, 2) := by decide +kernel
theorem dX4_face_61 : decode cX4_face 61 = .ok (.if_icmp .ne 5, 3) := by decide +kernel
theorem dX4_face_64 : decode cX4_face 64 = .ok (.iconst (-1), 1) := by decide +kernel
theorem dX4_face_65 : decode cX4_face 65 = .ok (.ireturn, 1) := by decide +kernel
theorem dX4_face_66 : decode cX4_face 66 = .ok (.iconst 0, 1) := by decide +kernel
theorem dX4_face_67 : decode cX4_face 67 = .ok (.istore 6, 2) := by decide +kernel
theorem dX4_face_69 : decode cX4_face 69 = .ok (.iload 6, 2) := by decide +kernel
theorem dX4_face_71 : decode cX4_face 71 = .ok (.aload_n 0, 1) := by decide +kernel
theorem dX4_face_72 : decode cX4_face 72 = .ok (.getfield 25, 3) := by decide +kernel
theorem dX4_face_75 : decode cX4_face 75 = .ok (.iload_n 1, 1) := by decide +kernel
theorem dX4_face_76 : decode cX4_face 76 = .ok (.iaload, 1) := by decide +kernel
theorem dX4_face_77 : decode cX4_face 77 = .ok (.if_icmp .ge 27, 3) := by decide +kernel
theorem dX4_face_80 : decode cX4_face 80 = .ok (.aload_n 0, 1) := by decide +kernel
theorem dX4_face_81 : decode cX4_face 81 = .ok (.getfield 28, 3) := by decide +kernel
theorem dX4_face_84 : decode cX4_face 84 = .ok (.bipush 8, 2) := by decide +kernel
theorem dX4_face_86 : decode cX4_face 86 = .ok (.iload_n 1, 1) := by decide +kernel
theorem dX4_face_87 : decode cX4_face 87 = .ok (.imul, 1) := by decide +kernel
theorem dX4_face_88 : decode cX4_face 88 = .ok (.iload 6, 2) := by decide +kernel
theorem dX4_face_90 : decode cX4_face 90 = .ok (.iadd, 1) := by decide +kernel
theorem dX4_face_91 : decode cX4_face 91 = .ok (.iaload, 1) := by decide +kernel
theorem dX4_face_92 : decode cX4_face 92 = .ok (.iload_n 2, 1) := by decide +kernel
theorem dX4_face_93 : decode cX4_face 93 = .ok (.if_icmp .ne 5, 3) := by decide +kernel
theorem dX4_face_96 : decode cX4_face 96 = .ok (.iconst (-1), 1) := by decide +kernel
theorem dX4_face_97 : decode cX4_face 97 = .ok (.ireturn, 1) := by decide +kernel
theorem dX4_face_98 : decode cX4_face 98 = .ok (.iinc 6 1, 3) := by decide +kernel
theorem dX4_face_101 : decode cX4_face 101 = .ok (.goto (-32), 3) := by decide +kernel
theorem dX4_face_104 : decode cX4_face 104 = .ok (.bipush 8, 2) := by decide +kernel
theorem dX4_face_106 : decode cX4_face 106 = .ok (.iload_n 1, 1) := by decide +kernel
theorem dX4_face_107 : decode cX4_face 107 = .ok (.imul, 1) := by decide +kernel
theorem dX4_face_108 : decode cX4_face 108 = .ok (.aload_n 0, 1) := by decide +kernel
theorem dX4_face_109 : decode cX4_face 109 = .ok (.getfield 25, 3) := by decide +kernel
theorem dX4_face_112 : decode cX4_face 112 = .ok (.iload_n 1, 1) := by decide +kernel
theorem dX4_face_113 : decode cX4_face 113 = .ok (.iaload, 1) := by decide +kernel
theorem dX4_face_114 : decode cX4_face 114 = .ok (.iadd, 1) := by decide +kernel
theorem dX4_face_115 : decode cX4_face 115 = .ok (.istore 6, 2) := by decide +kernel
theorem dX4_face_117 : decode cX4_face 117 = .ok (.aload_n 0, 1) := by decide +kernel
theorem dX4_face_118 : decode cX4_face 118 = .ok (.getfield 28, 3) := by decide +kernel
theorem dX4_face_121 : decode cX4_face 121 = .ok (.iload 6, 2) := by decide +kernel
theorem dX4_face_123 : decode cX4_face 123 = .ok (.iload_n 2, 1) := by decide +kernel
theorem dX4_face_124 : decode cX4_face 124 = .ok (.iastore, 1) := by decide +kernel
theorem dX4_face_125 : decode cX4_face 125 = .ok (.aload_n 0, 1) := by decide +kernel
theorem dX4_face_126 : decode cX4_face 126 = .ok (.getfield 31, 3) := by decide +kernel
theorem dX4_face_129 : decode cX4_face 129 = .ok (.iload 6, 2) := by decide +kernel
theorem dX4_face_131 : decode cX4_face 131 = .ok (.iload_n 3, 1) := by decide +kernel
theorem dX4_face_132 : decode cX4_face 132 = .ok (.iastore, 1) := by decide +kernel
theorem dX4_face_133 : decode cX4_face 133 = .ok (.aload_n 0, 1) := by decide +kernel
theorem dX4_face_134 : decode cX4_face 134 = .ok (.getfield 34, 3) := by decide +kernel
theorem dX4_face_137 : decode cX4_face 137 = .ok (.iload 6, 2) := by decide +kernel
theorem dX4_face_139 : decode cX4_face 139 = .ok (.iload 4, 2) := by decide +kernel
theorem dX4_face_141 : decode cX4_face 141 = .ok (.iastore, 1) := by decide +kernel
theorem dX4_face_142 : decode cX4_face 142 = .ok (.aload_n 0, 1) := by decide +kernel
theorem dX4_face_143 : decode cX4_face 143 = .ok (.getfield 37, 3) := by decide +kernel
theorem dX4_face_146 : decode cX4_face 146 = .ok (.iload 6, 2) := by decide +kernel
theorem dX4_face_148 : decode cX4_face 148 = .ok (.iload 5, 2) := by decide +kernel
theorem dX4_face_150 : decode cX4_face 150 = .ok (.iastore, 1) := by decide +kernel
theorem dX4_face_151 : decode cX4_face 151 = .ok (.aload_n 0, 1) := by decide +kernel
theorem dX4_face_152 : decode cX4_face 152 = .ok (.getfield 25, 3) := by decide +kernel
theorem dX4_face_155 : decode cX4_face 155 = .ok (.iload_n 1, 1) := by decide +kernel
theorem dX4_face_156 : decode cX4_face 156 = .ok (.dup2, 1) := by decide +kernel
theorem dX4_face_157 : decode cX4_face 157 = .ok (.iaload, 1) := by decide +kernel
theorem dX4_face_158 : decode cX4_face 158 = .ok (.iconst 1, 1) := by decide +kernel
theorem dX4_face_159 : decode cX4_face 159 = .ok (.iadd, 1) := by decide +kernel
theorem dX4_face_160 : decode cX4_face 160 = .ok (.iastore, 1) := by decide +kernel
theorem dX4_face_161 : decode cX4_face 161 = .ok (.aload_n 0, 1) := by decide +kernel
theorem dX4_face_162 : decode cX4_face 162 = .ok (.getfield 25, 3) := by decide +kernel
theorem dX4_face_165 : decode cX4_face 165 = .ok (.iload_n 1, 1) := by decide +kernel
theorem dX4_face_166 : decode cX4_face 166 = .ok (.iaload, 1) := by decide +kernel
theorem dX4_face_167 : decode cX4_face 167 = .ok (.ireturn, 1) := by decide +kernel
set_option maxRecDepth 20000 in
theorem ggX4_set_X4_in : GoodIn wsX4_set wsX4_in := goodIn_r _ [9] (by decide +kernel) (by decide +kernel)
set_option maxRecDepth 20000 in
theorem gX4_set_X4_in : GoodIn wsX4_set (va_wsS RX4 77 yX4_in wsX4_in) := goodIn_app (goodIn_of _ (by decide +kernel)) ggX4_set_X4_in
theorem dX4_set_0 : decode cX4_set 0 = .ok (.aload_n 0, 1) := by decide +kernel
theorem dX4_set_1 : decode cX4_set 1 = .ok (.iconst 0, 1) := by decide +kernel
theorem dX4_set_2 : decode cX4_set 2 = .ok (.putfield 71, 3) := by decide +kernel
theorem dX4_set_5 : decode cX4_set 5 = .ok (.iload_n 1, 1) := by decide +kernel
theorem dX4_set_6 : decode cX4_set 6 = .ok (.tableswitch 126 0 3 #[30, 54, 78, 102], 30) := by decide +kernel
theorem dX4_set_36 : decode cX4_set 36 = .ok (.iload_n 2, 1) := by decide +kernel
theorem dX4_set_37 : decode cX4_set 37 = .ok (.iconst 0, 1) := by decide +kernel
theorem dX4_set_38 : decode cX4_set 38 = .ok (.bipush 50, 2) := by decide +kernel
theorem dX4_set_40 : decode cX4_set 40 = .ok (.invokestatic 77, 3) := by decide +kernel
theorem dX4_set_43 : decode cX4_set 43 = .ok (.ifCond .ne 5, 3) := by decide +kernel
theorem dX4_set_46 : decode cX4_set 46 = .ok (.iconst (-1), 1) := by decide +kernel
theorem dX4_set_47 : decode cX4_set 47 = .ok (.ireturn, 1) := by decide +kernel
theorem dX4_set_48 : decode cX4_set 48 = .ok (.aload_n 0, 1) := by decide +kernel
theorem dX4_set_49 : decode cX4_set 49 = .ok (.getfield 40, 3) := by decide +kernel
theorem dX4_set_52 : decode cX4_set 52 = .ok (.istore_n 3, 1) := by decide +kernel
theorem dX4_set_53 : decode cX4_set 53 = .ok (.aload_n 0, 1) := by decide +kernel
theorem dX4_set_54 : decode cX4_set 54 = .ok (.iload_n 2, 1) := by decide +kernel
theorem dX4_set_55 : decode cX4_set 55 = .ok (.putfield 40, 3) := by decide +kernel
theorem dX4_set_58 : decode cX4_set 58 = .ok (.iload_n 3, 1) := by decide +kernel
theorem dX4_set_59 : decode cX4_set 59 = .ok (.ireturn, 1) := by decide +kernel
theorem dX4_set_60 : decode cX4_set 60 = .ok (.iload_n 2, 1) := by decide +kernel
theorem dX4_set_61 : decode cX4_set 61 = .ok (.iconst 0, 1) := by decide +kernel
theorem dX4_set_62 : decode cX4_set 62 = .ok (.bipush 14, 2) := by decide +kernel
theorem dX4_set_64 : decode cX4_set 64 = .ok (.invokestatic 77, 3) := by decide +kernel
theorem dX4_set_67 : decode cX4_set 67 = .ok (.ifCond .ne 5, 3) := by decide +kernel
theorem dX4_set_70 : decode cX4_set 70 = .ok (.iconst (-1), 1) := by decide +kernel
theorem dX4_set_71 : decode cX4_set 71 = .ok (.ireturn, 1) := by decide +kernel
theorem dX4_set_72 : decode cX4_set 72 = .ok (.aload_n 0, 1) := by decide +kernel
theorem dX4_set_73 : decode cX4_set 73 = .ok (.getfield 91, 3) := by decide +kernel
theorem dX4_set_76 : decode cX4_set 76 = .ok (.istore_n 3, 1) := by decide +kernel
theorem dX4_set_77 : decode cX4_set 77 = .ok (.aload_n 0, 1) := by decide +kernel
theorem dX4_set_78 : decode cX4_set 78 = .ok (.iload_n 2, 1) := by decide +kernel
theorem dX4_set_79 : decode cX4_set 79 = .ok (.putfield 91, 3) := by decide +kernel
theorem dX4_set_82 : decode cX4_set 82 = .ok (.iload_n 3, 1) := by decide +kernel
theorem dX4_set_83 : decode cX4_set 83 = .ok (.ireturn, 1) := by decide +kernel
theorem dX4_set_84 : decode cX4_set 84 = .ok (.iload_n 2, 1) := by decide +kernel
theorem dX4_set_85 : decode cX4_set 85 = .ok (.iconst 0, 1) := by decide +kernel
theorem dX4_set_86 : decode cX4_set 86 = .ok (.bipush 14, 2) := by decide +kernel
theorem dX4_set_88 : decode cX4_set 88 = .ok (.invokestatic 77, 3) := by decide +kernel
theorem dX4_set_91 : decode cX4_set 91 = .ok (.ifCond .ne 5, 3) := by decide +kernel
theorem dX4_set_94 : decode cX4_set 94 = .ok (.iconst (-1), 1) := by decide +kernel
theorem dX4_set_95 : decode cX4_set 95 = .ok (.ireturn, 1) := by decide +kernel
theorem dX4_set_96 : decode cX4_set 96 = .ok (.aload_n 0, 1) := by decide +kernel
theorem dX4_set_97 : decode cX4_set 97 = .ok (.getfield 44, 3) := by decide +kernel
theorem dX4_set_100 : decode cX4_set 100 = .ok (.istore_n 3, 1) := by decide +kernel
theorem dX4_set_101 : decode cX4_set 101 = .ok (.aload_n 0, 1) := by decide +kernel
theorem dX4_set_102 : decode cX4_set 102 = .ok (.iload_n 2, 1) := by decide +kernel
theorem dX4_set_103 : decode cX4_set 103 = .ok (.putfield 44, 3) := by decide +kernel
theorem dX4_set_106 : decode cX4_set 106 = .ok (.iload_n 3, 1) := by decide +kernel
theorem dX4_set_107 : decode cX4_set 107 = .ok (.ireturn, 1) := by decide +kernel
theorem dX4_set_108 : decode cX4_set 108 = .ok (.iload_n 2, 1) := by decide +kernel
theorem dX4_set_109 : decode cX4_set 109 = .ok (.iconst 1, 1) := by decide +kernel
theorem dX4_set_110 : decode cX4_set 110 = .ok (.bipush 14, 2) := by decide +kernel
theorem dX4_set_112 : decode cX4_set 112 = .ok (.invokestatic 77, 3) := by decide +kernel
theorem dX4_set_115 : decode cX4_set 115 = .ok (.ifCond .ne 5, 3) := by decide +kernel
theorem dX4_set_118 : decode cX4_set 118 = .ok (.iconst (-1), 1) := by decide +kernel
theorem dX4_set_119 : decode cX4_set 119 = .ok (.ireturn, 1) := by decide +kernel
theorem dX4_set_120 : decode cX4_set 120 = .ok (.aload_n 0, 1) := by decide +kernel
theorem dX4_set_121 : decode cX4_set 121 = .ok (.getfield 47, 3) := by decide +kernel
theorem dX4_set_124 : decode cX4_set 124 = .ok (.istore_n 3, 1) := by decide +kernel
theorem dX4_set_125 : decode cX4_set 125 = .ok (.aload_n 0, 1) := by decide +kernel
theorem dX4_set_126 : decode cX4_set 126 = .ok (.iload_n 2, 1) := by decide +kernel
theorem dX4_set_127 : decode cX4_set 127 = .ok (.putfield 47, 3) := by decide +kernel
theorem dX4_set_130 : decode cX4_set 130 = .ok (.iload_n 3, 1) := by decide +kernel
theorem dX4_set_131 : decode cX4_set 131 = .ok (.ireturn, 1) := by decide +kernel
theorem dX4_set_132 : decode cX4_set 132 = .ok (.iconst (-1), 1) := by decide +kernel
theorem dX4_set_133 : decode cX4_set 133 = .ok (.ireturn, 1) := by decide +kernel
theorem dX4_may_0 : decode cX4_may 0 = .ok (.aload_n 0, 1) := by decide +kernel
theorem dX4_may_1 : decode cX4_may 1 = .ok (.getfield 13, 3) := by decide +kernel
theorem dX4_may_4 : decode cX4_may 4 = .ok (.aload_n 0, 1) := by decide +kernel
theorem dX4_may_5 : decode cX4_may 5 = .ok (.getfield 28, 3) := by decide +kernel
theorem dX4_may_8 : decode cX4_may 8 = .ok (.bipush 8, 2) := by decide +kernel
theorem dX4_may_10 : decode cX4_may 10 = .ok (.iload_n 1, 1) := by decide +kernel
theorem dX4_may_11 : decode cX4_may 11 = .ok (.imul, 1) := by decide +kernel
theorem dX4_may_12 : decode cX4_may 12 = .ok (.iload_n 2, 1) := by decide +kernel
theorem dX4_may_13 : decode cX4_may 13 = .ok (.iadd, 1) := by decide +kernel
theorem dX4_may_14 : decode cX4_may 14 = .ok (.iaload, 1) := by decide +kernel
theorem dX4_may_15 : decode cX4_may 15 = .ok (.iaload, 1) := by decide +kernel
theorem dX4_may_16 : decode cX4_may 16 = .ok (.aload_n 0, 1) := by decide +kernel
theorem dX4_may_17 : decode cX4_may 17 = .ok (.getfield 16, 3) := by decide +kernel
theorem dX4_may_20 : decode cX4_may 20 = .ok (.iload_n 1, 1) := by decide +kernel
theorem dX4_may_21 : decode cX4_may 21 = .ok (.iaload, 1) := by decide +kernel
theorem dX4_may_22 : decode cX4_may 22 = .ok (.ishr, 1) := by decide +kernel
theorem dX4_may_23 : decode cX4_may 23 = .ok (.iconst 1, 1) := by decide +kernel
theorem dX4_may_24 : decode cX4_may 24 = .ok (.iand, 1) := by decide +kernel
theorem dX4_may_25 : decode cX4_may 25 = .ok (.iconst 1, 1) := by decide +kernel
theorem dX4_may_26 : decode cX4_may 26 = .ok (.if_icmp .ne 7, 3) := by decide +kernel
theorem dX4_may_29 : decode cX4_may 29 = .ok (.iconst 1, 1) := by decide +kernel
theorem dX4_may_30 : decode cX4_may 30 = .ok (.goto 4, 3) := by decide +kernel
theorem dX4_may_33 : decode cX4_may 33 = .ok (.iconst 0, 1) := by decide +kernel
theorem dX4_may_34 : decode cX4_may 34 = .ok (.ireturn, 1) := by decide +kernel
set_option maxRecDepth 20000 in
theorem ggX4_cutOf_X4_may : GoodIn wsX4_cutOf wsX4_may := goodIn_r _ [10, 11, 12, 13, 14, 15, 16, 17, 18, 19, 20, 21, 22, 23, 24, 25, 26, 27, 28, 29, 30, 31, 32, 33, 34, 35, 36, 37, 38, 39, 40] (by decide +kernel) (by decide +kernel)
set_option maxRecDepth 20000 in
theorem gX4_cutOf_X4_may : GoodIn wsX4_cutOf (wsV RX4 94 RX4 yX4_may wsX4_may) := goodIn_app (goodIn_of _ (by decide +kernel)) ggX4_cutOf_X4_may
theorem dX4_cutOf_0 : decode cX4_cutOf 0 = .ok (.iconst 0, 1) := by decide +kernel
theorem dX4_cutOf_1 : decode cX4_cutOf 1 = .ok (.istore_n 2, 1) := by decide +kernel
theorem dX4_cutOf_2 : decode cX4_cutOf 2 = .ok (.iconst 0, 1) := by decide +kernel
theorem dX4_cutOf_3 : decode cX4_cutOf 3 = .ok (.istore_n 3, 1) := by decide +kernel
theorem dX4_cutOf_4 : decode cX4_cutOf 4 = .ok (.iload_n 3, 1) := by decide +kernel
theorem dX4_cutOf_5 : decode cX4_cutOf 5 = .ok (.aload_n 0, 1) := by decide +kernel
theorem dX4_cutOf_6 : decode cX4_cutOf 6 = .ok (.getfield 25, 3) := by decide +kernel
theorem dX4_cutOf_9 : decode cX4_cutOf 9 = .ok (.iload_n 1, 1) := by decide +kernel
theorem dX4_cutOf_10 : decode cX4_cutOf 10 = .ok (.iaload, 1) := by decide +kernel
theorem dX4_cutOf_11 : decode cX4_cutOf 11 = .ok (.if_icmp .ge 227, 3) := by decide +kernel
theorem dX4_cutOf_14 : decode cX4_cutOf 14 = .ok (.aload_n 0, 1) := by decide +kernel
theorem dX4_cutOf_15 : decode cX4_cutOf 15 = .ok (.iload_n 1, 1) := by decide +kernel
theorem dX4_cutOf_16 : decode cX4_cutOf 16 = .ok (.iload_n 3, 1) := by decide +kernel
theorem dX4_cutOf_17 : decode cX4_cutOf 17 = .ok (.invokevirtual 94, 3) := by decide +kernel
theorem dX4_cutOf_20 : decode cX4_cutOf 20 = .ok (.ifCond .ne 6, 3) := by decide +kernel
theorem dX4_cutOf_23 : decode cX4_cutOf 23 = .ok (.goto 209, 3) := by decide +kernel
theorem dX4_cutOf_26 : decode cX4_cutOf 26 = .ok (.bipush 8, 2) := by decide +kernel
theorem dX4_cutOf_28 : decode cX4_cutOf 28 = .ok (.iload_n 1, 1) := by decide +kernel
theorem dX4_cutOf_29 : decode cX4_cutOf 29 = .ok (.imul, 1) := by decide +kernel
theorem dX4_cutOf_30 : decode cX4_cutOf 30 = .ok (.iload_n 3, 1) := by decide +kernel
theorem dX4_cutOf_31 : decode cX4_cutOf 31 = .ok (.iadd, 1) := by decide +kernel
theorem dX4_cutOf_32 : decode cX4_cutOf 32 = .ok (.istore 4, 2) := by decide +kernel
theorem dX4_cutOf_34 : decode cX4_cutOf 34 = .ok (.aload_n 0, 1) := by decide +kernel
theorem dX4_cutOf_35 : decode cX4_cutOf 35 = .ok (.getfield 31, 3) := by decide +kernel
theorem dX4_cutOf_38 : decode cX4_cutOf 38 = .ok (.iload 4, 2) := by decide +kernel
theorem dX4_cutOf_40 : decode cX4_cutOf 40 = .ok (.iaload, 1) := by decide +kernel
theorem dX4_cutOf_41 : decode cX4_cutOf 41 = .ok (.aload_n 0, 1) := by decide +kernel
theorem dX4_cutOf_42 : decode cX4_cutOf 42 = .ok (.getfield 37, 3) := by decide +kernel
theorem dX4_cutOf_45 : decode cX4_cutOf 45 = .ok (.iload 4, 2) := by decide +kernel
theorem dX4_cutOf_47 : decode cX4_cutOf 47 = .ok (.iaload, 1) := by decide +kernel
theorem dX4_cutOf_48 : decode cX4_cutOf 48 = .ok (.isub, 1) := by decide +kernel
theorem dX4_cutOf_49 : decode cX4_cutOf 49 = .ok (.istore 5, 2) := by decide +kernel
theorem dX4_cutOf_51 : decode cX4_cutOf 51 = .ok (.aload_n 0, 1) := by decide +kernel
theorem dX4_cutOf_52 : decode cX4_cutOf 52 = .ok (.getfield 34, 3) := by decide +kernel
theorem dX4_cutOf_55 : decode cX4_cutOf 55 = .ok (.iload 4, 2) := by decide +kernel
theorem dX4_cutOf_57 : decode cX4_cutOf 57 = .ok (.iaload, 1) := by decide +kernel
theorem dX4_cutOf_58 : decode cX4_cutOf 58 = .ok (.aload_n 0, 1) := by decide +kernel
theorem dX4_cutOf_59 : decode cX4_cutOf 59 = .ok (.getfield 37, 3) := by decide +kernel
theorem dX4_cutOf_62 : decode cX4_cutOf 62 = .ok (.iload 4, 2) := by decide +kernel
theorem dX4_cutOf_64 : decode cX4_cutOf 64 = .ok (.iaload, 1) := by decide +kernel
theorem dX4_cutOf_65 : decode cX4_cutOf 65 = .ok (.isub, 1) := by decide +kernel
theorem dX4_cutOf_66 : decode cX4_cutOf 66 = .ok (.istore 6, 2) := by decide +kernel
theorem dX4_cutOf_68 : decode cX4_cutOf 68 = .ok (.aload_n 0, 1) := by decide +kernel
theorem dX4_cutOf_69 : decode cX4_cutOf 69 = .ok (.getfield 31, 3) := by decide +kernel
theorem dX4_cutOf_72 : decode cX4_cutOf 72 = .ok (.iload 4, 2) := by decide +kernel
theorem dX4_cutOf_74 : decode cX4_cutOf 74 = .ok (.iaload, 1) := by decide +kernel
theorem dX4_cutOf_75 : decode cX4_cutOf 75 = .ok (.aload_n 0, 1) := by decide +kernel
theorem dX4_cutOf_76 : decode cX4_cutOf 76 = .ok (.getfield 37, 3) := by decide +kernel
theorem dX4_cutOf_79 : decode cX4_cutOf 79 = .ok (.iload 4, 2) := by decide +kernel
theorem dX4_cutOf_81 : decode cX4_cutOf 81 = .ok (.iaload, 1) := by decide +kernel
theorem dX4_cutOf_82 : decode cX4_cutOf 82 = .ok (.iadd, 1) := by decide +kernel
theorem dX4_cutOf_83 : decode cX4_cutOf 83 = .ok (.istore 7, 2) := by decide +kernel
theorem dX4_cutOf_85 : decode cX4_cutOf 85 = .ok (.aload_n 0, 1) := by decide +kernel
theorem dX4_cutOf_86 : decode cX4_cutOf 86 = .ok (.getfield 34, 3) := by decide +kernel
theorem dX4_cutOf_89 : decode cX4_cutOf 89 = .ok (.iload 4, 2) := by decide +kernel
theorem dX4_cutOf_91 : decode cX4_cutOf 91 = .ok (.iaload, 1) := by decide +kernel
theorem dX4_cutOf_92 : decode cX4_cutOf 92 = .ok (.aload_n 0, 1) := by decide +kernel
theorem dX4_cutOf_93 : decode cX4_cutOf 93 = .ok (.getfield 37, 3) := by decide +kernel
theorem dX4_cutOf_96 : decode cX4_cutOf 96 = .ok (.iload 4, 2) := by decide +kernel
theorem dX4_cutOf_98 : decode cX4_cutOf 98 = .ok (.iaload, 1) := by decide +kernel
theorem dX4_cutOf_99 : decode cX4_cutOf 99 = .ok (.iadd, 1) := by decide +kernel
theorem dX4_cutOf_100 : decode cX4_cutOf 100 = .ok (.istore 8, 2) := by decide +kernel
theorem dX4_cutOf_102 : decode cX4_cutOf 102 = .ok (.aload_n 0, 1) := by decide +kernel
theorem dX4_cutOf_103 : decode cX4_cutOf 103 = .ok (.getfield 53, 3) := by decide +kernel
theorem dX4_cutOf_106 : decode cX4_cutOf 106 = .ok (.iconst 0, 1) := by decide +kernel
theorem dX4_cutOf_107 : decode cX4_cutOf 107 = .ok (.iload_n 2, 1) := by decide +kernel
theorem dX4_cutOf_108 : decode cX4_cutOf 108 = .ok (.ifCond .eq 14, 3) := by decide +kernel
theorem dX4_cutOf_111 : decode cX4_cutOf 111 = .ok (.iload 5, 2) := by decide +kernel
theorem dX4_cutOf_113 : decode cX4_cutOf 113 = .ok (.aload_n 0, 1) := by decide +kernel
theorem dX4_cutOf_114 : decode cX4_cutOf 114 = .ok (.getfield 53, 3) := by decide +kernel
theorem dX4_cutOf_117 : decode cX4_cutOf 117 = .ok (.iconst 0, 1) := by decide +kernel
theorem dX4_cutOf_118 : decode cX4_cutOf 118 = .ok (.iaload, 1) := by decide +kernel
theorem dX4_cutOf_119 : decode cX4_cutOf 119 = .ok (.if_icmp .ge 8, 3) := by decide +kernel
theorem dX4_cutOf_122 : decode cX4_cutOf 122 = .ok (.iload 5, 2) := by decide +kernel
theorem dX4_cutOf_124 : decode cX4_cutOf 124 = .ok (.goto 9, 3) := by decide +kernel
theorem dX4_cutOf_127 : decode cX4_cutOf 127 = .ok (.aload_n 0, 1) := by decide +kernel
theorem dX4_cutOf_128 : decode cX4_cutOf 128 = .ok (.getfield 53, 3) := by decide +kernel
theorem dX4_cutOf_131 : decode cX4_cutOf 131 = .ok (.iconst 0, 1) := by decide +kernel
theorem dX4_cutOf_132 : decode cX4_cutOf 132 = .ok (.iaload, 1) := by decide +kernel
theorem dX4_cutOf_133 : decode cX4_cutOf 133 = .ok (.iastore, 1) := by decide +kernel
theorem dX4_cutOf_134 : decode cX4_cutOf 134 = .ok (.aload_n 0, 1) := by decide +kernel
theorem dX4_cutOf_135 : decode cX4_cutOf 135 = .ok (.getfield 53, 3) := by decide +kernel
theorem dX4_cutOf_138 : decode cX4_cutOf 138 = .ok (.iconst 1, 1) := by decide +kernel
theorem dX4_cutOf_139 : decode cX4_cutOf 139 = .ok (.iload_n 2, 1) := by decide +kernel
theorem dX4_cutOf_140 : decode cX4_cutOf 140 = .ok (.ifCond .eq 14, 3) := by decide +kernel
theorem dX4_cutOf_143 : decode cX4_cutOf 143 = .ok (.iload 6, 2) := by decide +kernel
theorem dX4_cutOf_145 : decode cX4_cutOf 145 = .ok (.aload_n 0, 1) := by decide +kernel
theorem dX4_cutOf_146 : decode cX4_cutOf 146 = .ok (.getfield 53, 3) := by decide +kernel
theorem dX4_cutOf_149 : decode cX4_cutOf 149 = .ok (.iconst 1, 1) := by decide +kernel
theorem dX4_cutOf_150 : decode cX4_cutOf 150 = .ok (.iaload, 1) := by decide +kernel
theorem dX4_cutOf_151 : decode cX4_cutOf 151 = .ok (.if_icmp .ge 8, 3) := by decide +kernel
theorem dX4_cutOf_154 : decode cX4_cutOf 154 = .ok (.iload 6, 2) := by decide +kernel
theorem dX4_cutOf_156 : decode cX4_cutOf 156 = .ok (.goto 9, 3) := by decide +kernel
theorem dX4_cutOf_159 : decode cX4_cutOf 159 = .ok (.aload_n 0, 1) := by decide +kernel
theorem dX4_cutOf_160 : decode cX4_cutOf 160 = .ok (.getfield 53, 3) := by decide +kernel
theorem dX4_cutOf_163 : decode cX4_cutOf 163 = .ok (.iconst 1, 1) := by decide +kernel
theorem dX4_cutOf_164 : decode cX4_cutOf 164 = .ok (.iaload, 1) := by decide +kernel
theorem dX4_cutOf_165 : decode cX4_cutOf 165 = .ok (.iastore, 1) := by decide +kernel
theorem dX4_cutOf_166 : decode cX4_cutOf 166 = .ok (.aload_n 0, 1) := by decide +kernel
theorem dX4_cutOf_167 : decode cX4_cutOf 167 = .ok (.getfield 53, 3) := by decide +kernel
theorem dX4_cutOf_170 : decode cX4_cutOf 170 = .ok (.iconst 2, 1) := by decide +kernel
theorem dX4_cutOf_171 : decode cX4_cutOf 171 = .ok (.iload_n 2, 1) := by decide +kernel
theorem dX4_cutOf_172 : decode cX4_cutOf 172 = .ok (.ifCond .eq 14, 3) := by decide +kernel
theorem dX4_cutOf_175 : decode cX4_cutOf 175 = .ok (.iload 7, 2) := by decide +kernel
theorem dX4_cutOf_177 : decode cX4_cutOf 177 = .ok (.aload_n 0, 1) := by decide +kernel
theorem dX4_cutOf_178 : decode cX4_cutOf 178 = .ok (.getfield 53, 3) := by decide +kernel
theorem dX4_cutOf_181 : decode cX4_cutOf 181 = .ok (.iconst 2, 1) := by decide +kernel
theorem dX4_cutOf_182 : decode cX4_cutOf 182 = .ok (.iaload, 1) := by decide +kernel
theorem dX4_cutOf_183 : decode cX4_cutOf 183 = .ok (.if_icmp .le 8, 3) := by decide +kernel
theorem dX4_cutOf_186 : decode cX4_cutOf 186 = .ok (.iload 7, 2) := by decide +kernel
theorem dX4_cutOf_188 : decode cX4_cutOf 188 = .ok (.goto 9, 3) := by decide +kernel
theorem dX4_cutOf_191 : decode cX4_cutOf 191 = .ok (.aload_n 0, 1) := by decide +kernel
theorem dX4_cutOf_192 : decode cX4_cutOf 192 = .ok (.getfield 53, 3) := by decide +kernel
theorem dX4_cutOf_195 : decode cX4_cutOf 195 = .ok (.iconst 2, 1) := by decide +kernel
theorem dX4_cutOf_196 : decode cX4_cutOf 196 = .ok (.iaload, 1) := by decide +kernel
theorem dX4_cutOf_197 : decode cX4_cutOf 197 = .ok (.iastore, 1) := by decide +kernel
theorem dX4_cutOf_198 : decode cX4_cutOf 198 = .ok (.aload_n 0, 1) := by decide +kernel
theorem dX4_cutOf_199 : decode cX4_cutOf 199 = .ok (.getfield 53, 3) := by decide +kernel
theorem dX4_cutOf_202 : decode cX4_cutOf 202 = .ok (.iconst 3, 1) := by decide +kernel
theorem dX4_cutOf_203 : decode cX4_cutOf 203 = .ok (.iload_n 2, 1) := by decide +kernel
theorem dX4_cutOf_204 : decode cX4_cutOf 204 = .ok (.ifCond .eq 14, 3) := by decide +kernel
theorem dX4_cutOf_207 : decode cX4_cutOf 207 = .ok (.iload 8, 2) := by decide +kernel
theorem dX4_cutOf_209 : decode cX4_cutOf 209 = .ok (.aload_n 0, 1) := by decide +kernel
theorem dX4_cutOf_210 : decode cX4_cutOf 210 = .ok (.getfield 53, 3) := by decide +kernel
theorem dX4_cutOf_213 : decode cX4_cutOf 213 = .ok (.iconst 3, 1) := by decide +kernel
theorem dX4_cutOf_214 : decode cX4_cutOf 214 = .ok (.iaload, 1) := by decide +kernel
theorem dX4_cutOf_215 : decode cX4_cutOf 215 = .ok (.if_icmp .le 8, 3) := by decide +kernel
theorem dX4_cutOf_218 : decode cX4_cutOf 218 = .ok (.iload 8, 2) := by decide +kernel
theorem dX4_cutOf_220 : decode cX4_cutOf 220 = .ok (.goto 9, 3) := by decide +kernel
theorem dX4_cutOf_223 : decode cX4_cutOf 223 = .ok (.aload_n 0, 1) := by decide +kernel
theorem dX4_cutOf_224 : decode cX4_cutOf 224 = .ok (.getfield 53, 3) := by decide +kernel
theorem dX4_cutOf_227 : decode cX4_cutOf 227 = .ok (.iconst 3, 1) := by decide +kernel
theorem dX4_cutOf_228 : decode cX4_cutOf 228 = .ok (.iaload, 1) := by decide +kernel
theorem dX4_cutOf_229 : decode cX4_cutOf 229 = .ok (.iastore, 1) := by decide +kernel
theorem dX4_cutOf_230 : decode cX4_cutOf 230 = .ok (.iconst 1, 1) := by decide +kernel
theorem dX4_cutOf_231 : decode cX4_cutOf 231 = .ok (.istore_n 2, 1) := by decide +kernel
theorem dX4_cutOf_232 : decode cX4_cutOf 232 = .ok (.iinc 3 1, 3) := by decide +kernel
theorem dX4_cutOf_235 : decode cX4_cutOf 235 = .ok (.goto (-231), 3) := by decide +kernel
theorem dX4_cutOf_238 : decode cX4_cutOf 238 = .ok (.iload_n 2, 1) := by decide +kernel
theorem dX4_cutOf_239 : decode cX4_cutOf 239 = .ok (.ireturn, 1) := by decide +kernel
set_option maxRecDepth 20000 in
theorem ggX4_isGood_X4_cutOf : GoodIn wsX4_isGood wsX4_cutOf := goodIn_r _ [10, 1, 2, 3, 5, 4, 11, 12, 13, 9, 14, 15, 16, 17, 18, 19, 20, 21, 22, 23, 24, 25, 26, 27, 28, 29, 30, 31, 32, 33, 34, 35, 36, 37, 38, 39, 40, 41, 42, 43, 44] (by decide +kernel) (by decide +kernel)
set_option maxRecDepth 20000 in
theorem gX4_isGood_X4_cutOf : GoodIn wsX4_isGood (wsV RX4 98 RX4 yX4_cutOf wsX4_cutOf) := goodIn_app (goodIn_of _ (by decide +kernel)) ggX4_isGood_X4_cutOf
set_option maxRecDepth 20000 in
theorem ggX4_isGood_X4_may : GoodIn wsX4_isGood wsX4_may := goodIn_r _ [14, 15, 16, 17, 18, 19, 20, 21, 22, 23, 24, 25, 26, 27, 28, 29, 30, 31, 32, 33, 34, 35, 36, 37, 38, 39, 40, 41, 42, 43, 44] (by decide +kernel) (by decide +kernel)
set_option maxRecDepth 20000 in
theorem gX4_isGood_X4_may : GoodIn wsX4_isGood (wsV RX4 94 RX4 yX4_may wsX4_may) := goodIn_app (goodIn_of _ (by decide +kernel)) ggX4_isGood_X4_may
theorem dX4_isGood_0 : decode cX4_isGood 0 = .ok (.aload_n 0, 1) := by decide +kernel
theorem dX4_isGood_1 : decode cX4_isGood 1 = .ok (.iload_n 1, 1) := by decide +kernel
theorem dX4_isGood_2 : decode cX4_isGood 2 = .ok (.invokevirtual 98, 3) := by decide +kernel
theorem dX4_isGood_5 : decode cX4_isGood 5 = .ok (.ifCond .ne 5, 3) := by decide +kernel
theorem dX4_isGood_8 : decode cX4_isGood 8 = .ok (.iconst 0, 1) := by decide +kernel
theorem dX4_isGood_9 : decode cX4_isGood 9 = .ok (.ireturn, 1) := by decide +kernel
theorem dX4_isGood_10 : decode cX4_isGood 10 = .ok (.iconst 0, 1) := by decide +kernel
theorem dX4_isGood_11 : decode cX4_isGood 11 = .ok (.istore_n 2, 1) := by decide +kernel
theorem dX4_isGood_12 : decode cX4_isGood 12 = .ok (.iload_n 2, 1) := by decide +kernel
theorem dX4_isGood_13 : decode cX4_isGood 13 = .ok (.aload_n 0, 1) := by decide +kernel
theorem dX4_isGood_14 : decode cX4_isGood 14 = .ok (.getfield 25, 3) := by decide +kernel
theorem dX4_isGood_17 : decode cX4_isGood 17 = .ok (.iload_n 1, 1) := by decide +kernel
theorem dX4_isGood_18 : decode cX4_isGood 18 = .ok (.iaload, 1) := by decide +kernel
theorem dX4_isGood_19 : decode cX4_isGood 19 = .ok (.if_icmp .ge 127, 3) := by decide +kernel
theorem dX4_isGood_22 : decode cX4_isGood 22 = .ok (.bipush 8, 2) := by decide +kernel
theorem dX4_isGood_24 : decode cX4_isGood 24 = .ok (.iload_n 1, 1) := by decide +kernel
theorem dX4_isGood_25 : decode cX4_isGood 25 = .ok (.imul, 1) := by decide +kernel
theorem dX4_isGood_26 : decode cX4_isGood 26 = .ok (.iload_n 2, 1) := by decide +kernel
theorem dX4_isGood_27 : decode cX4_isGood 27 = .ok (.iadd, 1) := by decide +kernel
theorem dX4_isGood_28 : decode cX4_isGood 28 = .ok (.istore_n 3, 1) := by decide +kernel
theorem dX4_isGood_29 : decode cX4_isGood 29 = .ok (.aload_n 0, 1) := by decide +kernel
theorem dX4_isGood_30 : decode cX4_isGood 30 = .ok (.getfield 31, 3) := by decide +kernel
theorem dX4_isGood_33 : decode cX4_isGood 33 = .ok (.iload_n 3, 1) := by decide +kernel
theorem dX4_isGood_34 : decode cX4_isGood 34 = .ok (.iaload, 1) := by decide +kernel
theorem dX4_isGood_35 : decode cX4_isGood 35 = .ok (.aload_n 0, 1) := by decide +kernel
theorem dX4_isGood_36 : decode cX4_isGood 36 = .ok (.getfield 37, 3) := by decide +kernel
theorem dX4_isGood_39 : decode cX4_isGood 39 = .ok (.iload_n 3, 1) := by decide +kernel
theorem dX4_isGood_40 : decode cX4_isGood 40 = .ok (.iaload, 1) := by decide +kernel
theorem dX4_isGood_41 : decode cX4_isGood 41 = .ok (.iadd, 1) := by decide +kernel
theorem dX4_isGood_42 : decode cX4_isGood 42 = .ok (.aload_n 0, 1) := by decide +kernel
theorem dX4_isGood_43 : decode cX4_isGood 43 = .ok (.getfield 53, 3) := by decide +kernel
theorem dX4_isGood_46 : decode cX4_isGood 46 = .ok (.iconst 0, 1) := by decide +kernel
theorem dX4_isGood_47 : decode cX4_isGood 47 = .ok (.iaload, 1) := by decide +kernel
theorem dX4_isGood_48 : decode cX4_isGood 48 = .ok (.if_icmp .lt 69, 3) := by decide +kernel
theorem dX4_isGood_51 : decode cX4_isGood 51 = .ok (.aload_n 0, 1) := by decide +kernel
theorem dX4_isGood_52 : decode cX4_isGood 52 = .ok (.getfield 31, 3) := by decide +kernel
theorem dX4_isGood_55 : decode cX4_isGood 55 = .ok (.iload_n 3, 1) := by decide +kernel
theorem dX4_isGood_56 : decode cX4_isGood 56 = .ok (.iaload, 1) := by decide +kernel
theorem dX4_isGood_57 : decode cX4_isGood 57 = .ok (.aload_n 0, 1) := by decide +kernel
theorem dX4_isGood_58 : decode cX4_isGood 58 = .ok (.getfield 37, 3) := by decide +kernel
theorem dX4_isGood_61 : decode cX4_isGood 61 = .ok (.iload_n 3, 1) := by decide +kernel
theorem dX4_isGood_62 : decode cX4_isGood 62 = .ok (.iaload, 1) := by decide +kernel
theorem dX4_isGood_63 : decode cX4_isGood 63 = .ok (.isub, 1) := by decide +kernel
theorem dX4_isGood_64 : decode cX4_isGood 64 = .ok (.aload_n 0, 1) := by decide +kernel
theorem dX4_isGood_65 : decode cX4_isGood 65 = .ok (.getfield 53, 3) := by decide +kernel
theorem dX4_isGood_68 : decode cX4_isGood 68 = .ok (.iconst 2, 1) := by decide +kernel
theorem dX4_isGood_69 : decode cX4_isGood 69 = .ok (.iaload, 1) := by decide +kernel
theorem dX4_isGood_70 : decode cX4_isGood 70 = .ok (.if_icmp .gt 47, 3) := by decide +kernel
theorem dX4_isGood_73 : decode cX4_isGood 73 = .ok (.aload_n 0, 1) := by decide +kernel
theorem dX4_isGood_74 : decode cX4_isGood 74 = .ok (.getfield 34, 3) := by decide +kernel
theorem dX4_isGood_77 : decode cX4_isGood 77 = .ok (.iload_n 3, 1) := by decide +kernel
theorem dX4_isGood_78 : decode cX4_isGood 78 = .ok (.iaload, 1) := by decide +kernel
theorem dX4_isGood_79 : decode cX4_isGood 79 = .ok (.aload_n 0, 1) := by decide +kernel
theorem dX4_isGood_80 : decode cX4_isGood 80 = .ok (.getfield 37, 3) := by decide +kernel
theorem dX4_isGood_83 : decode cX4_isGood 83 = .ok (.iload_n 3, 1) := by decide +kernel
theorem dX4_isGood_84 : decode cX4_isGood 84 = .ok (.iaload, 1) := by decide +kernel
theorem dX4_isGood_85 : decode cX4_isGood 85 = .ok (.iadd, 1) := by decide +kernel
theorem dX4_isGood_86 : decode cX4_isGood 86 = .ok (.aload_n 0, 1) := by decide +kernel
theorem dX4_isGood_87 : decode cX4_isGood 87 = .ok (.getfield 53, 3) := by decide +kernel
theorem dX4_isGood_90 : decode cX4_isGood 90 = .ok (.iconst 1, 1) := by decide +kernel
theorem dX4_isGood_91 : decode cX4_isGood 91 = .ok (.iaload, 1) := by decide +kernel
theorem dX4_isGood_92 : decode cX4_isGood 92 = .ok (.if_icmp .lt 25, 3) := by decide +kernel
theorem dX4_isGood_95 : decode cX4_isGood 95 = .ok (.aload_n 0, 1) := by decide +kernel
theorem dX4_isGood_96 : decode cX4_isGood 96 = .ok (.getfield 34, 3) := by decide +kernel
theorem dX4_isGood_99 : decode cX4_isGood 99 = .ok (.iload_n 3, 1) := by decide +kernel
theorem dX4_isGood_100 : decode cX4_isGood 100 = .ok (.iaload, 1) := by decide +kernel
theorem dX4_isGood_101 : decode cX4_isGood 101 = .ok (.aload_n 0, 1) := by decide +kernel
theorem dX4_isGood_102 : decode cX4_isGood 102 = .ok (.getfield 37, 3) := by decide +kernel
theorem dX4_isGood_105 : decode cX4_isGood 105 = .ok (.iload_n 3, 1) := by decide +kernel
theorem dX4_isGood_106 : decode cX4_isGood 106 = .ok (.iaload, 1) := by decide +kernel
theorem dX4_isGood_107 : decode cX4_isGood 107 = .ok (.isub, 1) := by decide +kernel
theorem dX4_isGood_108 : decode cX4_isGood 108 = .ok (.aload_n 0, 1) := by decide +kernel
theorem dX4_isGood_109 : decode cX4_isGood 109 = .ok (.getfield 53, 3) := by decide +kernel
theorem dX4_isGood_112 : decode cX4_isGood 112 = .ok (.iconst 3, 1) := by decide +kernel
theorem dX4_isGood_113 : decode cX4_isGood 113 = .ok (.iaload, 1) := by decide +kernel
theorem dX4_isGood_114 : decode cX4_isGood 114 = .ok (.if_icmp .le 7, 3) := by decide +kernel
theorem dX4_isGood_117 : decode cX4_isGood 117 = .ok (.iconst 1, 1) := by decide +kernel
theorem dX4_isGood_118 : decode cX4_isGood 118 = .ok (.goto 4, 3) := by decide +kernel
theorem dX4_isGood_121 : decode cX4_isGood 121 = .ok (.iconst 0, 1) := by decide +kernel
theorem dX4_isGood_122 : decode cX4_isGood 122 = .ok (.istore 4, 2) := by decide +kernel
theorem dX4_isGood_124 : decode cX4_isGood 124 = .ok (.aload_n 0, 1) := by decide +kernel
theorem dX4_isGood_125 : decode cX4_isGood 125 = .ok (.iload_n 1, 1) := by decide +kernel
theorem dX4_isGood_126 : decode cX4_isGood 126 = .ok (.iload_n 2, 1) := by decide +kernel
theorem dX4_isGood_127 : decode cX4_isGood 127 = .ok (.invokevirtual 94, 3) := by decide +kernel
theorem dX4_isGood_130 : decode cX4_isGood 130 = .ok (.ifCond .ne 10, 3) := by decide +kernel
theorem dX4_isGood_133 : decode cX4_isGood 133 = .ok (.iload 4, 2) := by decide +kernel
theorem dX4_isGood_135 : decode cX4_isGood 135 = .ok (.ifCond .ne 5, 3) := by decide +kernel
theorem dX4_isGood_138 : decode cX4_isGood 138 = .ok (.iconst 0, 1) := by decide +kernel
theorem dX4_isGood_139 : decode cX4_isGood 139 = .ok (.ireturn, 1) := by decide +kernel
theorem dX4_isGood_140 : decode cX4_isGood 140 = .ok (.iinc 2 1, 3) := by decide +kernel
theorem dX4_isGood_143 : decode cX4_isGood 143 = .ok (.goto (-131), 3) := by decide +kernel
theorem dX4_isGood_146 : decode cX4_isGood 146 = .ok (.iconst 1, 1) := by decide +kernel
theorem dX4_isGood_147 : decode cX4_isGood 147 = .ok (.ireturn, 1) := by decide +kernel
set_option maxRecDepth 20000 in
theorem ggX4_seenIn_X4_isGood : GoodIn wsX4_seenIn wsX4_isGood := goodIn_r _ [7, 1, 8, 9, 10, 11, 12, 13, 14, 6, 15, 16, 17, 18, 19, 20, 2, 21, 22, 23, 24, 25, 26, 27, 28, 29, 30, 31, 32, 33, 34, 35, 36, 37, 38, 39, 40, 41, 42, 43, 44, 45, 46, 47, 48] (by decide +kernel) (by decide +kernel)
set_option maxRecDepth 20000 in
theorem gX4_seenIn_X4_isGood : GoodIn wsX4_seenIn (wsV RX4 101 RX4 yX4_isGood wsX4_isGood) := goodIn_app (goodIn_of _ (by decide +kernel)) ggX4_seenIn_X4_isGood
set_option maxRecDepth 20000 in
theorem ggX4_seenIn_X4_may : GoodIn wsX4_seenIn wsX4_may := goodIn_r _ [19, 20, 2, 21, 22, 23, 24, 25, 26, 27, 28, 29, 30, 31, 32, 33, 34, 35, 36, 37, 38, 39, 40, 41, 42, 43, 44, 45, 46, 47, 48] (by decide +kernel) (by decide +kernel)
set_option maxRecDepth 20000 in
theorem gX4_seenIn_X4_may : GoodIn wsX4_seenIn (wsV RX4 94 RX4 yX4_may wsX4_may) := goodIn_app (goodIn_of _ (by decide +kernel)) ggX4_seenIn_X4_may
theorem dX4_seenIn_0 : decode cX4_seenIn 0 = .ok (.aload_n 0, 1) := by decide +kernel
theorem dX4_seenIn_1 : decode cX4_seenIn 1 = .ok (.iload_n 1, 1) := by decide +kernel
theorem dX4_seenIn_2 : decode cX4_seenIn 2 = .ok (.invokevirtual 101, 3) := by decide +kernel
theorem dX4_seenIn_5 : decode cX4_seenIn 5 = .ok (.ifCond .ne 5, 3) := by decide +kernel
theorem dX4_seenIn_8 : decode cX4_seenIn 8 = .ok (.iconst 0, 1) := by decide +kernel
theorem dX4_seenIn_9 : decode cX4_seenIn 9 = .ok (.ireturn, 1) := by decide +kernel
theorem dX4_seenIn_10 : decode cX4_seenIn 10 = .ok (.iconst 0, 1) := by decide +kernel
theorem dX4_seenIn_11 : decode cX4_seenIn 11 = .ok (.istore_n 2, 1) := by decide +kernel
theorem dX4_seenIn_12 : decode cX4_seenIn 12 = .ok (.iconst 0, 1) := by decide +kernel
theorem dX4_seenIn_13 : decode cX4_seenIn 13 = .ok (.istore_n 3, 1) := by decide +kernel
theorem dX4_seenIn_14 : decode cX4_seenIn 14 = .ok (.iload_n 3, 1) := by decide +kernel
theorem dX4_seenIn_15 : decode cX4_seenIn 15 = .ok (.aload_n 0, 1) := by decide +kernel
theorem dX4_seenIn_16 : decode cX4_seenIn 16 = .ok (.getfield 25, 3) := by decide +kernel
theorem dX4_seenIn_19 : decode cX4_seenIn 19 = .ok (.iload_n 1, 1) := by decide +kernel
theorem dX4_seenIn_20 : decode cX4_seenIn 20 = .ok (.iaload, 1) := by decide +kernel
theorem dX4_seenIn_21 : decode cX4_seenIn 21 = .ok (.if_icmp .ge 34, 3) := by decide +kernel
theorem dX4_seenIn_24 : decode cX4_seenIn 24 = .ok (.aload_n 0, 1) := by decide +kernel
theorem dX4_seenIn_25 : decode cX4_seenIn 25 = .ok (.iload_n 1, 1) := by decide +kernel
theorem dX4_seenIn_26 : decode cX4_seenIn 26 = .ok (.iload_n 3, 1) := by decide +kernel
theorem dX4_seenIn_27 : decode cX4_seenIn 27 = .ok (.invokevirtual 94, 3) := by decide +kernel
theorem dX4_seenIn_30 : decode cX4_seenIn 30 = .ok (.ifCond .eq 19, 3) := by decide +kernel
theorem dX4_seenIn_33 : decode cX4_seenIn 33 = .ok (.iload_n 2, 1) := by decide +kernel
theorem dX4_seenIn_34 : decode cX4_seenIn 34 = .ok (.iconst 1, 1) := by decide +kernel
theorem dX4_seenIn_35 : decode cX4_seenIn 35 = .ok (.aload_n 0, 1) := by decide +kernel
theorem dX4_seenIn_36 : decode cX4_seenIn 36 = .ok (.getfield 28, 3) := by decide +kernel
theorem dX4_seenIn_39 : decode cX4_seenIn 39 = .ok (.bipush 8, 2) := by decide +kernel
theorem dX4_seenIn_41 : decode cX4_seenIn 41 = .ok (.iload_n 1, 1) := by decide +kernel
theorem dX4_seenIn_42 : decode cX4_seenIn 42 = .ok (.imul, 1) := by decide +kernel
theorem dX4_seenIn_43 : decode cX4_seenIn 43 = .ok (.iload_n 3, 1) := by decide +kernel
theorem dX4_seenIn_44 : decode cX4_seenIn 44 = .ok (.iadd, 1) := by decide +kernel
theorem dX4_seenIn_45 : decode cX4_seenIn 45 = .ok (.iaload, 1) := by decide +kernel
theorem dX4_seenIn_46 : decode cX4_seenIn 46 = .ok (.ishl, 1) := by decide +kernel
theorem dX4_seenIn_47 : decode cX4_seenIn 47 = .ok (.ior, 1) := by decide +kernel
theorem dX4_seenIn_48 : decode cX4_seenIn 48 = .ok (.istore_n 2, 1) := by decide +kernel
theorem dX4_seenIn_49 : decode cX4_seenIn 49 = .ok (.iinc 3 1, 3) := by decide +kernel
theorem dX4_seenIn_52 : decode cX4_seenIn 52 = .ok (.goto (-38), 3) := by decide +kernel
theorem dX4_seenIn_55 : decode cX4_seenIn 55 = .ok (.iload_n 2, 1) := by decide +kernel
theorem dX4_seenIn_56 : decode cX4_seenIn 56 = .ok (.ireturn, 1) := by decide +kernel
set_option maxRecDepth 20000 in
theorem ggX4_good_X4_isGood : GoodIn wsX4_good wsX4_isGood := goodIn_r _ [6, 7, 8, 9, 10, 11, 12, 13, 14, 5, 15, 16, 17, 18, 19, 20, 21, 22, 23, 24, 25, 26, 27, 28, 29, 30, 31, 32, 33, 34, 35, 36, 37, 38, 39, 40, 41, 42, 43, 44, 45, 46, 47, 48, 49] (by decide +kernel) (by decide +kernel)
set_option maxRecDepth 20000 in
theorem gX4_good_X4_isGood : GoodIn wsX4_good (wsV RX4 101 RX4 yX4_isGood wsX4_isGood) := goodIn_app (goodIn_of _ (by decide +kernel)) ggX4_good_X4_isGood
theorem dX4_good_0 : decode cX4_good 0 = .ok (.iconst 0, 1) := by decide +kernel
theorem dX4_good_1 : decode cX4_good 1 = .ok (.istore_n 1, 1) := by decide +kernel
theorem dX4_good_2 : decode cX4_good 2 = .ok (.iconst 0, 1) := by decide +kernel
theorem dX4_good_3 : decode cX4_good 3 = .ok (.istore_n 2, 1) := by decide +kernel
theorem dX4_good_4 : decode cX4_good 4 = .ok (.iload_n 2, 1) := by decide +kernel
theorem dX4_good_5 : decode cX4_good 5 = .ok (.aload_n 0, 1) := by decide +kernel
theorem dX4_good_6 : decode cX4_good 6 = .ok (.getfield 74, 3) := by decide +kernel
theorem dX4_good_9 : decode cX4_good 9 = .ok (.if_icmp .ge 23, 3) := by decide +kernel
theorem dX4_good_12 : decode cX4_good 12 = .ok (.aload_n 0, 1) := by decide +kernel
theorem dX4_good_13 : decode cX4_good 13 = .ok (.iload_n 2, 1) := by decide +kernel
theorem dX4_good_14 : decode cX4_good 14 = .ok (.invokevirtual 101, 3) := by decide +kernel
theorem dX4_good_17 : decode cX4_good 17 = .ok (.ifCond .eq 9, 3) := by decide +kernel
theorem dX4_good_20 : decode cX4_good 20 = .ok (.iload_n 1, 1) := by decide +kernel
theorem dX4_good_21 : decode cX4_good 21 = .ok (.iconst 1, 1) := by decide +kernel
theorem dX4_good_22 : decode cX4_good 22 = .ok (.iload_n 2, 1) := by decide +kernel
theorem dX4_good_23 : decode cX4_good 23 = .ok (.ishl, 1) := by decide +kernel
theorem dX4_good_24 : decode cX4_good 24 = .ok (.ior, 1) := by decide +kernel
theorem dX4_good_25 : decode cX4_good 25 = .ok (.istore_n 1, 1) := by decide +kernel
theorem dX4_good_26 : decode cX4_good 26 = .ok (.iinc 2 1, 3) := by decide +kernel
theorem dX4_good_29 : decode cX4_good 29 = .ok (.goto (-25), 3) := by decide +kernel
theorem dX4_good_32 : decode cX4_good 32 = .ok (.iload_n 1, 1) := by decide +kernel
theorem dX4_good_33 : decode cX4_good 33 = .ok (.ireturn, 1) := by decide +kernel
set_option maxRecDepth 20000 in
theorem ggX4_shown_X4_seenIn : GoodIn wsX4_shown wsX4_seenIn := goodIn_r _ [6, 7, 8, 9, 10, 11, 5, 12, 13, 14, 15, 16, 17, 18, 19, 20, 21, 22, 23, 24, 25, 26, 27, 28, 29, 30, 31, 32, 33, 34, 35, 36, 37, 38, 39, 40, 41, 42, 43, 44, 45, 46, 47, 48, 49, 50, 51, 52, 53] (by decide +kernel) (by decide +kernel)
set_option maxRecDepth 20000 in
theorem gX4_shown_X4_seenIn : GoodIn wsX4_shown (wsV RX4 104 RX4 yX4_seenIn wsX4_seenIn) := goodIn_app (goodIn_of _ (by decide +kernel)) ggX4_shown_X4_seenIn
theorem dX4_shown_0 : decode cX4_shown 0 = .ok (.iconst 0, 1) := by decide +kernel
theorem dX4_shown_1 : decode cX4_shown 1 = .ok (.istore_n 1, 1) := by decide +kernel
theorem dX4_shown_2 : decode cX4_shown 2 = .ok (.iconst 0, 1) := by decide +kernel
theorem dX4_shown_3 : decode cX4_shown 3 = .ok (.istore_n 2, 1) := by decide +kernel
theorem dX4_shown_4 : decode cX4_shown 4 = .ok (.iload_n 2, 1) := by decide +kernel
theorem dX4_shown_5 : decode cX4_shown 5 = .ok (.aload_n 0, 1) := by decide +kernel
theorem dX4_shown_6 : decode cX4_shown 6 = .ok (.getfield 74, 3) := by decide +kernel
theorem dX4_shown_9 : decode cX4_shown 9 = .ok (.if_icmp .ge 17, 3) := by decide +kernel
theorem dX4_shown_12 : decode cX4_shown 12 = .ok (.iload_n 1, 1) := by decide +kernel
theorem dX4_shown_13 : decode cX4_shown 13 = .ok (.aload_n 0, 1) := by decide +kernel
theorem dX4_shown_14 : decode cX4_shown 14 = .ok (.iload_n 2, 1) := by decide +kernel
theorem dX4_shown_15 : decode cX4_shown 15 = .ok (.invokevirtual 104, 3) := by decide +kernel
theorem dX4_shown_18 : decode cX4_shown 18 = .ok (.ior, 1) := by decide +kernel
theorem dX4_shown_19 : decode cX4_shown 19 = .ok (.istore_n 1, 1) := by decide +kernel
theorem dX4_shown_20 : decode cX4_shown 20 = .ok (.iinc 2 1, 3) := by decide +kernel
theorem dX4_shown_23 : decode cX4_shown 23 = .ok (.goto (-19), 3) := by decide +kernel
theorem dX4_shown_26 : decode cX4_shown 26 = .ok (.iload_n 1, 1) := by decide +kernel
theorem dX4_shown_27 : decode cX4_shown 27 = .ok (.ireturn, 1) := by decide +kernel
theorem dX4_sum_0 : decode cX4_sum 0 = .ok (.iconst 0, 1) := by decide +kernel
theorem dX4_sum_1 : decode cX4_sum 1 = .ok (.istore_n 2, 1) := by decide +kernel
theorem dX4_sum_2 : decode cX4_sum 2 = .ok (.iconst 0, 1) := by decide +kernel
theorem dX4_sum_3 : decode cX4_sum 3 = .ok (.istore_n 3, 1) := by decide +kernel
theorem dX4_sum_4 : decode cX4_sum 4 = .ok (.iload_n 3, 1) := by decide +kernel
theorem dX4_sum_5 : decode cX4_sum 5 = .ok (.aload_n 0, 1) := by decide +kernel
theorem dX4_sum_6 : decode cX4_sum 6 = .ok (.getfield 74, 3) := by decide +kernel
theorem dX4_sum_9 : decode cX4_sum 9 = .ok (.if_icmp .ge 27, 3) := by decide +kernel
theorem dX4_sum_12 : decode cX4_sum 12 = .ok (.iload_n 1, 1) := by decide +kernel
theorem dX4_sum_13 : decode cX4_sum 13 = .ok (.iload_n 3, 1) := by decide +kernel
theorem dX4_sum_14 : decode cX4_sum 14 = .ok (.ishr, 1) := by decide +kernel
theorem dX4_sum_15 : decode cX4_sum 15 = .ok (.iconst 1, 1) := by decide +kernel
theorem dX4_sum_16 : decode cX4_sum 16 = .ok (.iand, 1) := by decide +kernel
theorem dX4_sum_17 : decode cX4_sum 17 = .ok (.iconst 1, 1) := by decide +kernel
theorem dX4_sum_18 : decode cX4_sum 18 = .ok (.if_icmp .ne 12, 3) := by decide +kernel
theorem dX4_sum_21 : decode cX4_sum 21 = .ok (.iload_n 2, 1) := by decide +kernel
theorem dX4_sum_22 : decode cX4_sum 22 = .ok (.aload_n 0, 1) := by decide +kernel
theorem dX4_sum_23 : decode cX4_sum 23 = .ok (.getfield 19, 3) := by decide +kernel
theorem dX4_sum_26 : decode cX4_sum 26 = .ok (.iload_n 3, 1) := by decide +kernel
theorem dX4_sum_27 : decode cX4_sum 27 = .ok (.iaload, 1) := by decide +kernel
theorem dX4_sum_28 : decode cX4_sum 28 = .ok (.iadd, 1) := by decide +kernel
theorem dX4_sum_29 : decode cX4_sum 29 = .ok (.istore_n 2, 1) := by decide +kernel
theorem dX4_sum_30 : decode cX4_sum 30 = .ok (.iinc 3 1, 3) := by decide +kernel
theorem dX4_sum_33 : decode cX4_sum 33 = .ok (.goto (-29), 3) := by decide +kernel
theorem dX4_sum_36 : decode cX4_sum 36 = .ok (.iload_n 2, 1) := by decide +kernel
theorem dX4_sum_37 : decode cX4_sum 37 = .ok (.ireturn, 1) := by decide +kernel
set_option maxRecDepth 20000 in
theorem ggX4_count_X4_sum : GoodIn wsX4_count wsX4_sum := goodIn_r _ [10, 3, 11, 44, 45, 46, 47, 48, 49, 50, 51, 52, 53, 54, 55, 56, 57, 58, 59, 60, 61, 62, 63, 64, 65, 66, 67, 68, 69, 70] (by decide +kernel) (by decide +kernel)
set_option maxRecDepth 20000 in
theorem gX4_count_X4_sum : GoodIn wsX4_count (wsV RX4 111 RX4 yX4_sum wsX4_sum) := goodIn_app (goodIn_of _ (by decide +kernel)) ggX4_count_X4_sum
set_option maxRecDepth 20000 in
theorem ggX4_count_X4_good : GoodIn wsX4_count wsX4_good := goodIn_r _ [15, 3, 16, 17, 18, 9, 19, 20, 21, 22, 23, 24, 25, 26, 27, 28, 29, 30, 31, 32, 33, 34, 35, 44, 45, 46, 47, 48, 49, 50, 51, 52, 53, 54, 55, 56, 57, 58, 59, 60, 61, 62, 63, 64, 65, 66, 67, 68, 69, 70] (by decide +kernel) (by decide +kernel)
set_option maxRecDepth 20000 in
theorem gX4_count_X4_good : GoodIn wsX4_count (wsV RX4 117 RX4 yX4_good wsX4_good) := goodIn_app (goodIn_of _ (by decide +kernel)) ggX4_count_X4_good
set_option maxRecDepth 20000 in
theorem ggX4_count_X4_shown : GoodIn wsX4_count wsX4_shown := goodIn_r _ [39, 3, 40, 41, 42, 9, 43, 20, 34, 16, 17, 18, 19, 21, 22, 23, 24, 25, 26, 27, 28, 29, 30, 31, 32, 33, 35, 44, 45, 46, 47, 48, 49, 50, 51, 52, 53, 54, 55, 56, 57, 58, 59, 60, 61, 62, 63, 64, 65, 66, 67, 68, 69, 70] (by decide +kernel) (by decide +kernel)
set_option maxRecDepth 20000 in
theorem gX4_count_X4_shown : GoodIn wsX4_count (wsV RX4 121 RX4 yX4_shown wsX4_shown) := goodIn_app (goodIn_of _ (by decide +kernel)) ggX4_count_X4_shown
theorem dX4_count_0 : decode cX4_count 0 = .ok (.aload_n 0, 1) := by decide +kernel
theorem dX4_count_1 : decode cX4_count 1 = .ok (.iconst 0, 1) := by decide +kernel
theorem dX4_count_2 : decode cX4_count 2 = .ok (.putfield 71, 3) := by decide +kernel
theorem dX4_count_5 : decode cX4_count 5 = .ok (.iload_n 1, 1) := by decide +kernel
theorem dX4_count_6 : decode cX4_count 6 = .ok (.tableswitch 81 0 6 #[42, 47, 52, 57, 66, 71, 76], 42) := by decide +kernel
theorem dX4_count_48 : decode cX4_count 48 = .ok (.aload_n 0, 1) := by decide +kernel
theorem dX4_count_49 : decode cX4_count 49 = .ok (.getfield 81, 3) := by decide +kernel
theorem dX4_count_52 : decode cX4_count 52 = .ok (.ireturn, 1) := by decide +kernel
theorem dX4_count_53 : decode cX4_count 53 = .ok (.aload_n 0, 1) := by decide +kernel
theorem dX4_count_54 : decode cX4_count 54 = .ok (.getfield 74, 3) := by decide +kernel
theorem dX4_count_57 : decode cX4_count 57 = .ok (.ireturn, 1) := by decide +kernel
theorem dX4_count_58 : decode cX4_count 58 = .ok (.aload_n 0, 1) := by decide +kernel
theorem dX4_count_59 : decode cX4_count 59 = .ok (.getfield 108, 3) := by decide +kernel
theorem dX4_count_62 : decode cX4_count 62 = .ok (.ireturn, 1) := by decide +kernel
theorem dX4_count_63 : decode cX4_count 63 = .ok (.aload_n 0, 1) := by decide +kernel
theorem dX4_count_64 : decode cX4_count 64 = .ok (.aload_n 0, 1) := by decide +kernel
theorem dX4_count_65 : decode cX4_count 65 = .ok (.getfield 108, 3) := by decide +kernel
theorem dX4_count_68 : decode cX4_count 68 = .ok (.invokevirtual 111, 3) := by decide +kernel
theorem dX4_count_71 : decode cX4_count 71 = .ok (.ireturn, 1) := by decide +kernel
theorem dX4_count_72 : decode cX4_count 72 = .ok (.aload_n 0, 1) := by decide +kernel
theorem dX4_count_73 : decode cX4_count 73 = .ok (.getfield 114, 3) := by decide +kernel
theorem dX4_count_76 : decode cX4_count 76 = .ok (.ireturn, 1) := by decide +kernel
theorem dX4_count_77 : decode cX4_count 77 = .ok (.aload_n 0, 1) := by decide +kernel
theorem dX4_count_78 : decode cX4_count 78 = .ok (.invokevirtual 117, 3) := by decide +kernel
theorem dX4_count_81 : decode cX4_count 81 = .ok (.ireturn, 1) := by decide +kernel
theorem dX4_count_82 : decode cX4_count 82 = .ok (.aload_n 0, 1) := by decide +kernel
theorem dX4_count_83 : decode cX4_count 83 = .ok (.invokevirtual 121, 3) := by decide +kernel
theorem dX4_count_86 : decode cX4_count 86 = .ok (.ireturn, 1) := by decide +kernel
theorem dX4_count_87 : decode cX4_count 87 = .ok (.iconst (-1), 1) := by decide +kernel
theorem dX4_count_88 : decode cX4_count 88 = .ok (.ireturn, 1) := by decide +kernel
theorem dX4_pageOf_0 : decode cX4_pageOf 0 = .ok (.iconst 0, 1) := by decide +kernel
theorem dX4_pageOf_1 : decode cX4_pageOf 1 = .ok (.istore_n 2, 1) := by decide +kernel
theorem dX4_pageOf_2 : decode cX4_pageOf 2 = .ok (.iload_n 2, 1) := by decide +kernel
theorem dX4_pageOf_3 : decode cX4_pageOf 3 = .ok (.aload_n 0, 1) := by decide +kernel
theorem dX4_pageOf_4 : decode cX4_pageOf 4 = .ok (.getfield 114, 3) := by decide +kernel
theorem dX4_pageOf_7 : decode cX4_pageOf 7 = .ok (.if_icmp .ge 25, 3) := by decide +kernel
theorem dX4_pageOf_10 : decode cX4_pageOf 10 = .ok (.aload_n 0, 1) := by decide +kernel
theorem dX4_pageOf_11 : decode cX4_pageOf 11 = .ok (.getfield 50, 3) := by decide +kernel
theorem dX4_pageOf_14 : decode cX4_pageOf 14 = .ok (.iload_n 2, 1) := by decide +kernel
theorem dX4_pageOf_15 : decode cX4_pageOf 15 = .ok (.iaload, 1) := by decide +kernel
theorem dX4_pageOf_16 : decode cX4_pageOf 16 = .ok (.iload_n 1, 1) := by decide +kernel
theorem dX4_pageOf_17 : decode cX4_pageOf 17 = .ok (.ishr, 1) := by decide +kernel
theorem dX4_pageOf_18 : decode cX4_pageOf 18 = .ok (.iconst 1, 1) := by decide +kernel
theorem dX4_pageOf_19 : decode cX4_pageOf 19 = .ok (.iand, 1) := by decide +kernel
theorem dX4_pageOf_20 : decode cX4_pageOf 20 = .ok (.iconst 1, 1) := by decide +kernel
theorem dX4_pageOf_21 : decode cX4_pageOf 21 = .ok (.if_icmp .ne 5, 3) := by decide +kernel
theorem dX4_pageOf_24 : decode cX4_pageOf 24 = .ok (.iload_n 2, 1) := by decide +kernel
theorem dX4_pageOf_25 : decode cX4_pageOf 25 = .ok (.ireturn, 1) := by decide +kernel
theorem dX4_pageOf_26 : decode cX4_pageOf 26 = .ok (.iinc 2 1, 3) := by decide +kernel
theorem dX4_pageOf_29 : decode cX4_pageOf 29 = .ok (.goto (-27), 3) := by decide +kernel
theorem dX4_pageOf_32 : decode cX4_pageOf 32 = .ok (.iconst (-1), 1) := by decide +kernel
theorem dX4_pageOf_33 : decode cX4_pageOf 33 = .ok (.ireturn, 1) := by decide +kernel
set_option maxRecDepth 20000 in
theorem ggX4_told_X4_isPicture : GoodIn wsX4_told wsX4_isPicture := goodIn_r _ [11, 12, 13, 14, 10, 15, 43, 44, 45, 46, 47, 48, 49, 50, 51, 52, 53, 54, 55, 56, 57, 58, 59, 60, 61, 62, 63, 64, 65, 66, 67, 68, 69] (by decide +kernel) (by decide +kernel)
set_option maxRecDepth 20000 in
theorem gX4_told_X4_isPicture : GoodIn wsX4_told (wsV RX4 88 RX4 yX4_isPicture wsX4_isPicture) := goodIn_app (goodIn_of _ (by decide +kernel)) ggX4_told_X4_isPicture
set_option maxRecDepth 20000 in
theorem ggX4_told_X4_in : GoodIn wsX4_told wsX4_in := goodIn_r _ [15] (by decide +kernel) (by decide +kernel)
set_option maxRecDepth 20000 in
theorem gX4_told_X4_in : GoodIn wsX4_told (va_wsS RX4 77 yX4_in wsX4_in) := goodIn_app (goodIn_of _ (by decide +kernel)) ggX4_told_X4_in
set_option maxRecDepth 20000 in
theorem ggX4_told_X4_isGood : GoodIn wsX4_told wsX4_isGood := goodIn_r _ [19, 5, 20, 21, 6, 22, 23, 24, 25, 10, 26, 27, 28, 29, 30, 31, 32, 2, 43, 44, 45, 46, 47, 48, 49, 50, 51, 52, 53, 54, 55, 56, 57, 58, 59, 60, 61, 62, 63, 64, 65, 66, 67, 68, 69] (by decide +kernel) (by decide +kernel)
set_option maxRecDepth 20000 in
theorem gX4_told_X4_isGood : GoodIn wsX4_told (wsV RX4 101 RX4 yX4_isGood wsX4_isGood) := goodIn_app (goodIn_of _ (by decide +kernel)) ggX4_told_X4_isGood
set_option maxRecDepth 20000 in
theorem ggX4_told_X4_seenIn : GoodIn wsX4_told wsX4_seenIn := goodIn_r _ [36, 5, 32, 16, 17, 18, 10, 19, 20, 21, 6, 22, 23, 24, 25, 26, 27, 28, 29, 30, 31, 2, 43, 44, 45, 46, 47, 48, 49, 50, 51, 52, 53, 54, 55, 56, 57, 58, 59, 60, 61, 62, 63, 64, 65, 66, 67, 68, 69] (by decide +kernel) (by decide +kernel)
set_option maxRecDepth 20000 in
theorem gX4_told_X4_seenIn : GoodIn wsX4_told (wsV RX4 104 RX4 yX4_seenIn wsX4_seenIn) := goodIn_app (goodIn_of _ (by decide +kernel)) ggX4_told_X4_seenIn
set_option maxRecDepth 20000 in
theorem ggX4_told_X4_pageOf : GoodIn wsX4_told wsX4_pageOf := goodIn_r _ [40, 41, 42, 43, 44, 45, 46, 47, 48, 49, 50, 51, 52, 53, 54, 55, 56, 57, 58, 59, 60, 61, 62, 63, 64, 65, 66, 67, 68, 69] (by decide +kernel) (by decide +kernel)
set_option maxRecDepth 20000 in
theorem gX4_told_X4_pageOf : GoodIn wsX4_told (wsV RX4 124 RX4 yX4_pageOf wsX4_pageOf) := goodIn_app (goodIn_of _ (by decide +kernel)) ggX4_told_X4_pageOf
set_option maxRecDepth 20000 in
theorem ggX4_told_X4_cutOf : GoodIn wsX4_told wsX4_cutOf := goodIn_r _ [26, 5, 20, 21, 22, 6, 27, 28, 29, 10, 30, 31, 32, 2, 43, 44, 45, 46, 47, 48, 49, 50, 51, 52, 53, 54, 55, 56, 57, 58, 59, 60, 61, 62, 63, 64, 65, 66, 67, 68, 69] (by decide +kernel) (by decide +kernel)
set_option maxRecDepth 20000 in
theorem gX4_told_X4_cutOf : GoodIn wsX4_told (wsV RX4 98 RX4 yX4_cutOf wsX4_cutOf) := goodIn_app (goodIn_of _ (by decide +kernel)) ggX4_told_X4_cutOf
theorem dX4_told_0 : decode cX4_told 0 = .ok (.aload_n 0, 1) := by decide +kernel
theorem dX4_told_1 : decode cX4_told 1 = .ok (.iconst 0, 1) := by decide +kernel
theorem dX4_told_2 : decode cX4_told 2 = .ok (.putfield 71, 3) := by decide +kernel
theorem dX4_told_5 : decode cX4_told 5 = .ok (.aload_n 0, 1) := by decide +kernel
theorem dX4_told_6 : decode cX4_told 6 = .ok (.iload_n 1, 1) := by decide +kernel
theorem dX4_told_7 : decode cX4_told 7 = .ok (.invokevirtual 88, 3) := by decide +kernel
theorem dX4_told_10 : decode cX4_told 10 = .ok (.ifCond .eq 13, 3) := by decide +kernel
theorem dX4_told_13 : decode cX4_told 13 = .ok (.iload_n 2, 1) := by decide +kernel
theorem dX4_told_14 : decode cX4_told 14 = .ok (.iconst 0, 1) := by decide +kernel
theorem dX4_told_15 : decode cX4_told 15 = .ok (.bipush 10, 2) := by decide +kernel
theorem dX4_told_17 : decode cX4_told 17 = .ok (.invokestatic 77, 3) := by decide +kernel
theorem dX4_told_20 : decode cX4_told 20 = .ok (.ifCond .ne 10, 3) := by decide +kernel
theorem dX4_told_23 : decode cX4_told 23 = .ok (.aload_n 0, 1) := by decide +kernel
theorem dX4_told_24 : decode cX4_told 24 = .ok (.iconst 1, 1) := by decide +kernel
theorem dX4_told_25 : decode cX4_told 25 = .ok (.putfield 71, 3) := by decide +kernel
theorem dX4_told_28 : decode cX4_told 28 = .ok (.iconst 0, 1) := by decide +kernel
theorem dX4_told_29 : decode cX4_told 29 = .ok (.ireturn, 1) := by decide +kernel
theorem dX4_told_30 : decode cX4_told 30 = .ok (.iload_n 2, 1) := by decide +kernel
theorem dX4_told_31 : decode cX4_told 31 = .ok (.tableswitch 111 0 10 #[57, 64, 71, 78, 85, 99, 111, 111, 111, 111, 105], 57) := by decide +kernel
theorem dX4_told_88 : decode cX4_told 88 = .ok (.aload_n 0, 1) := by decide +kernel
theorem dX4_told_89 : decode cX4_told 89 = .ok (.getfield 16, 3) := by decide +kernel
theorem dX4_told_92 : decode cX4_told 92 = .ok (.iload_n 1, 1) := by decide +kernel
theorem dX4_told_93 : decode cX4_told 93 = .ok (.iaload, 1) := by decide +kernel
theorem dX4_told_94 : decode cX4_told 94 = .ok (.ireturn, 1) := by decide +kernel
theorem dX4_told_95 : decode cX4_told 95 = .ok (.aload_n 0, 1) := by decide +kernel
theorem dX4_told_96 : decode cX4_told 96 = .ok (.getfield 19, 3) := by decide +kernel
theorem dX4_told_99 : decode cX4_told 99 = .ok (.iload_n 1, 1) := by decide +kernel
end
section
theorem dX4_told_100 : decode cX4_told 100 = .ok (.iaload, 1) := by decide +kernel
theorem dX4_told_101 : decode cX4_told 101 = .ok (.ireturn, 1) := by decide +kernel
theorem dX4_told_102 : decode cX4_told 102 = .ok (.aload_n 0, 1) := by decide +kernel
theorem dX4_told_103 : decode cX4_told 103 = .ok (.getfield 22, 3) := by decide +kernel
theorem dX4_told_106 : decode cX4_told 106 = .ok (.iload_n 1, 1) := by decide +kernel
theorem dX4_told_107 : decode cX4_told 107 = .ok (.iaload, 1) := by decide +kernel
theorem dX4_told_108 : decode cX4_told 108 = .ok (.ireturn, 1) := by decide +kernel
theorem dX4_told_109 : decode cX4_told 109 = .ok (.aload_n 0, 1) := by decide +kernel
theorem dX4_told_110 : decode cX4_told 110 = .ok (.getfield 25, 3) := by decide +kernel
theorem dX4_told_113 : decode cX4_told 113 = .ok (.iload_n 1, 1) := by decide +kernel
theorem dX4_told_114 : decode cX4_told 114 = .ok (.iaload, 1) := by decide +kernel
theorem dX4_told_115 : decode cX4_told 115 = .ok (.ireturn, 1) := by decide +kernel
theorem dX4_told_116 : decode cX4_told 116 = .ok (.aload_n 0, 1) := by decide +kernel
theorem dX4_told_117 : decode cX4_told 117 = .ok (.iload_n 1, 1) := by decide +kernel
theorem dX4_told_118 : decode cX4_told 118 = .ok (.invokevirtual 101, 3) := by decide +kernel
theorem dX4_told_121 : decode cX4_told 121 = .ok (.ifCond .eq 7, 3) := by decide +kernel
theorem dX4_told_124 : decode cX4_told 124 = .ok (.iconst 1, 1) := by decide +kernel
theorem dX4_told_125 : decode cX4_told 125 = .ok (.goto 4, 3) := by decide +kernel
theorem dX4_told_128 : decode cX4_told 128 = .ok (.iconst 0, 1) := by decide +kernel
theorem dX4_told_129 : decode cX4_told 129 = .ok (.ireturn, 1) := by decide +kernel
theorem dX4_told_130 : decode cX4_told 130 = .ok (.aload_n 0, 1) := by decide +kernel
theorem dX4_told_131 : decode cX4_told 131 = .ok (.iload_n 1, 1) := by decide +kernel
theorem dX4_told_132 : decode cX4_told 132 = .ok (.invokevirtual 104, 3) := by decide +kernel
theorem dX4_told_135 : decode cX4_told 135 = .ok (.ireturn, 1) := by decide +kernel
theorem dX4_told_136 : decode cX4_told 136 = .ok (.aload_n 0, 1) := by decide +kernel
theorem dX4_told_137 : decode cX4_told 137 = .ok (.iload_n 1, 1) := by decide +kernel
theorem dX4_told_138 : decode cX4_told 138 = .ok (.invokevirtual 124, 3) := by decide +kernel
theorem dX4_told_141 : decode cX4_told 141 = .ok (.ireturn, 1) := by decide +kernel
theorem dX4_told_142 : decode cX4_told 142 = .ok (.aload_n 0, 1) := by decide +kernel
theorem dX4_told_143 : decode cX4_told 143 = .ok (.iload_n 1, 1) := by decide +kernel
theorem dX4_told_144 : decode cX4_told 144 = .ok (.invokevirtual 98, 3) := by decide +kernel
theorem dX4_told_147 : decode cX4_told 147 = .ok (.ifCond .eq 15, 3) := by decide +kernel
theorem dX4_told_150 : decode cX4_told 150 = .ok (.aload_n 0, 1) := by decide +kernel
theorem dX4_told_151 : decode cX4_told 151 = .ok (.getfield 53, 3) := by decide +kernel
theorem dX4_told_154 : decode cX4_told 154 = .ok (.iload_n 2, 1) := by decide +kernel
theorem dX4_told_155 : decode cX4_told 155 = .ok (.bipush 6, 2) := by decide +kernel
theorem dX4_told_157 : decode cX4_told 157 = .ok (.isub, 1) := by decide +kernel
theorem dX4_told_158 : decode cX4_told 158 = .ok (.iaload, 1) := by decide +kernel
theorem dX4_told_159 : decode cX4_told 159 = .ok (.goto 4, 3) := by decide +kernel
theorem dX4_told_162 : decode cX4_told 162 = .ok (.iconst (-1), 1) := by decide +kernel
theorem dX4_told_163 : decode cX4_told 163 = .ok (.ireturn, 1) := by decide +kernel
set_option maxRecDepth 20000 in
theorem ggX4_nameAll_X4_may : GoodIn wsX4_nameAll wsX4_may := goodIn_r _ [11, 12, 5, 13, 14, 15, 16, 17, 18, 19, 20, 21, 22, 23, 24, 25, 26, 27, 28, 29, 30, 31, 32, 33, 34, 35, 36, 37, 38, 39, 40] (by decide +kernel) (by decide +kernel)
set_option maxRecDepth 20000 in
theorem gX4_nameAll_X4_may : GoodIn wsX4_nameAll (wsV RX4 94 RX4 yX4_may wsX4_may) := goodIn_app (goodIn_of _ (by decide +kernel)) ggX4_nameAll_X4_may
theorem dX4_nameAll_0 : decode cX4_nameAll 0 = .ok (.iconst 0, 1) := by decide +kernel
theorem dX4_nameAll_1 : decode cX4_nameAll 1 = .ok (.istore_n 2, 1) := by decide +kernel
theorem dX4_nameAll_2 : decode cX4_nameAll 2 = .ok (.iconst 0, 1) := by decide +kernel
theorem dX4_nameAll_3 : decode cX4_nameAll 3 = .ok (.istore_n 3, 1) := by decide +kernel
theorem dX4_nameAll_4 : decode cX4_nameAll 4 = .ok (.iload_n 3, 1) := by decide +kernel
theorem dX4_nameAll_5 : decode cX4_nameAll 5 = .ok (.aload_n 0, 1) := by decide +kernel
theorem dX4_nameAll_6 : decode cX4_nameAll 6 = .ok (.getfield 25, 3) := by decide +kernel
theorem dX4_nameAll_9 : decode cX4_nameAll 9 = .ok (.iload_n 1, 1) := by decide +kernel
theorem dX4_nameAll_10 : decode cX4_nameAll 10 = .ok (.iaload, 1) := by decide +kernel
theorem dX4_nameAll_11 : decode cX4_nameAll 11 = .ok (.if_icmp .ge 24, 3) := by decide +kernel
theorem dX4_nameAll_14 : decode cX4_nameAll 14 = .ok (.aload_n 0, 1) := by decide +kernel
theorem dX4_nameAll_15 : decode cX4_nameAll 15 = .ok (.iload_n 1, 1) := by decide +kernel
theorem dX4_nameAll_16 : decode cX4_nameAll 16 = .ok (.iload_n 3, 1) := by decide +kernel
theorem dX4_nameAll_17 : decode cX4_nameAll 17 = .ok (.invokevirtual 94, 3) := by decide +kernel
theorem dX4_nameAll_20 : decode cX4_nameAll 20 = .ok (.ifCond .eq 9, 3) := by decide +kernel
theorem dX4_nameAll_23 : decode cX4_nameAll 23 = .ok (.iload_n 2, 1) := by decide +kernel
theorem dX4_nameAll_24 : decode cX4_nameAll 24 = .ok (.iconst 1, 1) := by decide +kernel
theorem dX4_nameAll_25 : decode cX4_nameAll 25 = .ok (.iload_n 3, 1) := by decide +kernel
theorem dX4_nameAll_26 : decode cX4_nameAll 26 = .ok (.ishl, 1) := by decide +kernel
theorem dX4_nameAll_27 : decode cX4_nameAll 27 = .ok (.ior, 1) := by decide +kernel
theorem dX4_nameAll_28 : decode cX4_nameAll 28 = .ok (.istore_n 2, 1) := by decide +kernel
theorem dX4_nameAll_29 : decode cX4_nameAll 29 = .ok (.iinc 3 1, 3) := by decide +kernel
theorem dX4_nameAll_32 : decode cX4_nameAll 32 = .ok (.goto (-28), 3) := by decide +kernel
theorem dX4_nameAll_35 : decode cX4_nameAll 35 = .ok (.iconst 0, 1) := by decide +kernel
theorem dX4_nameAll_36 : decode cX4_nameAll 36 = .ok (.istore_n 3, 1) := by decide +kernel
theorem dX4_nameAll_37 : decode cX4_nameAll 37 = .ok (.iload_n 2, 1) := by decide +kernel
theorem dX4_nameAll_38 : decode cX4_nameAll 38 = .ok (.ifCond .eq 293, 3) := by decide +kernel
theorem dX4_nameAll_41 : decode cX4_nameAll 41 = .ok (.bipush 100, 2) := by decide +kernel
theorem dX4_nameAll_43 : decode cX4_nameAll 43 = .ok (.istore 4, 2) := by decide +kernel
theorem dX4_nameAll_45 : decode cX4_nameAll 45 = .ok (.iconst 0, 1) := by decide +kernel
theorem dX4_nameAll_46 : decode cX4_nameAll 46 = .ok (.istore 5, 2) := by decide +kernel
theorem dX4_nameAll_48 : decode cX4_nameAll 48 = .ok (.iload 5, 2) := by decide +kernel
theorem dX4_nameAll_50 : decode cX4_nameAll 50 = .ok (.aload_n 0, 1) := by decide +kernel
theorem dX4_nameAll_51 : decode cX4_nameAll 51 = .ok (.getfield 25, 3) := by decide +kernel
theorem dX4_nameAll_54 : decode cX4_nameAll 54 = .ok (.iload_n 1, 1) := by decide +kernel
theorem dX4_nameAll_55 : decode cX4_nameAll 55 = .ok (.iaload, 1) := by decide +kernel
theorem dX4_nameAll_56 : decode cX4_nameAll 56 = .ok (.if_icmp .ge 50, 3) := by decide +kernel
theorem dX4_nameAll_59 : decode cX4_nameAll 59 = .ok (.iload_n 2, 1) := by decide +kernel
theorem dX4_nameAll_60 : decode cX4_nameAll 60 = .ok (.iload 5, 2) := by decide +kernel
theorem dX4_nameAll_62 : decode cX4_nameAll 62 = .ok (.ishr, 1) := by decide +kernel
theorem dX4_nameAll_63 : decode cX4_nameAll 63 = .ok (.iconst 1, 1) := by decide +kernel
theorem dX4_nameAll_64 : decode cX4_nameAll 64 = .ok (.iand, 1) := by decide +kernel
theorem dX4_nameAll_65 : decode cX4_nameAll 65 = .ok (.iconst 1, 1) := by decide +kernel
theorem dX4_nameAll_66 : decode cX4_nameAll 66 = .ok (.if_icmp .ne 34, 3) := by decide +kernel
theorem dX4_nameAll_69 : decode cX4_nameAll 69 = .ok (.aload_n 0, 1) := by decide +kernel
theorem dX4_nameAll_70 : decode cX4_nameAll 70 = .ok (.getfield 34, 3) := by decide +kernel
theorem dX4_nameAll_73 : decode cX4_nameAll 73 = .ok (.bipush 8, 2) := by decide +kernel
theorem dX4_nameAll_75 : decode cX4_nameAll 75 = .ok (.iload_n 1, 1) := by decide +kernel
theorem dX4_nameAll_76 : decode cX4_nameAll 76 = .ok (.imul, 1) := by decide +kernel
theorem dX4_nameAll_77 : decode cX4_nameAll 77 = .ok (.iload 5, 2) := by decide +kernel
theorem dX4_nameAll_79 : decode cX4_nameAll 79 = .ok (.iadd, 1) := by decide +kernel
theorem dX4_nameAll_80 : decode cX4_nameAll 80 = .ok (.iaload, 1) := by decide +kernel
theorem dX4_nameAll_81 : decode cX4_nameAll 81 = .ok (.iload 4, 2) := by decide +kernel
theorem dX4_nameAll_83 : decode cX4_nameAll 83 = .ok (.if_icmp .ge 17, 3) := by decide +kernel
theorem dX4_nameAll_86 : decode cX4_nameAll 86 = .ok (.aload_n 0, 1) := by decide +kernel
theorem dX4_nameAll_87 : decode cX4_nameAll 87 = .ok (.getfield 34, 3) := by decide +kernel
theorem dX4_nameAll_90 : decode cX4_nameAll 90 = .ok (.bipush 8, 2) := by decide +kernel
theorem dX4_nameAll_92 : decode cX4_nameAll 92 = .ok (.iload_n 1, 1) := by decide +kernel
theorem dX4_nameAll_93 : decode cX4_nameAll 93 = .ok (.imul, 1) := by decide +kernel
theorem dX4_nameAll_94 : decode cX4_nameAll 94 = .ok (.iload 5, 2) := by decide +kernel
theorem dX4_nameAll_96 : decode cX4_nameAll 96 = .ok (.iadd, 1) := by decide +kernel
theorem dX4_nameAll_97 : decode cX4_nameAll 97 = .ok (.iaload, 1) := by decide +kernel
theorem dX4_nameAll_98 : decode cX4_nameAll 98 = .ok (.istore 4, 2) := by decide +kernel
theorem dX4_nameAll_100 : decode cX4_nameAll 100 = .ok (.iinc 5 1, 3) := by decide +kernel
theorem dX4_nameAll_103 : decode cX4_nameAll 103 = .ok (.goto (-55), 3) := by decide +kernel
theorem dX4_nameAll_106 : decode cX4_nameAll 106 = .ok (.iconst 0, 1) := by decide +kernel
theorem dX4_nameAll_107 : decode cX4_nameAll 107 = .ok (.istore 5, 2) := by decide +kernel
theorem dX4_nameAll_109 : decode cX4_nameAll 109 = .ok (.iconst 0, 1) := by decide +kernel
theorem dX4_nameAll_110 : decode cX4_nameAll 110 = .ok (.istore 6, 2) := by decide +kernel
theorem dX4_nameAll_112 : decode cX4_nameAll 112 = .ok (.iload 6, 2) := by decide +kernel
theorem dX4_nameAll_114 : decode cX4_nameAll 114 = .ok (.aload_n 0, 1) := by decide +kernel
theorem dX4_nameAll_115 : decode cX4_nameAll 115 = .ok (.getfield 25, 3) := by decide +kernel
theorem dX4_nameAll_118 : decode cX4_nameAll 118 = .ok (.iload_n 1, 1) := by decide +kernel
theorem dX4_nameAll_119 : decode cX4_nameAll 119 = .ok (.iaload, 1) := by decide +kernel
theorem dX4_nameAll_120 : decode cX4_nameAll 120 = .ok (.if_icmp .ge 50, 3) := by decide +kernel
theorem dX4_nameAll_123 : decode cX4_nameAll 123 = .ok (.iload_n 2, 1) := by decide +kernel
theorem dX4_nameAll_124 : decode cX4_nameAll 124 = .ok (.iload 6, 2) := by decide +kernel
theorem dX4_nameAll_126 : decode cX4_nameAll 126 = .ok (.ishr, 1) := by decide +kernel
theorem dX4_nameAll_127 : decode cX4_nameAll 127 = .ok (.iconst 1, 1) := by decide +kernel
theorem dX4_nameAll_128 : decode cX4_nameAll 128 = .ok (.iand, 1) := by decide +kernel
theorem dX4_nameAll_129 : decode cX4_nameAll 129 = .ok (.iconst 1, 1) := by decide +kernel
theorem dX4_nameAll_130 : decode cX4_nameAll 130 = .ok (.if_icmp .ne 34, 3) := by decide +kernel
theorem dX4_nameAll_133 : decode cX4_nameAll 133 = .ok (.aload_n 0, 1) := by decide +kernel
theorem dX4_nameAll_134 : decode cX4_nameAll 134 = .ok (.getfield 34, 3) := by decide +kernel
theorem dX4_nameAll_137 : decode cX4_nameAll 137 = .ok (.bipush 8, 2) := by decide +kernel
theorem dX4_nameAll_139 : decode cX4_nameAll 139 = .ok (.iload_n 1, 1) := by decide +kernel
theorem dX4_nameAll_140 : decode cX4_nameAll 140 = .ok (.imul, 1) := by decide +kernel
theorem dX4_nameAll_141 : decode cX4_nameAll 141 = .ok (.iload 6, 2) := by decide +kernel
theorem dX4_nameAll_143 : decode cX4_nameAll 143 = .ok (.iadd, 1) := by decide +kernel
theorem dX4_nameAll_144 : decode cX4_nameAll 144 = .ok (.iaload, 1) := by decide +kernel
theorem dX4_nameAll_145 : decode cX4_nameAll 145 = .ok (.iload 4, 2) := by decide +kernel
theorem dX4_nameAll_147 : decode cX4_nameAll 147 = .ok (.aload_n 0, 1) := by decide +kernel
theorem dX4_nameAll_148 : decode cX4_nameAll 148 = .ok (.getfield 40, 3) := by decide +kernel
theorem dX4_nameAll_151 : decode cX4_nameAll 151 = .ok (.iadd, 1) := by decide +kernel
theorem dX4_nameAll_152 : decode cX4_nameAll 152 = .ok (.if_icmp .gt 12, 3) := by decide +kernel
theorem dX4_nameAll_155 : decode cX4_nameAll 155 = .ok (.iload 5, 2) := by decide +kernel
theorem dX4_nameAll_157 : decode cX4_nameAll 157 = .ok (.iconst 1, 1) := by decide +kernel
theorem dX4_nameAll_158 : decode cX4_nameAll 158 = .ok (.iload 6, 2) := by decide +kernel
theorem dX4_nameAll_160 : decode cX4_nameAll 160 = .ok (.ishl, 1) := by decide +kernel
theorem dX4_nameAll_161 : decode cX4_nameAll 161 = .ok (.ior, 1) := by decide +kernel
theorem dX4_nameAll_162 : decode cX4_nameAll 162 = .ok (.istore 5, 2) := by decide +kernel
theorem dX4_nameAll_164 : decode cX4_nameAll 164 = .ok (.iinc 6 1, 3) := by decide +kernel
theorem dX4_nameAll_167 : decode cX4_nameAll 167 = .ok (.goto (-55), 3) := by decide +kernel
theorem dX4_nameAll_170 : decode cX4_nameAll 170 = .ok (.iload_n 2, 1) := by decide +kernel
theorem dX4_nameAll_171 : decode cX4_nameAll 171 = .ok (.iload 5, 2) := by decide +kernel
theorem dX4_nameAll_173 : decode cX4_nameAll 173 = .ok (.ixor, 1) := by decide +kernel
theorem dX4_nameAll_174 : decode cX4_nameAll 174 = .ok (.istore_n 2, 1) := by decide +kernel
theorem dX4_nameAll_175 : decode cX4_nameAll 175 = .ok (.iload 5, 2) := by decide +kernel
theorem dX4_nameAll_177 : decode cX4_nameAll 177 = .ok (.ifCond .eq 151, 3) := by decide +kernel
theorem dX4_nameAll_180 : decode cX4_nameAll 180 = .ok (.iconst (-1), 1) := by decide +kernel
theorem dX4_nameAll_181 : decode cX4_nameAll 181 = .ok (.istore 6, 2) := by decide +kernel
theorem dX4_nameAll_183 : decode cX4_nameAll 183 = .ok (.iconst 0, 1) := by decide +kernel
theorem dX4_nameAll_184 : decode cX4_nameAll 184 = .ok (.istore 7, 2) := by decide +kernel
theorem dX4_nameAll_186 : decode cX4_nameAll 186 = .ok (.iload 7, 2) := by decide +kernel
theorem dX4_nameAll_188 : decode cX4_nameAll 188 = .ok (.aload_n 0, 1) := by decide +kernel
theorem dX4_nameAll_189 : decode cX4_nameAll 189 = .ok (.getfield 25, 3) := by decide +kernel
theorem dX4_nameAll_192 : decode cX4_nameAll 192 = .ok (.iload_n 1, 1) := by decide +kernel
theorem dX4_nameAll_193 : decode cX4_nameAll 193 = .ok (.iaload, 1) := by decide +kernel
theorem dX4_nameAll_194 : decode cX4_nameAll 194 = .ok (.if_icmp .ge 101, 3) := by decide +kernel
theorem dX4_nameAll_197 : decode cX4_nameAll 197 = .ok (.iload 5, 2) := by decide +kernel
theorem dX4_nameAll_199 : decode cX4_nameAll 199 = .ok (.iload 7, 2) := by decide +kernel
theorem dX4_nameAll_201 : decode cX4_nameAll 201 = .ok (.ishr, 1) := by decide +kernel
theorem dX4_nameAll_202 : decode cX4_nameAll 202 = .ok (.iconst 1, 1) := by decide +kernel
theorem dX4_nameAll_203 : decode cX4_nameAll 203 = .ok (.iand, 1) := by decide +kernel
theorem dX4_nameAll_204 : decode cX4_nameAll 204 = .ok (.ifCond .ne 6, 3) := by decide +kernel
theorem dX4_nameAll_207 : decode cX4_nameAll 207 = .ok (.goto 82, 3) := by decide +kernel
theorem dX4_nameAll_210 : decode cX4_nameAll 210 = .ok (.bipush 8, 2) := by decide +kernel
theorem dX4_nameAll_212 : decode cX4_nameAll 212 = .ok (.iload_n 1, 1) := by decide +kernel
theorem dX4_nameAll_213 : decode cX4_nameAll 213 = .ok (.imul, 1) := by decide +kernel
theorem dX4_nameAll_214 : decode cX4_nameAll 214 = .ok (.iload 7, 2) := by decide +kernel
theorem dX4_nameAll_216 : decode cX4_nameAll 216 = .ok (.iadd, 1) := by decide +kernel
theorem dX4_nameAll_217 : decode cX4_nameAll 217 = .ok (.istore 8, 2) := by decide +kernel
theorem dX4_nameAll_219 : decode cX4_nameAll 219 = .ok (.bipush 8, 2) := by decide +kernel
theorem dX4_nameAll_221 : decode cX4_nameAll 221 = .ok (.iload_n 1, 1) := by decide +kernel
theorem dX4_nameAll_222 : decode cX4_nameAll 222 = .ok (.imul, 1) := by decide +kernel
theorem dX4_nameAll_223 : decode cX4_nameAll 223 = .ok (.iload 6, 2) := by decide +kernel
theorem dX4_nameAll_225 : decode cX4_nameAll 225 = .ok (.iadd, 1) := by decide +kernel
theorem dX4_nameAll_226 : decode cX4_nameAll 226 = .ok (.istore 9, 2) := by decide +kernel
theorem dX4_nameAll_228 : decode cX4_nameAll 228 = .ok (.iload 6, 2) := by decide +kernel
theorem dX4_nameAll_230 : decode cX4_nameAll 230 = .ok (.iconst (-1), 1) := by decide +kernel
theorem dX4_nameAll_231 : decode cX4_nameAll 231 = .ok (.if_icmp .eq 54, 3) := by decide +kernel
theorem dX4_nameAll_234 : decode cX4_nameAll 234 = .ok (.aload_n 0, 1) := by decide +kernel
theorem dX4_nameAll_235 : decode cX4_nameAll 235 = .ok (.getfield 31, 3) := by decide +kernel
theorem dX4_nameAll_238 : decode cX4_nameAll 238 = .ok (.iload 8, 2) := by decide +kernel
theorem dX4_nameAll_240 : decode cX4_nameAll 240 = .ok (.iaload, 1) := by decide +kernel
theorem dX4_nameAll_241 : decode cX4_nameAll 241 = .ok (.aload_n 0, 1) := by decide +kernel
theorem dX4_nameAll_242 : decode cX4_nameAll 242 = .ok (.getfield 31, 3) := by decide +kernel
theorem dX4_nameAll_245 : decode cX4_nameAll 245 = .ok (.iload 9, 2) := by decide +kernel
theorem dX4_nameAll_247 : decode cX4_nameAll 247 = .ok (.iaload, 1) := by decide +kernel
theorem dX4_nameAll_248 : decode cX4_nameAll 248 = .ok (.if_icmp .lt 37, 3) := by decide +kernel
theorem dX4_nameAll_251 : decode cX4_nameAll 251 = .ok (.aload_n 0, 1) := by decide +kernel
theorem dX4_nameAll_252 : decode cX4_nameAll 252 = .ok (.getfield 31, 3) := by decide +kernel
theorem dX4_nameAll_255 : decode cX4_nameAll 255 = .ok (.iload 8, 2) := by decide +kernel
theorem dX4_nameAll_257 : decode cX4_nameAll 257 = .ok (.iaload, 1) := by decide +kernel
theorem dX4_nameAll_258 : decode cX4_nameAll 258 = .ok (.aload_n 0, 1) := by decide +kernel
theorem dX4_nameAll_259 : decode cX4_nameAll 259 = .ok (.getfield 31, 3) := by decide +kernel
theorem dX4_nameAll_262 : decode cX4_nameAll 262 = .ok (.iload 9, 2) := by decide +kernel
theorem dX4_nameAll_264 : decode cX4_nameAll 264 = .ok (.iaload, 1) := by decide +kernel
theorem dX4_nameAll_265 : decode cX4_nameAll 265 = .ok (.if_icmp .ne 24, 3) := by decide +kernel
theorem dX4_nameAll_268 : decode cX4_nameAll 268 = .ok (.aload_n 0, 1) := by decide +kernel
theorem dX4_nameAll_269 : decode cX4_nameAll 269 = .ok (.getfield 28, 3) := by decide +kernel
theorem dX4_nameAll_272 : decode cX4_nameAll 272 = .ok (.iload 8, 2) := by decide +kernel
theorem dX4_nameAll_274 : decode cX4_nameAll 274 = .ok (.iaload, 1) := by decide +kernel
theorem dX4_nameAll_275 : decode cX4_nameAll 275 = .ok (.aload_n 0, 1) := by decide +kernel
theorem dX4_nameAll_276 : decode cX4_nameAll 276 = .ok (.getfield 28, 3) := by decide +kernel
theorem dX4_nameAll_279 : decode cX4_nameAll 279 = .ok (.iload 9, 2) := by decide +kernel
theorem dX4_nameAll_281 : decode cX4_nameAll 281 = .ok (.iaload, 1) := by decide +kernel
theorem dX4_nameAll_282 : decode cX4_nameAll 282 = .ok (.if_icmp .ge 7, 3) := by decide +kernel
theorem dX4_nameAll_285 : decode cX4_nameAll 285 = .ok (.iload 7, 2) := by decide +kernel
theorem dX4_nameAll_287 : decode cX4_nameAll 287 = .ok (.istore 6, 2) := by decide +kernel
theorem dX4_nameAll_289 : decode cX4_nameAll 289 = .ok (.iinc 7 1, 3) := by decide +kernel
theorem dX4_nameAll_292 : decode cX4_nameAll 292 = .ok (.goto (-106), 3) := by decide +kernel
theorem dX4_nameAll_295 : decode cX4_nameAll 295 = .ok (.iload 5, 2) := by decide +kernel
theorem dX4_nameAll_297 : decode cX4_nameAll 297 = .ok (.iconst 1, 1) := by decide +kernel
theorem dX4_nameAll_298 : decode cX4_nameAll 298 = .ok (.iload 6, 2) := by decide +kernel
theorem dX4_nameAll_300 : decode cX4_nameAll 300 = .ok (.ishl, 1) := by decide +kernel
theorem dX4_nameAll_301 : decode cX4_nameAll 301 = .ok (.ixor, 1) := by decide +kernel
theorem dX4_nameAll_302 : decode cX4_nameAll 302 = .ok (.istore 5, 2) := by decide +kernel
theorem dX4_nameAll_304 : decode cX4_nameAll 304 = .ok (.aload_n 0, 1) := by decide +kernel
theorem dX4_nameAll_305 : decode cX4_nameAll 305 = .ok (.getfield 56, 3) := by decide +kernel
theorem dX4_nameAll_308 : decode cX4_nameAll 308 = .ok (.iload_n 3, 1) := by decide +kernel
theorem dX4_nameAll_309 : decode cX4_nameAll 309 = .ok (.aload_n 0, 1) := by decide +kernel
theorem dX4_nameAll_310 : decode cX4_nameAll 310 = .ok (.getfield 28, 3) := by decide +kernel
theorem dX4_nameAll_313 : decode cX4_nameAll 313 = .ok (.bipush 8, 2) := by decide +kernel
theorem dX4_nameAll_315 : decode cX4_nameAll 315 = .ok (.iload_n 1, 1) := by decide +kernel
theorem dX4_nameAll_316 : decode cX4_nameAll 316 = .ok (.imul, 1) := by decide +kernel
theorem dX4_nameAll_317 : decode cX4_nameAll 317 = .ok (.iload 6, 2) := by decide +kernel
theorem dX4_nameAll_319 : decode cX4_nameAll 319 = .ok (.iadd, 1) := by decide +kernel
theorem dX4_nameAll_320 : decode cX4_nameAll 320 = .ok (.iaload, 1) := by decide +kernel
theorem dX4_nameAll_321 : decode cX4_nameAll 321 = .ok (.iastore, 1) := by decide +kernel
theorem dX4_nameAll_322 : decode cX4_nameAll 322 = .ok (.iinc 3 1, 3) := by decide +kernel
theorem dX4_nameAll_325 : decode cX4_nameAll 325 = .ok (.goto (-150), 3) := by decide +kernel
theorem dX4_nameAll_328 : decode cX4_nameAll 328 = .ok (.goto (-291), 3) := by decide +kernel
theorem dX4_nameAll_331 : decode cX4_nameAll 331 = .ok (.iload_n 3, 1) := by decide +kernel
theorem dX4_nameAll_332 : decode cX4_nameAll 332 = .ok (.ireturn, 1) := by decide +kernel
set_option maxRecDepth 20000 in
theorem ggX4_name_X4_isPicture : GoodIn wsX4_name wsX4_isPicture := goodIn_r _ [7, 8, 9, 10, 6, 11, 37, 38, 39, 40, 41, 42, 43, 44, 45, 46, 47, 48, 49, 50, 51, 52, 53, 54, 55, 56, 57, 58, 59, 60, 61, 62, 63] (by decide +kernel) (by decide +kernel)
set_option maxRecDepth 20000 in
theorem gX4_name_X4_isPicture : GoodIn wsX4_name (wsV RX4 88 RX4 yX4_isPicture wsX4_isPicture) := goodIn_app (goodIn_of _ (by decide +kernel)) ggX4_name_X4_isPicture
set_option maxRecDepth 20000 in
theorem ggX4_name_X4_isGood : GoodIn wsX4_name wsX4_isGood := goodIn_r _ [15, 16, 17, 18, 19, 20, 21, 22, 23, 6, 24, 25, 26, 27, 28, 29, 30, 31, 37, 38, 39, 40, 41, 42, 43, 44, 45, 46, 47, 48, 49, 50, 51, 52, 53, 54, 55, 56, 57, 58, 59, 60, 61, 62, 63] (by decide +kernel) (by decide +kernel)
set_option maxRecDepth 20000 in
theorem gX4_name_X4_isGood : GoodIn wsX4_name (wsV RX4 101 RX4 yX4_isGood wsX4_isGood) := goodIn_app (goodIn_of _ (by decide +kernel)) ggX4_name_X4_isGood
set_option maxRecDepth 20000 in
theorem ggX4_name_X4_nameAll : GoodIn wsX4_name wsX4_nameAll := goodIn_r _ [35, 16, 20, 36, 17, 30, 2, 25, 26, 27, 6, 28, 29, 31, 37, 38, 39, 40, 41, 42, 43, 44, 45, 46, 47, 48, 49, 50, 51, 52, 53, 54, 55, 56, 57, 58, 59, 60, 61, 62, 63] (by decide +kernel) (by decide +kernel)
set_option maxRecDepth 20000 in
theorem gX4_name_X4_nameAll : GoodIn wsX4_name (wsV RX4 127 RX4 yX4_nameAll wsX4_nameAll) := goodIn_app (goodIn_of _ (by decide +kernel)) ggX4_name_X4_nameAll
set_option maxRecDepth 20000 in
theorem ggX4_name_X4_in : GoodIn wsX4_name wsX4_in := goodIn_r _ [11] (by decide +kernel) (by decide +kernel)
set_option maxRecDepth 20000 in
theorem gX4_name_X4_in : GoodIn wsX4_name (va_wsS RX4 77 yX4_in wsX4_in) := goodIn_app (goodIn_of _ (by decide +kernel)) ggX4_name_X4_in
theorem dX4_name_0 : decode cX4_name 0 = .ok (.aload_n 0, 1) := by decide +kernel
theorem dX4_name_1 : decode cX4_name 1 = .ok (.iconst 0, 1) := by decide +kernel
theorem dX4_name_2 : decode cX4_name 2 = .ok (.putfield 71, 3) := by decide +kernel
theorem dX4_name_5 : decode cX4_name 5 = .ok (.aload_n 0, 1) := by decide +kernel
theorem dX4_name_6 : decode cX4_name 6 = .ok (.iload_n 1, 1) := by decide +kernel
theorem dX4_name_7 : decode cX4_name 7 = .ok (.invokevirtual 88, 3) := by decide +kernel
theorem dX4_name_10 : decode cX4_name 10 = .ok (.ifCond .eq 11, 3) := by decide +kernel
theorem dX4_name_13 : decode cX4_name 13 = .ok (.aload_n 0, 1) := by decide +kernel
theorem dX4_name_14 : decode cX4_name 14 = .ok (.iload_n 1, 1) := by decide +kernel
theorem dX4_name_15 : decode cX4_name 15 = .ok (.invokevirtual 101, 3) := by decide +kernel
theorem dX4_name_18 : decode cX4_name 18 = .ok (.ifCond .ne 5, 3) := by decide +kernel
theorem dX4_name_21 : decode cX4_name 21 = .ok (.iconst (-1), 1) := by decide +kernel
theorem dX4_name_22 : decode cX4_name 22 = .ok (.ireturn, 1) := by decide +kernel
theorem dX4_name_23 : decode cX4_name 23 = .ok (.aload_n 0, 1) := by decide +kernel
theorem dX4_name_24 : decode cX4_name 24 = .ok (.iload_n 1, 1) := by decide +kernel
theorem dX4_name_25 : decode cX4_name 25 = .ok (.invokevirtual 127, 3) := by decide +kernel
theorem dX4_name_28 : decode cX4_name 28 = .ok (.istore_n 3, 1) := by decide +kernel
theorem dX4_name_29 : decode cX4_name 29 = .ok (.iload_n 2, 1) := by decide +kernel
theorem dX4_name_30 : decode cX4_name 30 = .ok (.iconst 0, 1) := by decide +kernel
theorem dX4_name_31 : decode cX4_name 31 = .ok (.iload_n 3, 1) := by decide +kernel
theorem dX4_name_32 : decode cX4_name 32 = .ok (.iconst 1, 1) := by decide +kernel
theorem dX4_name_33 : decode cX4_name 33 = .ok (.isub, 1) := by decide +kernel
theorem dX4_name_34 : decode cX4_name 34 = .ok (.invokestatic 77, 3) := by decide +kernel
theorem dX4_name_37 : decode cX4_name 37 = .ok (.ifCond .eq 12, 3) := by decide +kernel
theorem dX4_name_40 : decode cX4_name 40 = .ok (.aload_n 0, 1) := by decide +kernel
theorem dX4_name_41 : decode cX4_name 41 = .ok (.getfield 56, 3) := by decide +kernel
theorem dX4_name_44 : decode cX4_name 44 = .ok (.iload_n 2, 1) := by decide +kernel
theorem dX4_name_45 : decode cX4_name 45 = .ok (.iaload, 1) := by decide +kernel
theorem dX4_name_46 : decode cX4_name 46 = .ok (.goto 4, 3) := by decide +kernel
theorem dX4_name_49 : decode cX4_name 49 = .ok (.iconst (-1), 1) := by decide +kernel
theorem dX4_name_50 : decode cX4_name 50 = .ok (.ireturn, 1) := by decide +kernel
set_option maxRecDepth 20000 in
theorem ggX4_timesIn_X4_seenIn : GoodIn wsX4_timesIn wsX4_seenIn := goodIn_r _ [6, 7, 8, 9, 10, 11, 5, 12, 13, 14, 15, 16, 17, 18, 19, 20, 21, 22, 23, 24, 25, 26, 27, 28, 29, 30, 31, 32, 33, 34, 35, 36, 37, 38, 39, 40, 41, 42, 43, 44, 45, 46, 47, 48, 49, 50, 51, 52, 53] (by decide +kernel) (by decide +kernel)
set_option maxRecDepth 20000 in
theorem gX4_timesIn_X4_seenIn : GoodIn wsX4_timesIn (wsV RX4 104 RX4 yX4_seenIn wsX4_seenIn) := goodIn_app (goodIn_of _ (by decide +kernel)) ggX4_timesIn_X4_seenIn
theorem dX4_timesIn_0 : decode cX4_timesIn 0 = .ok (.iconst 0, 1) := by decide +kernel
theorem dX4_timesIn_1 : decode cX4_timesIn 1 = .ok (.istore_n 3, 1) := by decide +kernel
theorem dX4_timesIn_2 : decode cX4_timesIn 2 = .ok (.iconst 0, 1) := by decide +kernel
theorem dX4_timesIn_3 : decode cX4_timesIn 3 = .ok (.istore 4, 2) := by decide +kernel
theorem dX4_timesIn_5 : decode cX4_timesIn 5 = .ok (.iload 4, 2) := by decide +kernel
theorem dX4_timesIn_7 : decode cX4_timesIn 7 = .ok (.aload_n 0, 1) := by decide +kernel
theorem dX4_timesIn_8 : decode cX4_timesIn 8 = .ok (.getfield 74, 3) := by decide +kernel
theorem dX4_timesIn_11 : decode cX4_timesIn 11 = .ok (.if_icmp .ge 32, 3) := by decide +kernel
theorem dX4_timesIn_14 : decode cX4_timesIn 14 = .ok (.iload_n 1, 1) := by decide +kernel
theorem dX4_timesIn_15 : decode cX4_timesIn 15 = .ok (.iload 4, 2) := by decide +kernel
theorem dX4_timesIn_17 : decode cX4_timesIn 17 = .ok (.ishr, 1) := by decide +kernel
theorem dX4_timesIn_18 : decode cX4_timesIn 18 = .ok (.iconst 1, 1) := by decide +kernel
theorem dX4_timesIn_19 : decode cX4_timesIn 19 = .ok (.iand, 1) := by decide +kernel
theorem dX4_timesIn_20 : decode cX4_timesIn 20 = .ok (.iconst 1, 1) := by decide +kernel
theorem dX4_timesIn_21 : decode cX4_timesIn 21 = .ok (.if_icmp .ne 16, 3) := by decide +kernel
theorem dX4_timesIn_24 : decode cX4_timesIn 24 = .ok (.iload_n 3, 1) := by decide +kernel
theorem dX4_timesIn_25 : decode cX4_timesIn 25 = .ok (.aload_n 0, 1) := by decide +kernel
theorem dX4_timesIn_26 : decode cX4_timesIn 26 = .ok (.iload 4, 2) := by decide +kernel
theorem dX4_timesIn_28 : decode cX4_timesIn 28 = .ok (.invokevirtual 104, 3) := by decide +kernel
theorem dX4_timesIn_31 : decode cX4_timesIn 31 = .ok (.iload_n 2, 1) := by decide +kernel
theorem dX4_timesIn_32 : decode cX4_timesIn 32 = .ok (.ishr, 1) := by decide +kernel
theorem dX4_timesIn_33 : decode cX4_timesIn 33 = .ok (.iconst 1, 1) := by decide +kernel
theorem dX4_timesIn_34 : decode cX4_timesIn 34 = .ok (.iand, 1) := by decide +kernel
theorem dX4_timesIn_35 : decode cX4_timesIn 35 = .ok (.iadd, 1) := by decide +kernel
theorem dX4_timesIn_36 : decode cX4_timesIn 36 = .ok (.istore_n 3, 1) := by decide +kernel
theorem dX4_timesIn_37 : decode cX4_timesIn 37 = .ok (.iinc 4 1, 3) := by decide +kernel
theorem dX4_timesIn_40 : decode cX4_timesIn 40 = .ok (.goto (-35), 3) := by decide +kernel
theorem dX4_timesIn_43 : decode cX4_timesIn 43 = .ok (.iload_n 3, 1) := by decide +kernel
theorem dX4_timesIn_44 : decode cX4_timesIn 44 = .ok (.ireturn, 1) := by decide +kernel
set_option maxRecDepth 20000 in
theorem ggX4_seen_X4_isChild : GoodIn wsX4_seen wsX4_isChild := goodIn_r _ [7, 8, 9, 10, 6, 11, 41, 42, 43, 44, 45, 46, 47, 48, 49, 50, 51, 52, 53, 54, 55, 56, 57, 58, 59, 60, 61, 62, 63, 64, 65, 66, 67] (by decide +kernel) (by decide +kernel)
set_option maxRecDepth 20000 in
theorem gX4_seen_X4_isChild : GoodIn wsX4_seen (wsV RX4 84 RX4 yX4_isChild wsX4_isChild) := goodIn_app (goodIn_of _ (by decide +kernel)) ggX4_seen_X4_isChild
set_option maxRecDepth 20000 in
theorem ggX4_seen_X4_timesIn : GoodIn wsX4_seen wsX4_timesIn := goodIn_r _ [15, 16, 17, 18, 19, 6, 20, 21, 22, 23, 24, 25, 26, 27, 28, 29, 30, 31, 32, 33, 34, 35, 36, 37, 38, 39, 40, 41, 42, 43, 44, 45, 46, 47, 48, 49, 50, 51, 52, 53, 54, 55, 56, 57, 58, 59, 60, 61, 62, 63, 64, 65, 66, 67] (by decide +kernel) (by decide +kernel)
set_option maxRecDepth 20000 in
theorem gX4_seen_X4_timesIn : GoodIn wsX4_seen (wsV RX4 130 RX4 yX4_timesIn wsX4_timesIn) := goodIn_app (goodIn_of _ (by decide +kernel)) ggX4_seen_X4_timesIn
theorem dX4_seen_0 : decode cX4_seen 0 = .ok (.aload_n 0, 1) := by decide +kernel
theorem dX4_seen_1 : decode cX4_seen 1 = .ok (.iconst 0, 1) := by decide +kernel
theorem dX4_seen_2 : decode cX4_seen 2 = .ok (.putfield 71, 3) := by decide +kernel
theorem dX4_seen_5 : decode cX4_seen 5 = .ok (.aload_n 0, 1) := by decide +kernel
theorem dX4_seen_6 : decode cX4_seen 6 = .ok (.iload_n 1, 1) := by decide +kernel
theorem dX4_seen_7 : decode cX4_seen 7 = .ok (.invokevirtual 84, 3) := by decide +kernel
theorem dX4_seen_10 : decode cX4_seen 10 = .ok (.ifCond .eq 15, 3) := by decide +kernel
theorem dX4_seen_13 : decode cX4_seen 13 = .ok (.aload_n 0, 1) := by decide +kernel
theorem dX4_seen_14 : decode cX4_seen 14 = .ok (.aload_n 0, 1) := by decide +kernel
theorem dX4_seen_15 : decode cX4_seen 15 = .ok (.getfield 108, 3) := by decide +kernel
theorem dX4_seen_18 : decode cX4_seen 18 = .ok (.iload_n 1, 1) := by decide +kernel
theorem dX4_seen_19 : decode cX4_seen 19 = .ok (.invokevirtual 130, 3) := by decide +kernel
theorem dX4_seen_22 : decode cX4_seen 22 = .ok (.goto 4, 3) := by decide +kernel
theorem dX4_seen_25 : decode cX4_seen 25 = .ok (.iconst (-1), 1) := by decide +kernel
theorem dX4_seen_26 : decode cX4_seen 26 = .ok (.ireturn, 1) := by decide +kernel
set_option maxRecDepth 20000 in
theorem ggX4_proof_X4_isChild : GoodIn wsX4_proof wsX4_isChild := goodIn_r _ [8, 9, 10, 11, 7, 12, 37, 38, 39, 40, 41, 42, 43, 44, 45, 46, 47, 48, 49, 50, 51, 52, 53, 54, 55, 56, 57, 58, 59, 60, 61, 62, 63] (by decide +kernel) (by decide +kernel)
set_option maxRecDepth 20000 in
theorem gX4_proof_X4_isChild : GoodIn wsX4_proof (wsV RX4 84 RX4 yX4_isChild wsX4_isChild) := goodIn_app (goodIn_of _ (by decide +kernel)) ggX4_proof_X4_isChild
set_option maxRecDepth 20000 in
theorem ggX4_proof_X4_seenIn : GoodIn wsX4_proof wsX4_seenIn := goodIn_r _ [16, 17, 18, 19, 20, 21, 7, 22, 23, 24, 25, 26, 27, 28, 29, 30, 31, 32, 33, 34, 35, 36, 37, 38, 39, 40, 41, 42, 43, 44, 45, 46, 47, 48, 49, 50, 51, 52, 53, 54, 55, 56, 57, 58, 59, 60, 61, 62, 63] (by decide +kernel) (by decide +kernel)
set_option maxRecDepth 20000 in
theorem gX4_proof_X4_seenIn : GoodIn wsX4_proof (wsV RX4 104 RX4 yX4_seenIn wsX4_seenIn) := goodIn_app (goodIn_of _ (by decide +kernel)) ggX4_proof_X4_seenIn
theorem dX4_proof_0 : decode cX4_proof 0 = .ok (.aload_n 0, 1) := by decide +kernel
theorem dX4_proof_1 : decode cX4_proof 1 = .ok (.iconst 0, 1) := by decide +kernel
theorem dX4_proof_2 : decode cX4_proof 2 = .ok (.putfield 71, 3) := by decide +kernel
theorem dX4_proof_5 : decode cX4_proof 5 = .ok (.aload_n 0, 1) := by decide +kernel
theorem dX4_proof_6 : decode cX4_proof 6 = .ok (.iload_n 1, 1) := by decide +kernel
theorem dX4_proof_7 : decode cX4_proof 7 = .ok (.invokevirtual 84, 3) := by decide +kernel
theorem dX4_proof_10 : decode cX4_proof 10 = .ok (.ifCond .eq 7, 3) := by decide +kernel
theorem dX4_proof_13 : decode cX4_proof 13 = .ok (.iload_n 2, 1) := by decide +kernel
theorem dX4_proof_14 : decode cX4_proof 14 = .ok (.ifCond .ge 5, 3) := by decide +kernel
theorem dX4_proof_17 : decode cX4_proof 17 = .ok (.iconst (-1), 1) := by decide +kernel
theorem dX4_proof_18 : decode cX4_proof 18 = .ok (.ireturn, 1) := by decide +kernel
theorem dX4_proof_19 : decode cX4_proof 19 = .ok (.iload_n 2, 1) := by decide +kernel
theorem dX4_proof_20 : decode cX4_proof 20 = .ok (.istore_n 3, 1) := by decide +kernel
theorem dX4_proof_21 : decode cX4_proof 21 = .ok (.iconst 0, 1) := by decide +kernel
theorem dX4_proof_22 : decode cX4_proof 22 = .ok (.istore 4, 2) := by decide +kernel
theorem dX4_proof_24 : decode cX4_proof 24 = .ok (.iload 4, 2) := by decide +kernel
theorem dX4_proof_26 : decode cX4_proof 26 = .ok (.aload_n 0, 1) := by decide +kernel
theorem dX4_proof_27 : decode cX4_proof 27 = .ok (.getfield 74, 3) := by decide +kernel
theorem dX4_proof_30 : decode cX4_proof 30 = .ok (.if_icmp .ge 47, 3) := by decide +kernel
theorem dX4_proof_33 : decode cX4_proof 33 = .ok (.aload_n 0, 1) := by decide +kernel
theorem dX4_proof_34 : decode cX4_proof 34 = .ok (.getfield 108, 3) := by decide +kernel
theorem dX4_proof_37 : decode cX4_proof 37 = .ok (.iload 4, 2) := by decide +kernel
theorem dX4_proof_39 : decode cX4_proof 39 = .ok (.ishr, 1) := by decide +kernel
theorem dX4_proof_40 : decode cX4_proof 40 = .ok (.iconst 1, 1) := by decide +kernel
theorem dX4_proof_41 : decode cX4_proof 41 = .ok (.iand, 1) := by decide +kernel
theorem dX4_proof_42 : decode cX4_proof 42 = .ok (.ifCond .eq 29, 3) := by decide +kernel
theorem dX4_proof_45 : decode cX4_proof 45 = .ok (.aload_n 0, 1) := by decide +kernel
theorem dX4_proof_46 : decode cX4_proof 46 = .ok (.iload 4, 2) := by decide +kernel
theorem dX4_proof_48 : decode cX4_proof 48 = .ok (.invokevirtual 104, 3) := by decide +kernel
theorem dX4_proof_51 : decode cX4_proof 51 = .ok (.iload_n 1, 1) := by decide +kernel
theorem dX4_proof_52 : decode cX4_proof 52 = .ok (.ishr, 1) := by decide +kernel
theorem dX4_proof_53 : decode cX4_proof 53 = .ok (.iconst 1, 1) := by decide +kernel
theorem dX4_proof_54 : decode cX4_proof 54 = .ok (.iand, 1) := by decide +kernel
theorem dX4_proof_55 : decode cX4_proof 55 = .ok (.ifCond .ne 6, 3) := by decide +kernel
theorem dX4_proof_58 : decode cX4_proof 58 = .ok (.goto 13, 3) := by decide +kernel
theorem dX4_proof_61 : decode cX4_proof 61 = .ok (.iload_n 3, 1) := by decide +kernel
theorem dX4_proof_62 : decode cX4_proof 62 = .ok (.ifCond .ne 6, 3) := by decide +kernel
theorem dX4_proof_65 : decode cX4_proof 65 = .ok (.iload 4, 2) := by decide +kernel
theorem dX4_proof_67 : decode cX4_proof 67 = .ok (.ireturn, 1) := by decide +kernel
theorem dX4_proof_68 : decode cX4_proof 68 = .ok (.iinc 3 (-1), 3) := by decide +kernel
theorem dX4_proof_71 : decode cX4_proof 71 = .ok (.iinc 4 1, 3) := by decide +kernel
theorem dX4_proof_74 : decode cX4_proof 74 = .ok (.goto (-50), 3) := by decide +kernel
theorem dX4_proof_77 : decode cX4_proof 77 = .ok (.iconst (-1), 1) := by decide +kernel
theorem dX4_proof_78 : decode cX4_proof 78 = .ok (.ireturn, 1) := by decide +kernel
set_option maxRecDepth 20000 in
theorem ggX4_shows_X4_in : GoodIn wsX4_shows wsX4_in := goodIn_r _ [9] (by decide +kernel) (by decide +kernel)
set_option maxRecDepth 20000 in
theorem gX4_shows_X4_in : GoodIn wsX4_shows (va_wsS RX4 77 yX4_in wsX4_in) := goodIn_app (goodIn_of _ (by decide +kernel)) ggX4_shows_X4_in
set_option maxRecDepth 20000 in
theorem ggX4_shows_X4_seenIn : GoodIn wsX4_shows wsX4_seenIn := goodIn_r _ [13, 14, 15, 16, 17, 18, 8, 19, 20, 21, 22, 23, 24, 25, 26, 27, 28, 29, 30, 31, 32, 33, 34, 35, 36, 37, 38, 39, 40, 41, 42, 43, 44, 45, 46, 47, 48, 49, 50, 51, 52, 53, 54, 55, 56, 57, 58, 59, 60] (by decide +kernel) (by decide +kernel)
set_option maxRecDepth 20000 in
theorem gX4_shows_X4_seenIn : GoodIn wsX4_shows (wsV RX4 104 RX4 yX4_seenIn wsX4_seenIn) := goodIn_app (goodIn_of _ (by decide +kernel)) ggX4_shows_X4_seenIn
theorem dX4_shows_0 : decode cX4_shows 0 = .ok (.aload_n 0, 1) := by decide +kernel
theorem dX4_shows_1 : decode cX4_shows 1 = .ok (.iconst 0, 1) := by decide +kernel
theorem dX4_shows_2 : decode cX4_shows 2 = .ok (.putfield 71, 3) := by decide +kernel
theorem dX4_shows_5 : decode cX4_shows 5 = .ok (.iload_n 1, 1) := by decide +kernel
theorem dX4_shows_6 : decode cX4_shows 6 = .ok (.iconst 0, 1) := by decide +kernel
theorem dX4_shows_7 : decode cX4_shows 7 = .ok (.bipush 9, 2) := by decide +kernel
theorem dX4_shows_9 : decode cX4_shows 9 = .ok (.invokestatic 77, 3) := by decide +kernel
theorem dX4_shows_12 : decode cX4_shows 12 = .ok (.ifCond .ne 5, 3) := by decide +kernel
theorem dX4_shows_15 : decode cX4_shows 15 = .ok (.iconst (-1), 1) := by decide +kernel
theorem dX4_shows_16 : decode cX4_shows 16 = .ok (.ireturn, 1) := by decide +kernel
theorem dX4_shows_17 : decode cX4_shows 17 = .ok (.iconst 0, 1) := by decide +kernel
theorem dX4_shows_18 : decode cX4_shows 18 = .ok (.istore_n 2, 1) := by decide +kernel
theorem dX4_shows_19 : decode cX4_shows 19 = .ok (.iconst 0, 1) := by decide +kernel
theorem dX4_shows_20 : decode cX4_shows 20 = .ok (.istore_n 3, 1) := by decide +kernel
theorem dX4_shows_21 : decode cX4_shows 21 = .ok (.iload_n 3, 1) := by decide +kernel
theorem dX4_shows_22 : decode cX4_shows 22 = .ok (.aload_n 0, 1) := by decide +kernel
theorem dX4_shows_23 : decode cX4_shows 23 = .ok (.getfield 81, 3) := by decide +kernel
theorem dX4_shows_26 : decode cX4_shows 26 = .ok (.if_icmp .ge 25, 3) := by decide +kernel
theorem dX4_shows_29 : decode cX4_shows 29 = .ok (.aload_n 0, 1) := by decide +kernel
theorem dX4_shows_30 : decode cX4_shows 30 = .ok (.getfield 9, 3) := by decide +kernel
theorem dX4_shows_33 : decode cX4_shows 33 = .ok (.iload_n 3, 1) := by decide +kernel
theorem dX4_shows_34 : decode cX4_shows 34 = .ok (.iaload, 1) := by decide +kernel
theorem dX4_shows_35 : decode cX4_shows 35 = .ok (.iload_n 1, 1) := by decide +kernel
theorem dX4_shows_36 : decode cX4_shows 36 = .ok (.if_icmp .ne 9, 3) := by decide +kernel
theorem dX4_shows_39 : decode cX4_shows 39 = .ok (.iload_n 2, 1) := by decide +kernel
theorem dX4_shows_40 : decode cX4_shows 40 = .ok (.iconst 1, 1) := by decide +kernel
theorem dX4_shows_41 : decode cX4_shows 41 = .ok (.iload_n 3, 1) := by decide +kernel
theorem dX4_shows_42 : decode cX4_shows 42 = .ok (.ishl, 1) := by decide +kernel
theorem dX4_shows_43 : decode cX4_shows 43 = .ok (.ior, 1) := by decide +kernel
theorem dX4_shows_44 : decode cX4_shows 44 = .ok (.istore_n 2, 1) := by decide +kernel
theorem dX4_shows_45 : decode cX4_shows 45 = .ok (.iinc 3 1, 3) := by decide +kernel
theorem dX4_shows_48 : decode cX4_shows 48 = .ok (.goto (-27), 3) := by decide +kernel
theorem dX4_shows_51 : decode cX4_shows 51 = .ok (.iconst 0, 1) := by decide +kernel
theorem dX4_shows_52 : decode cX4_shows 52 = .ok (.istore_n 3, 1) := by decide +kernel
theorem dX4_shows_53 : decode cX4_shows 53 = .ok (.iconst 0, 1) := by decide +kernel
theorem dX4_shows_54 : decode cX4_shows 54 = .ok (.istore 4, 2) := by decide +kernel
theorem dX4_shows_56 : decode cX4_shows 56 = .ok (.iload 4, 2) := by decide +kernel
theorem dX4_shows_58 : decode cX4_shows 58 = .ok (.aload_n 0, 1) := by decide +kernel
theorem dX4_shows_59 : decode cX4_shows 59 = .ok (.getfield 74, 3) := by decide +kernel
theorem dX4_shows_62 : decode cX4_shows 62 = .ok (.if_icmp .ge 36, 3) := by decide +kernel
theorem dX4_shows_65 : decode cX4_shows 65 = .ok (.aload_n 0, 1) := by decide +kernel
theorem dX4_shows_66 : decode cX4_shows 66 = .ok (.getfield 108, 3) := by decide +kernel
theorem dX4_shows_69 : decode cX4_shows 69 = .ok (.iload 4, 2) := by decide +kernel
theorem dX4_shows_71 : decode cX4_shows 71 = .ok (.ishr, 1) := by decide +kernel
theorem dX4_shows_72 : decode cX4_shows 72 = .ok (.iconst 1, 1) := by decide +kernel
theorem dX4_shows_73 : decode cX4_shows 73 = .ok (.iand, 1) := by decide +kernel
theorem dX4_shows_74 : decode cX4_shows 74 = .ok (.iconst 1, 1) := by decide +kernel
theorem dX4_shows_75 : decode cX4_shows 75 = .ok (.if_icmp .ne 17, 3) := by decide +kernel
theorem dX4_shows_78 : decode cX4_shows 78 = .ok (.aload_n 0, 1) := by decide +kernel
theorem dX4_shows_79 : decode cX4_shows 79 = .ok (.iload 4, 2) := by decide +kernel
theorem dX4_shows_81 : decode cX4_shows 81 = .ok (.invokevirtual 104, 3) := by decide +kernel
theorem dX4_shows_84 : decode cX4_shows 84 = .ok (.iload_n 2, 1) := by decide +kernel
theorem dX4_shows_85 : decode cX4_shows 85 = .ok (.iand, 1) := by decide +kernel
theorem dX4_shows_86 : decode cX4_shows 86 = .ok (.ifCond .eq 6, 3) := by decide +kernel
theorem dX4_shows_89 : decode cX4_shows 89 = .ok (.iinc 3 1, 3) := by decide +kernel
theorem dX4_shows_92 : decode cX4_shows 92 = .ok (.iinc 4 1, 3) := by decide +kernel
theorem dX4_shows_95 : decode cX4_shows 95 = .ok (.goto (-39), 3) := by decide +kernel
theorem dX4_shows_98 : decode cX4_shows 98 = .ok (.iload_n 3, 1) := by decide +kernel
theorem dX4_shows_99 : decode cX4_shows 99 = .ok (.ireturn, 1) := by decide +kernel
set_option maxRecDepth 20000 in
theorem ggX4_choose_X4_in : GoodIn wsX4_choose wsX4_in := goodIn_r _ [8] (by decide +kernel) (by decide +kernel)
set_option maxRecDepth 20000 in
theorem gX4_choose_X4_in : GoodIn wsX4_choose (va_wsS RX4 77 yX4_in wsX4_in) := goodIn_app (goodIn_of _ (by decide +kernel)) ggX4_choose_X4_in
theorem dX4_choose_0 : decode cX4_choose 0 = .ok (.aload_n 0, 1) := by decide +kernel
theorem dX4_choose_1 : decode cX4_choose 1 = .ok (.iconst 0, 1) := by decide +kernel
theorem dX4_choose_2 : decode cX4_choose 2 = .ok (.putfield 71, 3) := by decide +kernel
theorem dX4_choose_5 : decode cX4_choose 5 = .ok (.iload_n 1, 1) := by decide +kernel
theorem dX4_choose_6 : decode cX4_choose 6 = .ok (.iconst 0, 1) := by decide +kernel
theorem dX4_choose_7 : decode cX4_choose 7 = .ok (.iconst 1, 1) := by decide +kernel
theorem dX4_choose_8 : decode cX4_choose 8 = .ok (.aload_n 0, 1) := by decide +kernel
theorem dX4_choose_9 : decode cX4_choose 9 = .ok (.getfield 74, 3) := by decide +kernel
theorem dX4_choose_12 : decode cX4_choose 12 = .ok (.ishl, 1) := by decide +kernel
theorem dX4_choose_13 : decode cX4_choose 13 = .ok (.iconst 1, 1) := by decide +kernel
theorem dX4_choose_14 : decode cX4_choose 14 = .ok (.isub, 1) := by decide +kernel
theorem dX4_choose_15 : decode cX4_choose 15 = .ok (.invokestatic 77, 3) := by decide +kernel
theorem dX4_choose_18 : decode cX4_choose 18 = .ok (.ifCond .ne 5, 3) := by decide +kernel
theorem dX4_choose_21 : decode cX4_choose 21 = .ok (.iconst 0, 1) := by decide +kernel
theorem dX4_choose_22 : decode cX4_choose 22 = .ok (.ireturn, 1) := by decide +kernel
theorem dX4_choose_23 : decode cX4_choose 23 = .ok (.aload_n 0, 1) := by decide +kernel
theorem dX4_choose_24 : decode cX4_choose 24 = .ok (.iload_n 1, 1) := by decide +kernel
theorem dX4_choose_25 : decode cX4_choose 25 = .ok (.putfield 108, 3) := by decide +kernel
theorem dX4_choose_28 : decode cX4_choose 28 = .ok (.aload_n 0, 1) := by decide +kernel
theorem dX4_choose_29 : decode cX4_choose 29 = .ok (.iconst 0, 1) := by decide +kernel
theorem dX4_choose_30 : decode cX4_choose 30 = .ok (.putfield 114, 3) := by decide +kernel
theorem dX4_choose_33 : decode cX4_choose 33 = .ok (.iconst 1, 1) := by decide +kernel
theorem dX4_choose_34 : decode cX4_choose 34 = .ok (.ireturn, 1) := by decide +kernel
set_option maxRecDepth 20000 in
theorem ggX4_takeSeen_X4_seenIn : GoodIn wsX4_takeSeen wsX4_seenIn := goodIn_r _ [8, 9, 10, 11, 12, 13, 7, 14, 15, 16, 17, 18, 19, 20, 21, 22, 23, 24, 25, 26, 27, 28, 29, 30, 31, 32, 33, 34, 35, 36, 37, 38, 39, 40, 41, 42, 43, 44, 45, 46, 47, 48, 49, 50, 51, 52, 53, 54, 55] (by decide +kernel) (by decide +kernel)
set_option maxRecDepth 20000 in
theorem gX4_takeSeen_X4_seenIn : GoodIn wsX4_takeSeen (wsV RX4 104 RX4 yX4_seenIn wsX4_seenIn) := goodIn_app (goodIn_of _ (by decide +kernel)) ggX4_takeSeen_X4_seenIn
theorem dX4_takeSeen_0 : decode cX4_takeSeen 0 = .ok (.aload_n 0, 1) := by decide +kernel
theorem dX4_takeSeen_1 : decode cX4_takeSeen 1 = .ok (.iconst 0, 1) := by decide +kernel
theorem dX4_takeSeen_2 : decode cX4_takeSeen 2 = .ok (.putfield 134, 3) := by decide +kernel
theorem dX4_takeSeen_5 : decode cX4_takeSeen 5 = .ok (.iconst 0, 1) := by decide +kernel
theorem dX4_takeSeen_6 : decode cX4_takeSeen 6 = .ok (.istore_n 1, 1) := by decide +kernel
theorem dX4_takeSeen_7 : decode cX4_takeSeen 7 = .ok (.iload_n 1, 1) := by decide +kernel
theorem dX4_takeSeen_8 : decode cX4_takeSeen 8 = .ok (.aload_n 0, 1) := by decide +kernel
theorem dX4_takeSeen_9 : decode cX4_takeSeen 9 = .ok (.getfield 74, 3) := by decide +kernel
theorem dX4_takeSeen_12 : decode cX4_takeSeen 12 = .ok (.if_icmp .ge 35, 3) := by decide +kernel
theorem dX4_takeSeen_15 : decode cX4_takeSeen 15 = .ok (.aload_n 0, 1) := by decide +kernel
theorem dX4_takeSeen_16 : decode cX4_takeSeen 16 = .ok (.getfield 59, 3) := by decide +kernel
theorem dX4_takeSeen_19 : decode cX4_takeSeen 19 = .ok (.iload_n 1, 1) := by decide +kernel
theorem dX4_takeSeen_20 : decode cX4_takeSeen 20 = .ok (.aload_n 0, 1) := by decide +kernel
theorem dX4_takeSeen_21 : decode cX4_takeSeen 21 = .ok (.iload_n 1, 1) := by decide +kernel
theorem dX4_takeSeen_22 : decode cX4_takeSeen 22 = .ok (.invokevirtual 104, 3) := by decide +kernel
theorem dX4_takeSeen_25 : decode cX4_takeSeen 25 = .ok (.iastore, 1) := by decide +kernel
theorem dX4_takeSeen_26 : decode cX4_takeSeen 26 = .ok (.aload_n 0, 1) := by decide +kernel
theorem dX4_takeSeen_27 : decode cX4_takeSeen 27 = .ok (.dup, 1) := by decide +kernel
theorem dX4_takeSeen_28 : decode cX4_takeSeen 28 = .ok (.getfield 134, 3) := by decide +kernel
theorem dX4_takeSeen_31 : decode cX4_takeSeen 31 = .ok (.aload_n 0, 1) := by decide +kernel
theorem dX4_takeSeen_32 : decode cX4_takeSeen 32 = .ok (.getfield 59, 3) := by decide +kernel
theorem dX4_takeSeen_35 : decode cX4_takeSeen 35 = .ok (.iload_n 1, 1) := by decide +kernel
theorem dX4_takeSeen_36 : decode cX4_takeSeen 36 = .ok (.iaload, 1) := by decide +kernel
theorem dX4_takeSeen_37 : decode cX4_takeSeen 37 = .ok (.ior, 1) := by decide +kernel
theorem dX4_takeSeen_38 : decode cX4_takeSeen 38 = .ok (.putfield 134, 3) := by decide +kernel
theorem dX4_takeSeen_41 : decode cX4_takeSeen 41 = .ok (.iinc 1 1, 3) := by decide +kernel
theorem dX4_takeSeen_44 : decode cX4_takeSeen 44 = .ok (.goto (-37), 3) := by decide +kernel
theorem dX4_takeSeen_47 : decode cX4_takeSeen 47 = .ok (.return_, 1) := by decide +kernel
theorem dX4_why_0 : decode cX4_why 0 = .ok (.iconst 0, 1) := by decide +kernel
theorem dX4_why_1 : decode cX4_why 1 = .ok (.istore_n 2, 1) := by decide +kernel
theorem dX4_why_2 : decode cX4_why 2 = .ok (.iconst 0, 1) := by decide +kernel
theorem dX4_why_3 : decode cX4_why 3 = .ok (.istore_n 3, 1) := by decide +kernel
theorem dX4_why_4 : decode cX4_why 4 = .ok (.iconst 0, 1) := by decide +kernel
theorem dX4_why_5 : decode cX4_why 5 = .ok (.istore 4, 2) := by decide +kernel
theorem dX4_why_7 : decode cX4_why 7 = .ok (.iload 4, 2) := by decide +kernel
theorem dX4_why_9 : decode cX4_why 9 = .ok (.aload_n 0, 1) := by decide +kernel
theorem dX4_why_10 : decode cX4_why 10 = .ok (.getfield 81, 3) := by decide +kernel
theorem dX4_why_13 : decode cX4_why 13 = .ok (.if_icmp .ge 94, 3) := by decide +kernel
theorem dX4_why_16 : decode cX4_why 16 = .ok (.aload_n 0, 1) := by decide +kernel
theorem dX4_why_17 : decode cX4_why 17 = .ok (.getfield 134, 3) := by decide +kernel
theorem dX4_why_20 : decode cX4_why 20 = .ok (.iload 4, 2) := by decide +kernel
theorem dX4_why_22 : decode cX4_why 22 = .ok (.ishr, 1) := by decide +kernel
theorem dX4_why_23 : decode cX4_why 23 = .ok (.iconst 1, 1) := by decide +kernel
theorem dX4_why_24 : decode cX4_why 24 = .ok (.iand, 1) := by decide +kernel
theorem dX4_why_25 : decode cX4_why 25 = .ok (.ifCond .ne 6, 3) := by decide +kernel
theorem dX4_why_28 : decode cX4_why 28 = .ok (.goto 73, 3) := by decide +kernel
theorem dX4_why_31 : decode cX4_why 31 = .ok (.iconst 0, 1) := by decide +kernel
theorem dX4_why_32 : decode cX4_why 32 = .ok (.istore 5, 2) := by decide +kernel
theorem dX4_why_34 : decode cX4_why 34 = .ok (.iconst 0, 1) := by decide +kernel
theorem dX4_why_35 : decode cX4_why 35 = .ok (.istore 6, 2) := by decide +kernel
theorem dX4_why_37 : decode cX4_why 37 = .ok (.iload 6, 2) := by decide +kernel
theorem dX4_why_39 : decode cX4_why 39 = .ok (.aload_n 0, 1) := by decide +kernel
theorem dX4_why_40 : decode cX4_why 40 = .ok (.getfield 74, 3) := by decide +kernel
theorem dX4_why_43 : decode cX4_why 43 = .ok (.if_icmp .ge 36, 3) := by decide +kernel
theorem dX4_why_46 : decode cX4_why 46 = .ok (.iload_n 1, 1) := by decide +kernel
theorem dX4_why_47 : decode cX4_why 47 = .ok (.iload 6, 2) := by decide +kernel
theorem dX4_why_49 : decode cX4_why 49 = .ok (.ishr, 1) := by decide +kernel
theorem dX4_why_50 : decode cX4_why 50 = .ok (.iconst 1, 1) := by decide +kernel
theorem dX4_why_51 : decode cX4_why 51 = .ok (.iand, 1) := by decide +kernel
theorem dX4_why_52 : decode cX4_why 52 = .ok (.iconst 1, 1) := by decide +kernel
theorem dX4_why_53 : decode cX4_why 53 = .ok (.if_icmp .ne 20, 3) := by decide +kernel
theorem dX4_why_56 : decode cX4_why 56 = .ok (.iload 5, 2) := by decide +kernel
theorem dX4_why_58 : decode cX4_why 58 = .ok (.aload_n 0, 1) := by decide +kernel
theorem dX4_why_59 : decode cX4_why 59 = .ok (.getfield 59, 3) := by decide +kernel
theorem dX4_why_62 : decode cX4_why 62 = .ok (.iload 6, 2) := by decide +kernel
theorem dX4_why_64 : decode cX4_why 64 = .ok (.iaload, 1) := by decide +kernel
theorem dX4_why_65 : decode cX4_why 65 = .ok (.iload 4, 2) := by decide +kernel
theorem dX4_why_67 : decode cX4_why 67 = .ok (.ishr, 1) := by decide +kernel
theorem dX4_why_68 : decode cX4_why 68 = .ok (.iconst 1, 1) := by decide +kernel
theorem dX4_why_69 : decode cX4_why 69 = .ok (.iand, 1) := by decide +kernel
theorem dX4_why_70 : decode cX4_why 70 = .ok (.iadd, 1) := by decide +kernel
theorem dX4_why_71 : decode cX4_why 71 = .ok (.istore 5, 2) := by decide +kernel
theorem dX4_why_73 : decode cX4_why 73 = .ok (.iinc 6 1, 3) := by decide +kernel
theorem dX4_why_76 : decode cX4_why 76 = .ok (.goto (-39), 3) := by decide +kernel
theorem dX4_why_79 : decode cX4_why 79 = .ok (.iload 5, 2) := by decide +kernel
theorem dX4_why_81 : decode cX4_why 81 = .ok (.aload_n 0, 1) := by decide +kernel
theorem dX4_why_82 : decode cX4_why 82 = .ok (.getfield 91, 3) := by decide +kernel
theorem dX4_why_85 : decode cX4_why 85 = .ok (.if_icmp .ge 5, 3) := by decide +kernel
theorem dX4_why_88 : decode cX4_why 88 = .ok (.iconst 2, 1) := by decide +kernel
theorem dX4_why_89 : decode cX4_why 89 = .ok (.istore_n 3, 1) := by decide +kernel
theorem dX4_why_90 : decode cX4_why 90 = .ok (.iload 5, 2) := by decide +kernel
theorem dX4_why_92 : decode cX4_why 92 = .ok (.aload_n 0, 1) := by decide +kernel
theorem dX4_why_93 : decode cX4_why 93 = .ok (.getfield 44, 3) := by decide +kernel
theorem dX4_why_96 : decode cX4_why 96 = .ok (.if_icmp .le 5, 3) := by decide +kernel
theorem dX4_why_99 : decode cX4_why 99 = .ok (.iconst 3, 1) := by decide +kernel
theorem dX4_why_100 : decode cX4_why 100 = .ok (.istore_n 2, 1) := by decide +kernel
theorem dX4_why_101 : decode cX4_why 101 = .ok (.iinc 4 1, 3) := by decide +kernel
theorem dX4_why_104 : decode cX4_why 104 = .ok (.goto (-97), 3) := by decide +kernel
theorem dX4_why_107 : decode cX4_why 107 = .ok (.iload_n 3, 1) := by decide +kernel
theorem dX4_why_108 : decode cX4_why 108 = .ok (.ifCond .le 7, 3) := by decide +kernel
theorem dX4_why_111 : decode cX4_why 111 = .ok (.iload_n 3, 1) := by decide +kernel
theorem dX4_why_112 : decode cX4_why 112 = .ok (.goto 4, 3) := by decide +kernel
theorem dX4_why_115 : decode cX4_why 115 = .ok (.iload_n 2, 1) := by decide +kernel
theorem dX4_why_116 : decode cX4_why 116 = .ok (.ireturn, 1) := by decide +kernel
set_option maxRecDepth 20000 in
theorem ggX4_wrong_X4_good : GoodIn wsX4_wrong wsX4_good := goodIn_r _ [7, 8, 9, 10, 11, 6, 12, 13, 14, 15, 16, 17, 18, 19, 20, 21, 22, 23, 24, 25, 26, 27, 28, 46, 47, 48, 49, 50, 51, 52, 53, 54, 55, 56, 57, 58, 59, 60, 61, 62, 63, 64, 65, 66, 67, 68, 69, 70, 71, 72] (by decide +kernel) (by decide +kernel)
set_option maxRecDepth 20000 in
theorem gX4_wrong_X4_good : GoodIn wsX4_wrong (wsV RX4 117 RX4 yX4_good wsX4_good) := goodIn_app (goodIn_of _ (by decide +kernel)) ggX4_wrong_X4_good
set_option maxRecDepth 20000 in
theorem ggX4_wrong_X4_takeSeen : GoodIn wsX4_wrong wsX4_takeSeen := goodIn_r _ [32, 33, 8, 34, 35, 36, 37, 6, 38, 13, 27, 9, 10, 11, 12, 14, 15, 16, 17, 18, 19, 20, 21, 22, 23, 24, 25, 26, 28, 46, 47, 48, 49, 50, 51, 52, 53, 54, 55, 56, 57, 58, 59, 60, 61, 62, 63, 64, 65, 66, 67, 68, 69, 70, 71, 72] (by decide +kernel) (by decide +kernel)
set_option maxRecDepth 20000 in
theorem gX4_wrong_X4_takeSeen : GoodIn wsX4_wrong (wsV RX4 137 RX4 yX4_takeSeen wsX4_takeSeen) := goodIn_app (goodIn_of _ (by decide +kernel)) ggX4_wrong_X4_takeSeen
set_option maxRecDepth 20000 in
theorem ggX4_wrong_X4_why : GoodIn wsX4_wrong wsX4_why := goodIn_r _ [42, 43, 33, 8, 34, 44, 45, 46, 47, 48, 49, 50, 51, 52, 53, 54, 55, 56, 57, 58, 59, 60, 61, 62, 63, 64, 65, 66, 67, 68, 69, 70, 71, 72] (by decide +kernel) (by decide +kernel)
set_option maxRecDepth 20000 in
theorem gX4_wrong_X4_why : GoodIn wsX4_wrong (wsV RX4 140 RX4 yX4_why wsX4_why) := goodIn_app (goodIn_of _ (by decide +kernel)) ggX4_wrong_X4_why
theorem dX4_wrong_0 : decode cX4_wrong 0 = .ok (.aload_n 0, 1) := by decide +kernel
theorem dX4_wrong_1 : decode cX4_wrong 1 = .ok (.iconst 0, 1) := by decide +kernel
theorem dX4_wrong_2 : decode cX4_wrong 2 = .ok (.putfield 71, 3) := by decide +kernel
theorem dX4_wrong_5 : decode cX4_wrong 5 = .ok (.aload_n 0, 1) := by decide +kernel
theorem dX4_wrong_6 : decode cX4_wrong 6 = .ok (.getfield 108, 3) := by decide +kernel
theorem dX4_wrong_9 : decode cX4_wrong 9 = .ok (.aload_n 0, 1) := by decide +kernel
theorem dX4_wrong_10 : decode cX4_wrong 10 = .ok (.invokevirtual 117, 3) := by decide +kernel
theorem dX4_wrong_13 : decode cX4_wrong 13 = .ok (.iconst (-1), 1) := by decide +kernel
theorem dX4_wrong_14 : decode cX4_wrong 14 = .ok (.ixor, 1) := by decide +kernel
theorem dX4_wrong_15 : decode cX4_wrong 15 = .ok (.iand, 1) := by decide +kernel
theorem dX4_wrong_16 : decode cX4_wrong 16 = .ok (.ifCond .eq 5, 3) := by decide +kernel
theorem dX4_wrong_19 : decode cX4_wrong 19 = .ok (.iconst 1, 1) := by decide +kernel
theorem dX4_wrong_20 : decode cX4_wrong 20 = .ok (.ireturn, 1) := by decide +kernel
theorem dX4_wrong_21 : decode cX4_wrong 21 = .ok (.aload_n 0, 1) := by decide +kernel
theorem dX4_wrong_22 : decode cX4_wrong 22 = .ok (.invokevirtual 137, 3) := by decide +kernel
theorem dX4_wrong_25 : decode cX4_wrong 25 = .ok (.aload_n 0, 1) := by decide +kernel
theorem dX4_wrong_26 : decode cX4_wrong 26 = .ok (.aload_n 0, 1) := by decide +kernel
theorem dX4_wrong_27 : decode cX4_wrong 27 = .ok (.getfield 108, 3) := by decide +kernel
theorem dX4_wrong_30 : decode cX4_wrong 30 = .ok (.invokevirtual 140, 3) := by decide +kernel
theorem dX4_wrong_33 : decode cX4_wrong 33 = .ok (.ireturn, 1) := by decide +kernel
set_option maxRecDepth 20000 in
theorem ggX4_search_X4_good : GoodIn wsX4_search wsX4_good := goodIn_r _ [6, 1, 7, 8, 9, 5, 10, 11, 12, 13, 14, 15, 16, 17, 18, 19, 20, 21, 22, 23, 24, 25, 26, 61, 62, 63, 64, 65, 66, 67, 68, 69, 70, 71, 72, 73, 74, 75, 76, 77, 78, 79, 80, 81, 82, 83, 84, 85, 86, 87] (by decide +kernel) (by decide +kernel)
set_option maxRecDepth 20000 in
theorem gX4_search_X4_good : GoodIn wsX4_search (wsV RX4 117 RX4 yX4_good wsX4_good) := goodIn_app (goodIn_of _ (by decide +kernel)) ggX4_search_X4_good
set_option maxRecDepth 20000 in
theorem ggX4_search_X4_takeSeen : GoodIn wsX4_search wsX4_takeSeen := goodIn_r _ [30, 31, 1, 32, 33, 34, 35, 5, 36, 11, 25, 7, 8, 9, 10, 12, 13, 14, 15, 16, 17, 18, 19, 20, 21, 22, 23, 24, 26, 61, 62, 63, 64, 65, 66, 67, 68, 69, 70, 71, 72, 73, 74, 75, 76, 77, 78, 79, 80, 81, 82, 83, 84, 85, 86, 87] (by decide +kernel) (by decide +kernel)
set_option maxRecDepth 20000 in
theorem gX4_search_X4_takeSeen : GoodIn wsX4_search (wsV RX4 137 RX4 yX4_takeSeen wsX4_takeSeen) := goodIn_app (goodIn_of _ (by decide +kernel)) ggX4_search_X4_takeSeen
set_option maxRecDepth 20000 in
theorem ggX4_search_X4_why : GoodIn wsX4_search wsX4_why := goodIn_r _ [40, 41, 31, 1, 32, 42, 43, 61, 62, 63, 64, 65, 66, 67, 68, 69, 70, 71, 72, 73, 74, 75, 76, 77, 78, 79, 80, 81, 82, 83, 84, 85, 86, 87] (by decide +kernel) (by decide +kernel)
set_option maxRecDepth 20000 in
theorem gX4_search_X4_why : GoodIn wsX4_search (wsV RX4 140 RX4 yX4_why wsX4_why) := goodIn_app (goodIn_of _ (by decide +kernel)) ggX4_search_X4_why
set_option maxRecDepth 20000 in
theorem ggX4_search_X4_isAhead : GoodIn wsX4_search wsX4_isAhead := goodIn_r _ [47, 48, 49, 50, 51, 52, 53, 54, 55, 56, 57, 58, 5, 59, 1, 60, 61, 62, 63, 64, 65, 66, 67, 68, 69, 70, 71, 72, 73, 74, 75, 76, 77, 78, 79, 80, 81, 82, 83, 84, 85, 86, 87] (by decide +kernel) (by decide +kernel)
set_option maxRecDepth 20000 in
theorem gX4_search_X4_isAhead : GoodIn wsX4_search (wsV RX4 143 RX4 yX4_isAhead wsX4_isAhead) := goodIn_app (goodIn_of _ (by decide +kernel)) ggX4_search_X4_isAhead
theorem dX4_search_0 : decode cX4_search 0 = .ok (.aload_n 0, 1) := by decide +kernel
theorem dX4_search_1 : decode cX4_search 1 = .ok (.invokevirtual 117, 3) := by decide +kernel
theorem dX4_search_4 : decode cX4_search 4 = .ok (.istore_n 2, 1) := by decide +kernel
theorem dX4_search_5 : decode cX4_search 5 = .ok (.aload_n 0, 1) := by decide +kernel
theorem dX4_search_6 : decode cX4_search 6 = .ok (.invokevirtual 137, 3) := by decide +kernel
theorem dX4_search_9 : decode cX4_search 9 = .ok (.iconst (-1), 1) := by decide +kernel
theorem dX4_search_10 : decode cX4_search 10 = .ok (.istore_n 3, 1) := by decide +kernel
theorem dX4_search_11 : decode cX4_search 11 = .ok (.iconst 0, 1) := by decide +kernel
theorem dX4_search_12 : decode cX4_search 12 = .ok (.istore 4, 2) := by decide +kernel
theorem dX4_search_14 : decode cX4_search 14 = .ok (.iload 4, 2) := by decide +kernel
theorem dX4_search_16 : decode cX4_search 16 = .ok (.iconst 1, 1) := by decide +kernel
theorem dX4_search_17 : decode cX4_search 17 = .ok (.aload_n 0, 1) := by decide +kernel
theorem dX4_search_18 : decode cX4_search 18 = .ok (.getfield 74, 3) := by decide +kernel
theorem dX4_search_21 : decode cX4_search 21 = .ok (.ishl, 1) := by decide +kernel
theorem dX4_search_22 : decode cX4_search 22 = .ok (.if_icmp .ge 49, 3) := by decide +kernel
theorem dX4_search_25 : decode cX4_search 25 = .ok (.iload 4, 2) := by decide +kernel
theorem dX4_search_27 : decode cX4_search 27 = .ok (.iload_n 2, 1) := by decide +kernel
theorem dX4_search_28 : decode cX4_search 28 = .ok (.iconst (-1), 1) := by decide +kernel
theorem dX4_search_29 : decode cX4_search 29 = .ok (.ixor, 1) := by decide +kernel
theorem dX4_search_30 : decode cX4_search 30 = .ok (.iand, 1) := by decide +kernel
theorem dX4_search_31 : decode cX4_search 31 = .ok (.ifCond .ne 34, 3) := by decide +kernel
theorem dX4_search_34 : decode cX4_search 34 = .ok (.aload_n 0, 1) := by decide +kernel
theorem dX4_search_35 : decode cX4_search 35 = .ok (.iload 4, 2) := by decide +kernel
theorem dX4_search_37 : decode cX4_search 37 = .ok (.invokevirtual 140, 3) := by decide +kernel
theorem dX4_search_40 : decode cX4_search 40 = .ok (.ifCond .le 6, 3) := by decide +kernel
theorem dX4_search_43 : decode cX4_search 43 = .ok (.goto 22, 3) := by decide +kernel
theorem dX4_search_46 : decode cX4_search 46 = .ok (.iload_n 3, 1) := by decide +kernel
theorem dX4_search_47 : decode cX4_search 47 = .ok (.iconst (-1), 1) := by decide +kernel
theorem dX4_search_48 : decode cX4_search 48 = .ok (.if_icmp .eq 14, 3) := by decide +kernel
theorem dX4_search_51 : decode cX4_search 51 = .ok (.aload_n 0, 1) := by decide +kernel
theorem dX4_search_52 : decode cX4_search 52 = .ok (.iload 4, 2) := by decide +kernel
theorem dX4_search_54 : decode cX4_search 54 = .ok (.iload_n 3, 1) := by decide +kernel
theorem dX4_search_55 : decode cX4_search 55 = .ok (.iload_n 1, 1) := by decide +kernel
theorem dX4_search_56 : decode cX4_search 56 = .ok (.invokevirtual 143, 3) := by decide +kernel
theorem dX4_search_59 : decode cX4_search 59 = .ok (.ifCond .eq 6, 3) := by decide +kernel
theorem dX4_search_62 : decode cX4_search 62 = .ok (.iload 4, 2) := by decide +kernel
theorem dX4_search_64 : decode cX4_search 64 = .ok (.istore_n 3, 1) := by decide +kernel
theorem dX4_search_65 : decode cX4_search 65 = .ok (.iinc 4 1, 3) := by decide +kernel
theorem dX4_search_68 : decode cX4_search 68 = .ok (.goto (-54), 3) := by decide +kernel
theorem dX4_search_71 : decode cX4_search 71 = .ok (.iload_n 3, 1) := by decide +kernel
theorem dX4_search_72 : decode cX4_search 72 = .ok (.ireturn, 1) := by decide +kernel
set_option maxRecDepth 20000 in
theorem ggX4_isAhead_J6_bitCount_0f7a4 : GoodIn wsX4_isAhead wsJ6_bitCount_0f7a4 := goodIn_r _ [5, 6, 7, 8] (by decide +kernel) (by decide +kernel)
set_option maxRecDepth 20000 in
theorem gX4_isAhead_J6_bitCount_0f7a4 : GoodIn wsX4_isAhead (va_wsS RX4 147 yJ6_bitCount_0f7a4 wsJ6_bitCount_0f7a4) := goodIn_app (goodIn_of _ (by decide +kernel)) ggX4_isAhead_J6_bitCount_0f7a4
set_option maxRecDepth 20000 in
theorem ggX4_isAhead_X4_sum : GoodIn wsX4_isAhead wsX4_sum := goodIn_r _ [13, 14, 15, 16, 17, 18, 19, 20, 21, 22, 23, 24, 25, 26, 27, 28, 29, 30, 31, 32, 33, 34, 35, 36, 37, 38, 39, 40, 41, 42] (by decide +kernel) (by decide +kernel)
set_option maxRecDepth 20000 in
theorem gX4_isAhead_X4_sum : GoodIn wsX4_isAhead (wsV RX4 111 RX4 yX4_sum wsX4_sum) := goodIn_app (goodIn_of _ (by decide +kernel)) ggX4_isAhead_X4_sum
theorem dX4_isAhead_0 : decode cX4_isAhead 0 = .ok (.iload_n 3, 1) := by decide +kernel
theorem dX4_isAhead_1 : decode cX4_isAhead 1 = .ok (.ifCond .eq 15, 3) := by decide +kernel
theorem dX4_isAhead_4 : decode cX4_isAhead 4 = .ok (.iload_n 1, 1) := by decide +kernel
theorem dX4_isAhead_5 : decode cX4_isAhead 5 = .ok (.aload_n 0, 1) := by decide +kernel
theorem dX4_isAhead_6 : decode cX4_isAhead 6 = .ok (.getfield 108, 3) := by decide +kernel
theorem dX4_isAhead_9 : decode cX4_isAhead 9 = .ok (.ixor, 1) := by decide +kernel
theorem dX4_isAhead_10 : decode cX4_isAhead 10 = .ok (.invokestatic 147, 3) := by decide +kernel
theorem dX4_isAhead_13 : decode cX4_isAhead 13 = .ok (.goto 4, 3) := by decide +kernel
theorem dX4_isAhead_16 : decode cX4_isAhead 16 = .ok (.iconst 0, 1) := by decide +kernel
theorem dX4_isAhead_17 : decode cX4_isAhead 17 = .ok (.istore 4, 2) := by decide +kernel
theorem dX4_isAhead_19 : decode cX4_isAhead 19 = .ok (.iload_n 3, 1) := by decide +kernel
theorem dX4_isAhead_20 : decode cX4_isAhead 20 = .ok (.ifCond .eq 15, 3) := by decide +kernel
theorem dX4_isAhead_23 : decode cX4_isAhead 23 = .ok (.iload_n 2, 1) := by decide +kernel
theorem dX4_isAhead_24 : decode cX4_isAhead 24 = .ok (.aload_n 0, 1) := by decide +kernel
theorem dX4_isAhead_25 : decode cX4_isAhead 25 = .ok (.getfield 108, 3) := by decide +kernel
theorem dX4_isAhead_28 : decode cX4_isAhead 28 = .ok (.ixor, 1) := by decide +kernel
theorem dX4_isAhead_29 : decode cX4_isAhead 29 = .ok (.invokestatic 147, 3) := by decide +kernel
theorem dX4_isAhead_32 : decode cX4_isAhead 32 = .ok (.goto 4, 3) := by decide +kernel
theorem dX4_isAhead_35 : decode cX4_isAhead 35 = .ok (.iconst 0, 1) := by decide +kernel
theorem dX4_isAhead_36 : decode cX4_isAhead 36 = .ok (.istore 5, 2) := by decide +kernel
theorem dX4_isAhead_38 : decode cX4_isAhead 38 = .ok (.iload 4, 2) := by decide +kernel
theorem dX4_isAhead_40 : decode cX4_isAhead 40 = .ok (.iload 5, 2) := by decide +kernel
theorem dX4_isAhead_42 : decode cX4_isAhead 42 = .ok (.if_icmp .eq 16, 3) := by decide +kernel
theorem dX4_isAhead_45 : decode cX4_isAhead 45 = .ok (.iload 4, 2) := by decide +kernel
theorem dX4_isAhead_47 : decode cX4_isAhead 47 = .ok (.iload 5, 2) := by decide +kernel
theorem dX4_isAhead_49 : decode cX4_isAhead 49 = .ok (.if_icmp .ge 7, 3) := by decide +kernel
theorem dX4_isAhead_52 : decode cX4_isAhead 52 = .ok (.iconst 1, 1) := by decide +kernel
theorem dX4_isAhead_53 : decode cX4_isAhead 53 = .ok (.goto 4, 3) := by decide +kernel
theorem dX4_isAhead_56 : decode cX4_isAhead 56 = .ok (.iconst 0, 1) := by decide +kernel
theorem dX4_isAhead_57 : decode cX4_isAhead 57 = .ok (.ireturn, 1) := by decide +kernel
theorem dX4_isAhead_58 : decode cX4_isAhead 58 = .ok (.aload_n 0, 1) := by decide +kernel
theorem dX4_isAhead_59 : decode cX4_isAhead 59 = .ok (.iload_n 1, 1) := by decide +kernel
theorem dX4_isAhead_60 : decode cX4_isAhead 60 = .ok (.invokevirtual 111, 3) := by decide +kernel
theorem dX4_isAhead_63 : decode cX4_isAhead 63 = .ok (.aload_n 0, 1) := by decide +kernel
theorem dX4_isAhead_64 : decode cX4_isAhead 64 = .ok (.iload_n 2, 1) := by decide +kernel
theorem dX4_isAhead_65 : decode cX4_isAhead 65 = .ok (.invokevirtual 111, 3) := by decide +kernel
theorem dX4_isAhead_68 : decode cX4_isAhead 68 = .ok (.if_icmp .eq 22, 3) := by decide +kernel
theorem dX4_isAhead_71 : decode cX4_isAhead 71 = .ok (.aload_n 0, 1) := by decide +kernel
theorem dX4_isAhead_72 : decode cX4_isAhead 72 = .ok (.iload_n 1, 1) := by decide +kernel
theorem dX4_isAhead_73 : decode cX4_isAhead 73 = .ok (.invokevirtual 111, 3) := by decide +kernel
theorem dX4_isAhead_76 : decode cX4_isAhead 76 = .ok (.aload_n 0, 1) := by decide +kernel
theorem dX4_isAhead_77 : decode cX4_isAhead 77 = .ok (.iload_n 2, 1) := by decide +kernel
theorem dX4_isAhead_78 : decode cX4_isAhead 78 = .ok (.invokevirtual 111, 3) := by decide +kernel
theorem dX4_isAhead_81 : decode cX4_isAhead 81 = .ok (.if_icmp .le 7, 3) := by decide +kernel
theorem dX4_isAhead_84 : decode cX4_isAhead 84 = .ok (.iconst 1, 1) := by decide +kernel
theorem dX4_isAhead_85 : decode cX4_isAhead 85 = .ok (.goto 4, 3) := by decide +kernel
theorem dX4_isAhead_88 : decode cX4_isAhead 88 = .ok (.iconst 0, 1) := by decide +kernel
theorem dX4_isAhead_89 : decode cX4_isAhead 89 = .ok (.ireturn, 1) := by decide +kernel
theorem dX4_isAhead_90 : decode cX4_isAhead 90 = .ok (.iload_n 1, 1) := by decide +kernel
theorem dX4_isAhead_91 : decode cX4_isAhead 91 = .ok (.invokestatic 147, 3) := by decide +kernel
theorem dX4_isAhead_94 : decode cX4_isAhead 94 = .ok (.iload_n 2, 1) := by decide +kernel
theorem dX4_isAhead_95 : decode cX4_isAhead 95 = .ok (.invokestatic 147, 3) := by decide +kernel
theorem dX4_isAhead_98 : decode cX4_isAhead 98 = .ok (.if_icmp .ge 7, 3) := by decide +kernel
theorem dX4_isAhead_101 : decode cX4_isAhead 101 = .ok (.iconst 1, 1) := by decide +kernel
theorem dX4_isAhead_102 : decode cX4_isAhead 102 = .ok (.goto 4, 3) := by decide +kernel
theorem dX4_isAhead_105 : decode cX4_isAhead 105 = .ok (.iconst 0, 1) := by decide +kernel
theorem dX4_isAhead_106 : decode cX4_isAhead 106 = .ok (.ireturn, 1) := by decide +kernel
set_option maxRecDepth 20000 in
theorem ggX4_best_X4_search : GoodIn wsX4_best wsX4_search := goodIn_r _ [8, 9, 10, 11, 12, 7, 13, 14, 15, 16, 17, 18, 19, 20, 21, 22, 23, 24, 25, 26, 27, 28, 29, 30, 31, 32, 33, 34, 35, 36, 37, 38, 39, 40, 41, 42, 43, 44, 45, 46, 47, 48, 49, 50, 51, 52, 53, 54, 2, 55, 56, 57, 58, 59, 60, 61, 62, 63, 64, 65, 66, 67, 68, 69, 70, 71, 72, 73, 74, 75, 76, 77, 78, 79, 80, 81, 82, 83, 84, 85, 86, 87, 88, 89, 90, 91, 92, 93] (by decide +kernel) (by decide +kernel)
set_option maxRecDepth 20000 in
theorem gX4_best_X4_search : GoodIn wsX4_best (wsV RX4 152 RX4 yX4_search wsX4_search) := goodIn_app (goodIn_of _ (by decide +kernel)) ggX4_best_X4_search
set_option maxRecDepth 20000 in
theorem ggX4_best_X4_sum : GoodIn wsX4_best wsX4_sum := goodIn_r _ [65, 9, 66, 67, 68, 69, 70, 71, 72, 73, 74, 75, 76, 77, 78, 79, 80, 81, 82, 83, 84, 85, 86, 87, 88, 89, 90, 91, 92, 93] (by decide +kernel) (by decide +kernel)
set_option maxRecDepth 20000 in
theorem gX4_best_X4_sum : GoodIn wsX4_best (wsV RX4 111 RX4 yX4_sum wsX4_sum) := goodIn_app (goodIn_of _ (by decide +kernel)) ggX4_best_X4_sum
theorem dX4_best_0 : decode cX4_best 0 = .ok (.aload_n 0, 1) := by decide +kernel
theorem dX4_best_1 : decode cX4_best 1 = .ok (.iconst 0, 1) := by decide +kernel
theorem dX4_best_2 : decode cX4_best 2 = .ok (.putfield 71, 3) := by decide +kernel
theorem dX4_best_5 : decode cX4_best 5 = .ok (.aload_n 0, 1) := by decide +kernel
theorem dX4_best_6 : decode cX4_best 6 = .ok (.iconst 0, 1) := by decide +kernel
theorem dX4_best_7 : decode cX4_best 7 = .ok (.invokevirtual 152, 3) := by decide +kernel
theorem dX4_best_10 : decode cX4_best 10 = .ok (.istore_n 1, 1) := by decide +kernel
theorem dX4_best_11 : decode cX4_best 11 = .ok (.iload_n 1, 1) := by decide +kernel
theorem dX4_best_12 : decode cX4_best 12 = .ok (.iconst (-1), 1) := by decide +kernel
theorem dX4_best_13 : decode cX4_best 13 = .ok (.if_icmp .ne 5, 3) := by decide +kernel
theorem dX4_best_16 : decode cX4_best 16 = .ok (.iconst (-1), 1) := by decide +kernel
theorem dX4_best_17 : decode cX4_best 17 = .ok (.ireturn, 1) := by decide +kernel
theorem dX4_best_18 : decode cX4_best 18 = .ok (.aload_n 0, 1) := by decide +kernel
theorem dX4_best_19 : decode cX4_best 19 = .ok (.iload_n 1, 1) := by decide +kernel
theorem dX4_best_20 : decode cX4_best 20 = .ok (.putfield 108, 3) := by decide +kernel
theorem dX4_best_23 : decode cX4_best 23 = .ok (.aload_n 0, 1) := by decide +kernel
theorem dX4_best_24 : decode cX4_best 24 = .ok (.iconst 0, 1) := by decide +kernel
theorem dX4_best_25 : decode cX4_best 25 = .ok (.putfield 114, 3) := by decide +kernel
theorem dX4_best_28 : decode cX4_best 28 = .ok (.aload_n 0, 1) := by decide +kernel
theorem dX4_best_29 : decode cX4_best 29 = .ok (.aload_n 0, 1) := by decide +kernel
theorem dX4_best_30 : decode cX4_best 30 = .ok (.getfield 108, 3) := by decide +kernel
theorem dX4_best_33 : decode cX4_best 33 = .ok (.invokevirtual 111, 3) := by decide +kernel
theorem dX4_best_36 : decode cX4_best 36 = .ok (.ireturn, 1) := by decide +kernel
set_option maxRecDepth 20000 in
theorem ggX4_mend_X4_search : GoodIn wsX4_mend wsX4_search := goodIn_r _ [8, 9, 10, 11, 12, 7, 13, 14, 15, 16, 17, 18, 19, 20, 21, 22, 23, 24, 25, 26, 27, 28, 29, 30, 31, 32, 33, 34, 35, 36, 37, 38, 39, 40, 41, 42, 43, 44, 45, 46, 47, 48, 49, 50, 51, 52, 53, 54, 2, 55, 56, 57, 58, 59, 60, 61, 62, 63, 64, 65, 66, 67, 68, 69, 70, 71, 72, 73, 74, 75, 76, 77, 78, 79, 80, 81, 82, 83, 84, 85, 86, 87, 88, 89, 90, 91, 92, 93] (by decide +kernel) (by decide +kernel)
set_option maxRecDepth 20000 in
theorem gX4_mend_X4_search : GoodIn wsX4_mend (wsV RX4 152 RX4 yX4_search wsX4_search) := goodIn_app (goodIn_of _ (by decide +kernel)) ggX4_mend_X4_search
set_option maxRecDepth 20000 in
theorem ggX4_mend_J6_bitCount_0f7a4 : GoodIn wsX4_mend wsJ6_bitCount_0f7a4 := goodIn_r _ [58, 59, 60, 61] (by decide +kernel) (by decide +kernel)
set_option maxRecDepth 20000 in
theorem gX4_mend_J6_bitCount_0f7a4 : GoodIn wsX4_mend (va_wsS RX4 147 yJ6_bitCount_0f7a4 wsJ6_bitCount_0f7a4) := goodIn_app (goodIn_of _ (by decide +kernel)) ggX4_mend_J6_bitCount_0f7a4
theorem dX4_mend_0 : decode cX4_mend 0 = .ok (.aload_n 0, 1) := by decide +kernel
theorem dX4_mend_1 : decode cX4_mend 1 = .ok (.iconst 0, 1) := by decide +kernel
theorem dX4_mend_2 : decode cX4_mend 2 = .ok (.putfield 71, 3) := by decide +kernel
theorem dX4_mend_5 : decode cX4_mend 5 = .ok (.aload_n 0, 1) := by decide +kernel
theorem dX4_mend_6 : decode cX4_mend 6 = .ok (.iconst 1, 1) := by decide +kernel
theorem dX4_mend_7 : decode cX4_mend 7 = .ok (.invokevirtual 152, 3) := by decide +kernel
theorem dX4_mend_10 : decode cX4_mend 10 = .ok (.istore_n 1, 1) := by decide +kernel
theorem dX4_mend_11 : decode cX4_mend 11 = .ok (.iload_n 1, 1) := by decide +kernel
theorem dX4_mend_12 : decode cX4_mend 12 = .ok (.iconst (-1), 1) := by decide +kernel
theorem dX4_mend_13 : decode cX4_mend 13 = .ok (.if_icmp .ne 5, 3) := by decide +kernel
theorem dX4_mend_16 : decode cX4_mend 16 = .ok (.iconst (-1), 1) := by decide +kernel
theorem dX4_mend_17 : decode cX4_mend 17 = .ok (.ireturn, 1) := by decide +kernel
theorem dX4_mend_18 : decode cX4_mend 18 = .ok (.iload_n 1, 1) := by decide +kernel
theorem dX4_mend_19 : decode cX4_mend 19 = .ok (.aload_n 0, 1) := by decide +kernel
theorem dX4_mend_20 : decode cX4_mend 20 = .ok (.getfield 108, 3) := by decide +kernel
theorem dX4_mend_23 : decode cX4_mend 23 = .ok (.ixor, 1) := by decide +kernel
theorem dX4_mend_24 : decode cX4_mend 24 = .ok (.invokestatic 147, 3) := by decide +kernel
theorem dX4_mend_27 : decode cX4_mend 27 = .ok (.istore_n 2, 1) := by decide +kernel
theorem dX4_mend_28 : decode cX4_mend 28 = .ok (.aload_n 0, 1) := by decide +kernel
theorem dX4_mend_29 : decode cX4_mend 29 = .ok (.iload_n 1, 1) := by decide +kernel
theorem dX4_mend_30 : decode cX4_mend 30 = .ok (.putfield 108, 3) := by decide +kernel
theorem dX4_mend_33 : decode cX4_mend 33 = .ok (.aload_n 0, 1) := by decide +kernel
theorem dX4_mend_34 : decode cX4_mend 34 = .ok (.iconst 0, 1) := by decide +kernel
theorem dX4_mend_35 : decode cX4_mend 35 = .ok (.putfield 114, 3) := by decide +kernel
theorem dX4_mend_38 : decode cX4_mend 38 = .ok (.iload_n 2, 1) := by decide +kernel
theorem dX4_mend_39 : decode cX4_mend 39 = .ok (.ireturn, 1) := by decide +kernel
set_option maxRecDepth 20000 in
theorem ggX4_choices_X4_good : GoodIn wsX4_choices wsX4_good := goodIn_r _ [7, 2, 8, 9, 10, 6, 11, 12, 13, 14, 15, 16, 17, 18, 19, 20, 21, 22, 23, 24, 25, 26, 27, 45, 46, 47, 48, 49, 50, 51, 52, 53, 54, 55, 56, 57, 58, 59, 60, 61, 62, 63, 64, 65, 66, 67, 68, 69, 70, 71] (by decide +kernel) (by decide +kernel)
set_option maxRecDepth 20000 in
theorem gX4_choices_X4_good : GoodIn wsX4_choices (wsV RX4 117 RX4 yX4_good wsX4_good) := goodIn_app (goodIn_of _ (by decide +kernel)) ggX4_choices_X4_good
set_option maxRecDepth 20000 in
theorem ggX4_choices_X4_takeSeen : GoodIn wsX4_choices wsX4_takeSeen := goodIn_r _ [31, 32, 2, 33, 34, 35, 36, 6, 37, 12, 26, 8, 9, 10, 11, 13, 14, 15, 16, 17, 18, 19, 20, 21, 22, 23, 24, 25, 27, 45, 46, 47, 48, 49, 50, 51, 52, 53, 54, 55, 56, 57, 58, 59, 60, 61, 62, 63, 64, 65, 66, 67, 68, 69, 70, 71] (by decide +kernel) (by decide +kernel)
set_option maxRecDepth 20000 in
theorem gX4_choices_X4_takeSeen : GoodIn wsX4_choices (wsV RX4 137 RX4 yX4_takeSeen wsX4_takeSeen) := goodIn_app (goodIn_of _ (by decide +kernel)) ggX4_choices_X4_takeSeen
set_option maxRecDepth 20000 in
theorem ggX4_choices_X4_why : GoodIn wsX4_choices wsX4_why := goodIn_r _ [41, 42, 32, 2, 33, 43, 44, 45, 46, 47, 48, 49, 50, 51, 52, 53, 54, 55, 56, 57, 58, 59, 60, 61, 62, 63, 64, 65, 66, 67, 68, 69, 70, 71] (by decide +kernel) (by decide +kernel)
set_option maxRecDepth 20000 in
theorem gX4_choices_X4_why : GoodIn wsX4_choices (wsV RX4 140 RX4 yX4_why wsX4_why) := goodIn_app (goodIn_of _ (by decide +kernel)) ggX4_choices_X4_why
theorem dX4_choices_0 : decode cX4_choices 0 = .ok (.aload_n 0, 1) := by decide +kernel
theorem dX4_choices_1 : decode cX4_choices 1 = .ok (.iconst 0, 1) := by decide +kernel
theorem dX4_choices_2 : decode cX4_choices 2 = .ok (.putfield 71, 3) := by decide +kernel
theorem dX4_choices_5 : decode cX4_choices 5 = .ok (.aload_n 0, 1) := by decide +kernel
theorem dX4_choices_6 : decode cX4_choices 6 = .ok (.invokevirtual 117, 3) := by decide +kernel
theorem dX4_choices_9 : decode cX4_choices 9 = .ok (.istore_n 1, 1) := by decide +kernel
theorem dX4_choices_10 : decode cX4_choices 10 = .ok (.aload_n 0, 1) := by decide +kernel
theorem dX4_choices_11 : decode cX4_choices 11 = .ok (.invokevirtual 137, 3) := by decide +kernel
theorem dX4_choices_14 : decode cX4_choices 14 = .ok (.iconst 0, 1) := by decide +kernel
theorem dX4_choices_15 : decode cX4_choices 15 = .ok (.istore_n 2, 1) := by decide +kernel
theorem dX4_choices_16 : decode cX4_choices 16 = .ok (.iconst 0, 1) := by decide +kernel
theorem dX4_choices_17 : decode cX4_choices 17 = .ok (.istore_n 3, 1) := by decide +kernel
theorem dX4_choices_18 : decode cX4_choices 18 = .ok (.iload_n 3, 1) := by decide +kernel
theorem dX4_choices_19 : decode cX4_choices 19 = .ok (.iconst 1, 1) := by decide +kernel
theorem dX4_choices_20 : decode cX4_choices 20 = .ok (.aload_n 0, 1) := by decide +kernel
theorem dX4_choices_21 : decode cX4_choices 21 = .ok (.getfield 74, 3) := by decide +kernel
theorem dX4_choices_24 : decode cX4_choices 24 = .ok (.ishl, 1) := by decide +kernel
theorem dX4_choices_25 : decode cX4_choices 25 = .ok (.if_icmp .ge 28, 3) := by decide +kernel
theorem dX4_choices_28 : decode cX4_choices 28 = .ok (.iload_n 3, 1) := by decide +kernel
theorem dX4_choices_29 : decode cX4_choices 29 = .ok (.iload_n 1, 1) := by decide +kernel
theorem dX4_choices_30 : decode cX4_choices 30 = .ok (.iconst (-1), 1) := by decide +kernel
theorem dX4_choices_31 : decode cX4_choices 31 = .ok (.ixor, 1) := by decide +kernel
theorem dX4_choices_32 : decode cX4_choices 32 = .ok (.iand, 1) := by decide +kernel
theorem dX4_choices_33 : decode cX4_choices 33 = .ok (.ifCond .ne 14, 3) := by decide +kernel
theorem dX4_choices_36 : decode cX4_choices 36 = .ok (.aload_n 0, 1) := by decide +kernel
theorem dX4_choices_37 : decode cX4_choices 37 = .ok (.iload_n 3, 1) := by decide +kernel
theorem dX4_choices_38 : decode cX4_choices 38 = .ok (.invokevirtual 140, 3) := by decide +kernel
theorem dX4_choices_41 : decode cX4_choices 41 = .ok (.ifCond .ne 6, 3) := by decide +kernel
theorem dX4_choices_44 : decode cX4_choices 44 = .ok (.iinc 2 1, 3) := by decide +kernel
theorem dX4_choices_47 : decode cX4_choices 47 = .ok (.iinc 3 1, 3) := by decide +kernel
theorem dX4_choices_50 : decode cX4_choices 50 = .ok (.goto (-32), 3) := by decide +kernel
theorem dX4_choices_53 : decode cX4_choices 53 = .ok (.iload_n 2, 1) := by decide +kernel
theorem dX4_choices_54 : decode cX4_choices 54 = .ok (.ireturn, 1) := by decide +kernel
set_option maxRecDepth 20000 in
theorem ggX4_lacking_X4_timesIn : GoodIn wsX4_lacking wsX4_timesIn := goodIn_r _ [9, 3, 10, 11, 12, 8, 13, 14, 15, 16, 17, 18, 19, 20, 21, 22, 23, 24, 25, 26, 27, 28, 29, 30, 31, 32, 33, 34, 35, 36, 37, 38, 39, 40, 41, 42, 43, 44, 45, 46, 47, 48, 49, 50, 51, 52, 53, 54, 55, 56, 57, 58, 59, 60] (by decide +kernel) (by decide +kernel)
set_option maxRecDepth 20000 in
theorem gX4_lacking_X4_timesIn : GoodIn wsX4_lacking (wsV RX4 130 RX4 yX4_timesIn wsX4_timesIn) := goodIn_app (goodIn_of _ (by decide +kernel)) ggX4_lacking_X4_timesIn
theorem dX4_lacking_0 : decode cX4_lacking 0 = .ok (.aload_n 0, 1) := by decide +kernel
theorem dX4_lacking_1 : decode cX4_lacking 1 = .ok (.iconst 0, 1) := by decide +kernel
theorem dX4_lacking_2 : decode cX4_lacking 2 = .ok (.putfield 71, 3) := by decide +kernel
theorem dX4_lacking_5 : decode cX4_lacking 5 = .ok (.iconst 0, 1) := by decide +kernel
theorem dX4_lacking_6 : decode cX4_lacking 6 = .ok (.istore_n 1, 1) := by decide +kernel
theorem dX4_lacking_7 : decode cX4_lacking 7 = .ok (.iload_n 1, 1) := by decide +kernel
theorem dX4_lacking_8 : decode cX4_lacking 8 = .ok (.aload_n 0, 1) := by decide +kernel
theorem dX4_lacking_9 : decode cX4_lacking 9 = .ok (.getfield 81, 3) := by decide +kernel
theorem dX4_lacking_12 : decode cX4_lacking 12 = .ok (.if_icmp .ge 31, 3) := by decide +kernel
theorem dX4_lacking_15 : decode cX4_lacking 15 = .ok (.aload_n 0, 1) := by decide +kernel
theorem dX4_lacking_16 : decode cX4_lacking 16 = .ok (.iconst 1, 1) := by decide +kernel
theorem dX4_lacking_17 : decode cX4_lacking 17 = .ok (.aload_n 0, 1) := by decide +kernel
theorem dX4_lacking_18 : decode cX4_lacking 18 = .ok (.getfield 74, 3) := by decide +kernel
theorem dX4_lacking_21 : decode cX4_lacking 21 = .ok (.ishl, 1) := by decide +kernel
theorem dX4_lacking_22 : decode cX4_lacking 22 = .ok (.iconst 1, 1) := by decide +kernel
theorem dX4_lacking_23 : decode cX4_lacking 23 = .ok (.isub, 1) := by decide +kernel
theorem dX4_lacking_24 : decode cX4_lacking 24 = .ok (.iload_n 1, 1) := by decide +kernel
theorem dX4_lacking_25 : decode cX4_lacking 25 = .ok (.invokevirtual 130, 3) := by decide +kernel
theorem dX4_lacking_28 : decode cX4_lacking 28 = .ok (.aload_n 0, 1) := by decide +kernel
theorem dX4_lacking_29 : decode cX4_lacking 29 = .ok (.getfield 91, 3) := by decide +kernel
theorem dX4_lacking_32 : decode cX4_lacking 32 = .ok (.if_icmp .ge 5, 3) := by decide +kernel
theorem dX4_lacking_35 : decode cX4_lacking 35 = .ok (.iload_n 1, 1) := by decide +kernel
theorem dX4_lacking_36 : decode cX4_lacking 36 = .ok (.ireturn, 1) := by decide +kernel
theorem dX4_lacking_37 : decode cX4_lacking 37 = .ok (.iinc 1 1, 3) := by decide +kernel
theorem dX4_lacking_40 : decode cX4_lacking 40 = .ok (.goto (-33), 3) := by decide +kernel
theorem dX4_lacking_43 : decode cX4_lacking 43 = .ok (.iconst (-1), 1) := by decide +kernel
theorem dX4_lacking_44 : decode cX4_lacking 44 = .ok (.ireturn, 1) := by decide +kernel
theorem dX4_pack_0 : decode cX4_pack 0 = .ok (.iload_n 1, 1) := by decide +kernel
theorem dX4_pack_1 : decode cX4_pack 1 = .ok (.istore_n 2, 1) := by decide +kernel
theorem dX4_pack_2 : decode cX4_pack 2 = .ok (.iload_n 2, 1) := by decide +kernel
theorem dX4_pack_3 : decode cX4_pack 3 = .ok (.ifCond .le 59, 3) := by decide +kernel
theorem dX4_pack_6 : decode cX4_pack 6 = .ok (.aload_n 0, 1) := by decide +kernel
theorem dX4_pack_7 : decode cX4_pack 7 = .ok (.getfield 62, 3) := by decide +kernel
theorem dX4_pack_10 : decode cX4_pack 10 = .ok (.iload_n 2, 1) := by decide +kernel
theorem dX4_pack_11 : decode cX4_pack 11 = .ok (.iconst 0, 1) := by decide +kernel
theorem dX4_pack_12 : decode cX4_pack 12 = .ok (.iastore, 1) := by decide +kernel
theorem dX4_pack_13 : decode cX4_pack 13 = .ok (.iconst 0, 1) := by decide +kernel
theorem dX4_pack_14 : decode cX4_pack 14 = .ok (.istore_n 3, 1) := by decide +kernel
theorem dX4_pack_15 : decode cX4_pack 15 = .ok (.iload_n 3, 1) := by decide +kernel
theorem dX4_pack_16 : decode cX4_pack 16 = .ok (.aload_n 0, 1) := by decide +kernel
theorem dX4_pack_17 : decode cX4_pack 17 = .ok (.getfield 74, 3) := by decide +kernel
theorem dX4_pack_20 : decode cX4_pack 20 = .ok (.if_icmp .ge 33, 3) := by decide +kernel
theorem dX4_pack_23 : decode cX4_pack 23 = .ok (.iload_n 2, 1) := by decide +kernel
theorem dX4_pack_24 : decode cX4_pack 24 = .ok (.iload_n 3, 1) := by decide +kernel
theorem dX4_pack_25 : decode cX4_pack 25 = .ok (.ishr, 1) := by decide +kernel
theorem dX4_pack_26 : decode cX4_pack 26 = .ok (.iconst 1, 1) := by decide +kernel
theorem dX4_pack_27 : decode cX4_pack 27 = .ok (.iand, 1) := by decide +kernel
theorem dX4_pack_28 : decode cX4_pack 28 = .ok (.iconst 1, 1) := by decide +kernel
theorem dX4_pack_29 : decode cX4_pack 29 = .ok (.if_icmp .ne 18, 3) := by decide +kernel
theorem dX4_pack_32 : decode cX4_pack 32 = .ok (.aload_n 0, 1) := by decide +kernel
theorem dX4_pack_33 : decode cX4_pack 33 = .ok (.getfield 62, 3) := by decide +kernel
theorem dX4_pack_36 : decode cX4_pack 36 = .ok (.iload_n 2, 1) := by decide +kernel
theorem dX4_pack_37 : decode cX4_pack 37 = .ok (.dup2, 1) := by decide +kernel
theorem dX4_pack_38 : decode cX4_pack 38 = .ok (.iaload, 1) := by decide +kernel
theorem dX4_pack_39 : decode cX4_pack 39 = .ok (.aload_n 0, 1) := by decide +kernel
theorem dX4_pack_40 : decode cX4_pack 40 = .ok (.getfield 22, 3) := by decide +kernel
theorem dX4_pack_43 : decode cX4_pack 43 = .ok (.iload_n 3, 1) := by decide +kernel
theorem dX4_pack_44 : decode cX4_pack 44 = .ok (.iaload, 1) := by decide +kernel
theorem dX4_pack_45 : decode cX4_pack 45 = .ok (.iadd, 1) := by decide +kernel
theorem dX4_pack_46 : decode cX4_pack 46 = .ok (.iastore, 1) := by decide +kernel
theorem dX4_pack_47 : decode cX4_pack 47 = .ok (.iinc 3 1, 3) := by decide +kernel
theorem dX4_pack_50 : decode cX4_pack 50 = .ok (.goto (-35), 3) := by decide +kernel
theorem dX4_pack_53 : decode cX4_pack 53 = .ok (.iload_n 2, 1) := by decide +kernel
theorem dX4_pack_54 : decode cX4_pack 54 = .ok (.iconst 1, 1) := by decide +kernel
theorem dX4_pack_55 : decode cX4_pack 55 = .ok (.isub, 1) := by decide +kernel
theorem dX4_pack_56 : decode cX4_pack 56 = .ok (.iload_n 1, 1) := by decide +kernel
theorem dX4_pack_57 : decode cX4_pack 57 = .ok (.iand, 1) := by decide +kernel
theorem dX4_pack_58 : decode cX4_pack 58 = .ok (.istore_n 2, 1) := by decide +kernel
theorem dX4_pack_59 : decode cX4_pack 59 = .ok (.goto (-57), 3) := by decide +kernel
theorem dX4_pack_62 : decode cX4_pack 62 = .ok (.aload_n 0, 1) := by decide +kernel
theorem dX4_pack_63 : decode cX4_pack 63 = .ok (.getfield 65, 3) := by decide +kernel
theorem dX4_pack_66 : decode cX4_pack 66 = .ok (.iconst 0, 1) := by decide +kernel
theorem dX4_pack_67 : decode cX4_pack 67 = .ok (.iconst 0, 1) := by decide +kernel
theorem dX4_pack_68 : decode cX4_pack 68 = .ok (.iastore, 1) := by decide +kernel
theorem dX4_pack_69 : decode cX4_pack 69 = .ok (.iload_n 1, 1) := by decide +kernel
theorem dX4_pack_70 : decode cX4_pack 70 = .ok (.ineg, 1) := by decide +kernel
theorem dX4_pack_71 : decode cX4_pack 71 = .ok (.iload_n 1, 1) := by decide +kernel
theorem dX4_pack_72 : decode cX4_pack 72 = .ok (.iand, 1) := by decide +kernel
theorem dX4_pack_73 : decode cX4_pack 73 = .ok (.istore_n 2, 1) := by decide +kernel
theorem dX4_pack_74 : decode cX4_pack 74 = .ok (.iload_n 2, 1) := by decide +kernel
theorem dX4_pack_75 : decode cX4_pack 75 = .ok (.ifCond .eq 95, 3) := by decide +kernel
theorem dX4_pack_78 : decode cX4_pack 78 = .ok (.aload_n 0, 1) := by decide +kernel
theorem dX4_pack_79 : decode cX4_pack 79 = .ok (.getfield 65, 3) := by decide +kernel
theorem dX4_pack_82 : decode cX4_pack 82 = .ok (.iload_n 2, 1) := by decide +kernel
theorem dX4_pack_83 : decode cX4_pack 83 = .ok (.bipush 15, 2) := by decide +kernel
theorem dX4_pack_85 : decode cX4_pack 85 = .ok (.iastore, 1) := by decide +kernel
theorem dX4_pack_86 : decode cX4_pack 86 = .ok (.iload_n 2, 1) := by decide +kernel
theorem dX4_pack_87 : decode cX4_pack 87 = .ok (.iload_n 2, 1) := by decide +kernel
theorem dX4_pack_88 : decode cX4_pack 88 = .ok (.ineg, 1) := by decide +kernel
theorem dX4_pack_89 : decode cX4_pack 89 = .ok (.iand, 1) := by decide +kernel
theorem dX4_pack_90 : decode cX4_pack 90 = .ok (.istore_n 3, 1) := by decide +kernel
theorem dX4_pack_91 : decode cX4_pack 91 = .ok (.iload_n 2, 1) := by decide +kernel
theorem dX4_pack_92 : decode cX4_pack 92 = .ok (.iload_n 3, 1) := by decide +kernel
theorem dX4_pack_93 : decode cX4_pack 93 = .ok (.ixor, 1) := by decide +kernel
theorem dX4_pack_94 : decode cX4_pack 94 = .ok (.istore 4, 2) := by decide +kernel
theorem dX4_pack_96 : decode cX4_pack 96 = .ok (.iload 4, 2) := by decide +kernel
theorem dX4_pack_98 : decode cX4_pack 98 = .ok (.istore 5, 2) := by decide +kernel
theorem dX4_pack_100 : decode cX4_pack 100 = .ok (.aload_n 0, 1) := by decide +kernel
theorem dX4_pack_101 : decode cX4_pack 101 = .ok (.getfield 62, 3) := by decide +kernel
theorem dX4_pack_104 : decode cX4_pack 104 = .ok (.iload 5, 2) := by decide +kernel
theorem dX4_pack_106 : decode cX4_pack 106 = .ok (.iload_n 3, 1) := by decide +kernel
theorem dX4_pack_107 : decode cX4_pack 107 = .ok (.ior, 1) := by decide +kernel
theorem dX4_pack_108 : decode cX4_pack 108 = .ok (.iaload, 1) := by decide +kernel
theorem dX4_pack_109 : decode cX4_pack 109 = .ok (.bipush 12, 2) := by decide +kernel
theorem dX4_pack_111 : decode cX4_pack 111 = .ok (.if_icmp .gt 30, 3) := by decide +kernel
theorem dX4_pack_114 : decode cX4_pack 114 = .ok (.aload_n 0, 1) := by decide +kernel
theorem dX4_pack_115 : decode cX4_pack 115 = .ok (.getfield 65, 3) := by decide +kernel
theorem dX4_pack_118 : decode cX4_pack 118 = .ok (.iload_n 2, 1) := by decide +kernel
theorem dX4_pack_119 : decode cX4_pack 119 = .ok (.aload_n 0, 1) := by decide +kernel
theorem dX4_pack_120 : decode cX4_pack 120 = .ok (.getfield 65, 3) := by decide +kernel
theorem dX4_pack_123 : decode cX4_pack 123 = .ok (.iload_n 2, 1) := by decide +kernel
theorem dX4_pack_124 : decode cX4_pack 124 = .ok (.iaload, 1) := by decide +kernel
theorem dX4_pack_125 : decode cX4_pack 125 = .ok (.iconst 1, 1) := by decide +kernel
theorem dX4_pack_126 : decode cX4_pack 126 = .ok (.aload_n 0, 1) := by decide +kernel
theorem dX4_pack_127 : decode cX4_pack 127 = .ok (.getfield 65, 3) := by decide +kernel
theorem dX4_pack_130 : decode cX4_pack 130 = .ok (.iload 4, 2) := by decide +kernel
theorem dX4_pack_132 : decode cX4_pack 132 = .ok (.iload 5, 2) := by decide +kernel
theorem dX4_pack_134 : decode cX4_pack 134 = .ok (.ixor, 1) := by decide +kernel
theorem dX4_pack_135 : decode cX4_pack 135 = .ok (.iaload, 1) := by decide +kernel
theorem dX4_pack_136 : decode cX4_pack 136 = .ok (.iadd, 1) := by decide +kernel
theorem dX4_pack_137 : decode cX4_pack 137 = .ok (.invokestatic 156, 3) := by decide +kernel
theorem dX4_pack_140 : decode cX4_pack 140 = .ok (.iastore, 1) := by decide +kernel
theorem dX4_pack_141 : decode cX4_pack 141 = .ok (.iload 5, 2) := by decide +kernel
theorem dX4_pack_143 : decode cX4_pack 143 = .ok (.ifCond .ne 6, 3) := by decide +kernel
theorem dX4_pack_146 : decode cX4_pack 146 = .ok (.goto 15, 3) := by decide +kernel
theorem dX4_pack_149 : decode cX4_pack 149 = .ok (.iload 5, 2) := by decide +kernel
theorem dX4_pack_151 : decode cX4_pack 151 = .ok (.iconst 1, 1) := by decide +kernel
theorem dX4_pack_152 : decode cX4_pack 152 = .ok (.isub, 1) := by decide +kernel
theorem dX4_pack_153 : decode cX4_pack 153 = .ok (.iload 4, 2) := by decide +kernel
theorem dX4_pack_155 : decode cX4_pack 155 = .ok (.iand, 1) := by decide +kernel
theorem dX4_pack_156 : decode cX4_pack 156 = .ok (.istore 5, 2) := by decide +kernel
theorem dX4_pack_158 : decode cX4_pack 158 = .ok (.goto (-58), 3) := by decide +kernel
theorem dX4_pack_161 : decode cX4_pack 161 = .ok (.iload_n 2, 1) := by decide +kernel
theorem dX4_pack_162 : decode cX4_pack 162 = .ok (.iload_n 1, 1) := by decide +kernel
theorem dX4_pack_163 : decode cX4_pack 163 = .ok (.isub, 1) := by decide +kernel
theorem dX4_pack_164 : decode cX4_pack 164 = .ok (.iload_n 1, 1) := by decide +kernel
theorem dX4_pack_165 : decode cX4_pack 165 = .ok (.iand, 1) := by decide +kernel
theorem dX4_pack_166 : decode cX4_pack 166 = .ok (.istore_n 2, 1) := by decide +kernel
theorem dX4_pack_167 : decode cX4_pack 167 = .ok (.goto (-93), 3) := by decide +kernel
theorem dX4_pack_170 : decode cX4_pack 170 = .ok (.return_, 1) := by decide +kernel
set_option maxRecDepth 20000 in
theorem ggX4_fewest_X4_pack : GoodIn wsX4_fewest wsX4_pack := goodIn_r _ [8, 9, 10, 11, 3, 12, 13, 14, 15, 16, 17, 18, 19, 20, 21, 22, 23, 24, 25, 26, 27, 28, 29, 30, 31, 32, 33, 34, 35, 36, 37, 38, 39, 40, 41, 42] (by decide +kernel) (by decide +kernel)
set_option maxRecDepth 20000 in
theorem gX4_fewest_X4_pack : GoodIn wsX4_fewest (wsV RX4 161 RX4 yX4_pack wsX4_pack) := goodIn_app (goodIn_of _ (by decide +kernel)) ggX4_fewest_X4_pack
theorem dX4_fewest_0 : decode cX4_fewest 0 = .ok (.aload_n 0, 1) := by decide +kernel
theorem dX4_fewest_1 : decode cX4_fewest 1 = .ok (.iconst 0, 1) := by decide +kernel
theorem dX4_fewest_2 : decode cX4_fewest 2 = .ok (.putfield 71, 3) := by decide +kernel
theorem dX4_fewest_5 : decode cX4_fewest 5 = .ok (.aload_n 0, 1) := by decide +kernel
theorem dX4_fewest_6 : decode cX4_fewest 6 = .ok (.aload_n 0, 1) := by decide +kernel
theorem dX4_fewest_7 : decode cX4_fewest 7 = .ok (.getfield 108, 3) := by decide +kernel
theorem dX4_fewest_10 : decode cX4_fewest 10 = .ok (.invokevirtual 161, 3) := by decide +kernel
theorem dX4_fewest_13 : decode cX4_fewest 13 = .ok (.aload_n 0, 1) := by decide +kernel
theorem dX4_fewest_14 : decode cX4_fewest 14 = .ok (.getfield 65, 3) := by decide +kernel
theorem dX4_fewest_17 : decode cX4_fewest 17 = .ok (.aload_n 0, 1) := by decide +kernel
theorem dX4_fewest_18 : decode cX4_fewest 18 = .ok (.getfield 108, 3) := by decide +kernel
theorem dX4_fewest_21 : decode cX4_fewest 21 = .ok (.iaload, 1) := by decide +kernel
theorem dX4_fewest_22 : decode cX4_fewest 22 = .ok (.ireturn, 1) := by decide +kernel
set_option maxRecDepth 20000 in
theorem ggX4_layAll_X4_pack : GoodIn wsX4_layAll wsX4_pack := goodIn_r _ [8, 1, 9, 10, 2, 11, 12, 13, 14, 15, 16, 17, 18, 19, 20, 21, 22, 23, 24, 25, 26, 27, 28, 29, 30, 31, 32, 33, 34, 35, 36, 37, 38, 39, 40, 41] (by decide +kernel) (by decide +kernel)
set_option maxRecDepth 20000 in
theorem gX4_layAll_X4_pack : GoodIn wsX4_layAll (wsV RX4 161 RX4 yX4_pack wsX4_pack) := goodIn_app (goodIn_of _ (by decide +kernel)) ggX4_layAll_X4_pack
theorem dX4_layAll_0 : decode cX4_layAll 0 = .ok (.aload_n 0, 1) := by decide +kernel
theorem dX4_layAll_1 : decode cX4_layAll 1 = .ok (.iload_n 1, 1) := by decide +kernel
theorem dX4_layAll_2 : decode cX4_layAll 2 = .ok (.invokevirtual 161, 3) := by decide +kernel
theorem dX4_layAll_5 : decode cX4_layAll 5 = .ok (.iload_n 1, 1) := by decide +kernel
theorem dX4_layAll_6 : decode cX4_layAll 6 = .ok (.istore_n 2, 1) := by decide +kernel
theorem dX4_layAll_7 : decode cX4_layAll 7 = .ok (.iconst 0, 1) := by decide +kernel
theorem dX4_layAll_8 : decode cX4_layAll 8 = .ok (.istore_n 3, 1) := by decide +kernel
theorem dX4_layAll_9 : decode cX4_layAll 9 = .ok (.iload_n 2, 1) := by decide +kernel
theorem dX4_layAll_10 : decode cX4_layAll 10 = .ok (.ifCond .eq 163, 3) := by decide +kernel
theorem dX4_layAll_13 : decode cX4_layAll 13 = .ok (.iload_n 2, 1) := by decide +kernel
theorem dX4_layAll_14 : decode cX4_layAll 14 = .ok (.iload_n 2, 1) := by decide +kernel
theorem dX4_layAll_15 : decode cX4_layAll 15 = .ok (.ineg, 1) := by decide +kernel
theorem dX4_layAll_16 : decode cX4_layAll 16 = .ok (.iand, 1) := by decide +kernel
theorem dX4_layAll_17 : decode cX4_layAll 17 = .ok (.istore 4, 2) := by decide +kernel
theorem dX4_layAll_19 : decode cX4_layAll 19 = .ok (.iload_n 2, 1) := by decide +kernel
theorem dX4_layAll_20 : decode cX4_layAll 20 = .ok (.iload 4, 2) := by decide +kernel
theorem dX4_layAll_22 : decode cX4_layAll 22 = .ok (.ixor, 1) := by decide +kernel
theorem dX4_layAll_23 : decode cX4_layAll 23 = .ok (.istore 5, 2) := by decide +kernel
theorem dX4_layAll_25 : decode cX4_layAll 25 = .ok (.iconst (-1), 1) := by decide +kernel
theorem dX4_layAll_26 : decode cX4_layAll 26 = .ok (.istore 6, 2) := by decide +kernel
theorem dX4_layAll_28 : decode cX4_layAll 28 = .ok (.iload 5, 2) := by decide +kernel
theorem dX4_layAll_30 : decode cX4_layAll 30 = .ok (.istore 7, 2) := by decide +kernel
theorem dX4_layAll_32 : decode cX4_layAll 32 = .ok (.iload 7, 2) := by decide +kernel
theorem dX4_layAll_34 : decode cX4_layAll 34 = .ok (.iload 4, 2) := by decide +kernel
theorem dX4_layAll_36 : decode cX4_layAll 36 = .ok (.ior, 1) := by decide +kernel
theorem dX4_layAll_37 : decode cX4_layAll 37 = .ok (.istore 8, 2) := by decide +kernel
theorem dX4_layAll_39 : decode cX4_layAll 39 = .ok (.aload_n 0, 1) := by decide +kernel
theorem dX4_layAll_40 : decode cX4_layAll 40 = .ok (.getfield 62, 3) := by decide +kernel
theorem dX4_layAll_43 : decode cX4_layAll 43 = .ok (.iload 8, 2) := by decide +kernel
theorem dX4_layAll_45 : decode cX4_layAll 45 = .ok (.iaload, 1) := by decide +kernel
theorem dX4_layAll_46 : decode cX4_layAll 46 = .ok (.bipush 12, 2) := by decide +kernel
theorem dX4_layAll_48 : decode cX4_layAll 48 = .ok (.if_icmp .gt 27, 3) := by decide +kernel
theorem dX4_layAll_51 : decode cX4_layAll 51 = .ok (.aload_n 0, 1) := by decide +kernel
theorem dX4_layAll_52 : decode cX4_layAll 52 = .ok (.getfield 65, 3) := by decide +kernel
theorem dX4_layAll_55 : decode cX4_layAll 55 = .ok (.iload_n 2, 1) := by decide +kernel
theorem dX4_layAll_56 : decode cX4_layAll 56 = .ok (.iload 8, 2) := by decide +kernel
theorem dX4_layAll_58 : decode cX4_layAll 58 = .ok (.ixor, 1) := by decide +kernel
theorem dX4_layAll_59 : decode cX4_layAll 59 = .ok (.iaload, 1) := by decide +kernel
theorem dX4_layAll_60 : decode cX4_layAll 60 = .ok (.aload_n 0, 1) := by decide +kernel
theorem dX4_layAll_61 : decode cX4_layAll 61 = .ok (.getfield 65, 3) := by decide +kernel
theorem dX4_layAll_64 : decode cX4_layAll 64 = .ok (.iload_n 2, 1) := by decide +kernel
theorem dX4_layAll_65 : decode cX4_layAll 65 = .ok (.iaload, 1) := by decide +kernel
theorem dX4_layAll_66 : decode cX4_layAll 66 = .ok (.iconst 1, 1) := by decide +kernel
theorem dX4_layAll_67 : decode cX4_layAll 67 = .ok (.isub, 1) := by decide +kernel
theorem dX4_layAll_68 : decode cX4_layAll 68 = .ok (.if_icmp .ne 7, 3) := by decide +kernel
theorem dX4_layAll_71 : decode cX4_layAll 71 = .ok (.iconst 1, 1) := by decide +kernel
theorem dX4_layAll_72 : decode cX4_layAll 72 = .ok (.goto 4, 3) := by decide +kernel
theorem dX4_layAll_75 : decode cX4_layAll 75 = .ok (.iconst 0, 1) := by decide +kernel
theorem dX4_layAll_76 : decode cX4_layAll 76 = .ok (.istore 9, 2) := by decide +kernel
theorem dX4_layAll_78 : decode cX4_layAll 78 = .ok (.iload 9, 2) := by decide +kernel
theorem dX4_layAll_80 : decode cX4_layAll 80 = .ok (.ifCond .eq 54, 3) := by decide +kernel
theorem dX4_layAll_83 : decode cX4_layAll 83 = .ok (.iload 6, 2) := by decide +kernel
theorem dX4_layAll_85 : decode cX4_layAll 85 = .ok (.iconst (-1), 1) := by decide +kernel
theorem dX4_layAll_86 : decode cX4_layAll 86 = .ok (.if_icmp .eq 44, 3) := by decide +kernel
theorem dX4_layAll_89 : decode cX4_layAll 89 = .ok (.aload_n 0, 1) := by decide +kernel
theorem dX4_layAll_90 : decode cX4_layAll 90 = .ok (.getfield 62, 3) := by decide +kernel
theorem dX4_layAll_93 : decode cX4_layAll 93 = .ok (.iload 8, 2) := by decide +kernel
theorem dX4_layAll_95 : decode cX4_layAll 95 = .ok (.iaload, 1) := by decide +kernel
theorem dX4_layAll_96 : decode cX4_layAll 96 = .ok (.aload_n 0, 1) := by decide +kernel
theorem dX4_layAll_97 : decode cX4_layAll 97 = .ok (.getfield 62, 3) := by decide +kernel
theorem dX4_layAll_100 : decode cX4_layAll 100 = .ok (.iload 6, 2) := by decide +kernel
theorem dX4_layAll_102 : decode cX4_layAll 102 = .ok (.iaload, 1) := by decide +kernel
theorem dX4_layAll_103 : decode cX4_layAll 103 = .ok (.if_icmp .gt 27, 3) := by decide +kernel
theorem dX4_layAll_106 : decode cX4_layAll 106 = .ok (.aload_n 0, 1) := by decide +kernel
theorem dX4_layAll_107 : decode cX4_layAll 107 = .ok (.getfield 62, 3) := by decide +kernel
theorem dX4_layAll_110 : decode cX4_layAll 110 = .ok (.iload 8, 2) := by decide +kernel
theorem dX4_layAll_112 : decode cX4_layAll 112 = .ok (.iaload, 1) := by decide +kernel
theorem dX4_layAll_113 : decode cX4_layAll 113 = .ok (.aload_n 0, 1) := by decide +kernel
theorem dX4_layAll_114 : decode cX4_layAll 114 = .ok (.getfield 62, 3) := by decide +kernel
theorem dX4_layAll_117 : decode cX4_layAll 117 = .ok (.iload 6, 2) := by decide +kernel
theorem dX4_layAll_119 : decode cX4_layAll 119 = .ok (.iaload, 1) := by decide +kernel
theorem dX4_layAll_120 : decode cX4_layAll 120 = .ok (.if_icmp .ne 14, 3) := by decide +kernel
theorem dX4_layAll_123 : decode cX4_layAll 123 = .ok (.iload 8, 2) := by decide +kernel
theorem dX4_layAll_125 : decode cX4_layAll 125 = .ok (.iload 6, 2) := by decide +kernel
theorem dX4_layAll_127 : decode cX4_layAll 127 = .ok (.if_icmp .ge 7, 3) := by decide +kernel
theorem dX4_layAll_130 : decode cX4_layAll 130 = .ok (.iload 8, 2) := by decide +kernel
theorem dX4_layAll_132 : decode cX4_layAll 132 = .ok (.istore 6, 2) := by decide +kernel
theorem dX4_layAll_134 : decode cX4_layAll 134 = .ok (.iload 7, 2) := by decide +kernel
theorem dX4_layAll_136 : decode cX4_layAll 136 = .ok (.ifCond .ne 6, 3) := by decide +kernel
theorem dX4_layAll_139 : decode cX4_layAll 139 = .ok (.goto 15, 3) := by decide +kernel
theorem dX4_layAll_142 : decode cX4_layAll 142 = .ok (.iload 7, 2) := by decide +kernel
theorem dX4_layAll_144 : decode cX4_layAll 144 = .ok (.iconst 1, 1) := by decide +kernel
theorem dX4_layAll_145 : decode cX4_layAll 145 = .ok (.isub, 1) := by decide +kernel
theorem dX4_layAll_146 : decode cX4_layAll 146 = .ok (.iload 5, 2) := by decide +kernel
theorem dX4_layAll_148 : decode cX4_layAll 148 = .ok (.iand, 1) := by decide +kernel
theorem dX4_layAll_149 : decode cX4_layAll 149 = .ok (.istore 7, 2) := by decide +kernel
theorem dX4_layAll_151 : decode cX4_layAll 151 = .ok (.goto (-119), 3) := by decide +kernel
theorem dX4_layAll_154 : decode cX4_layAll 154 = .ok (.aload_n 0, 1) := by decide +kernel
theorem dX4_layAll_155 : decode cX4_layAll 155 = .ok (.getfield 68, 3) := by decide +kernel
theorem dX4_layAll_158 : decode cX4_layAll 158 = .ok (.iload_n 3, 1) := by decide +kernel
theorem dX4_layAll_159 : decode cX4_layAll 159 = .ok (.iload 6, 2) := by decide +kernel
theorem dX4_layAll_161 : decode cX4_layAll 161 = .ok (.iastore, 1) := by decide +kernel
theorem dX4_layAll_162 : decode cX4_layAll 162 = .ok (.iinc 3 1, 3) := by decide +kernel
theorem dX4_layAll_165 : decode cX4_layAll 165 = .ok (.iload_n 2, 1) := by decide +kernel
theorem dX4_layAll_166 : decode cX4_layAll 166 = .ok (.iload 6, 2) := by decide +kernel
theorem dX4_layAll_168 : decode cX4_layAll 168 = .ok (.ixor, 1) := by decide +kernel
theorem dX4_layAll_169 : decode cX4_layAll 169 = .ok (.istore_n 2, 1) := by decide +kernel
theorem dX4_layAll_170 : decode cX4_layAll 170 = .ok (.goto (-161), 3) := by decide +kernel
theorem dX4_layAll_173 : decode cX4_layAll 173 = .ok (.iload_n 3, 1) := by decide +kernel
theorem dX4_layAll_174 : decode cX4_layAll 174 = .ok (.ireturn, 1) := by decide +kernel
set_option maxRecDepth 20000 in
theorem ggX4_lay_X4_pack : GoodIn wsX4_lay wsX4_pack := goodIn_r _ [12, 13, 14, 15, 3, 16, 17, 18, 19, 24, 25, 26, 27, 28, 29, 30, 31, 32, 33, 34, 35, 36, 37, 38, 39, 40, 41, 42, 43, 44, 45, 46, 47, 48, 49, 50] (by decide +kernel) (by decide +kernel)
set_option maxRecDepth 20000 in
theorem gX4_lay_X4_pack : GoodIn wsX4_lay (wsV RX4 161 RX4 yX4_pack wsX4_pack) := goodIn_app (goodIn_of _ (by decide +kernel)) ggX4_lay_X4_pack
set_option maxRecDepth 20000 in
theorem ggX4_lay_X4_layAll : GoodIn wsX4_lay wsX4_layAll := goodIn_r _ [23, 13, 3, 7, 8, 9, 10, 11, 12, 14, 15, 16, 17, 18, 19, 24, 25, 26, 27, 28, 29, 30, 31, 32, 33, 34, 35, 36, 37, 38, 39, 40, 41, 42, 43, 44, 45, 46, 47, 48, 49, 50] (by decide +kernel) (by decide +kernel)
set_option maxRecDepth 20000 in
theorem gX4_lay_X4_layAll : GoodIn wsX4_lay (wsV RX4 165 RX4 yX4_layAll wsX4_layAll) := goodIn_app (goodIn_of _ (by decide +kernel)) ggX4_lay_X4_layAll
theorem dX4_lay_0 : decode cX4_lay 0 = .ok (.aload_n 0, 1) := by decide +kernel
theorem dX4_lay_1 : decode cX4_lay 1 = .ok (.iconst 0, 1) := by decide +kernel
theorem dX4_lay_2 : decode cX4_lay 2 = .ok (.putfield 71, 3) := by decide +kernel
theorem dX4_lay_5 : decode cX4_lay 5 = .ok (.aload_n 0, 1) := by decide +kernel
theorem dX4_lay_6 : decode cX4_lay 6 = .ok (.aload_n 0, 1) := by decide +kernel
theorem dX4_lay_7 : decode cX4_lay 7 = .ok (.getfield 108, 3) := by decide +kernel
theorem dX4_lay_10 : decode cX4_lay 10 = .ok (.invokevirtual 161, 3) := by decide +kernel
theorem dX4_lay_13 : decode cX4_lay 13 = .ok (.aload_n 0, 1) := by decide +kernel
theorem dX4_lay_14 : decode cX4_lay 14 = .ok (.getfield 65, 3) := by decide +kernel
theorem dX4_lay_17 : decode cX4_lay 17 = .ok (.aload_n 0, 1) := by decide +kernel
theorem dX4_lay_18 : decode cX4_lay 18 = .ok (.getfield 108, 3) := by decide +kernel
theorem dX4_lay_21 : decode cX4_lay 21 = .ok (.iaload, 1) := by decide +kernel
theorem dX4_lay_22 : decode cX4_lay 22 = .ok (.aload_n 0, 1) := by decide +kernel
theorem dX4_lay_23 : decode cX4_lay 23 = .ok (.getfield 47, 3) := by decide +kernel
theorem dX4_lay_26 : decode cX4_lay 26 = .ok (.if_icmp .le 5, 3) := by decide +kernel
theorem dX4_lay_29 : decode cX4_lay 29 = .ok (.iconst (-1), 1) := by decide +kernel
theorem dX4_lay_30 : decode cX4_lay 30 = .ok (.ireturn, 1) := by decide +kernel
theorem dX4_lay_31 : decode cX4_lay 31 = .ok (.aload_n 0, 1) := by decide +kernel
theorem dX4_lay_32 : decode cX4_lay 32 = .ok (.aload_n 0, 1) := by decide +kernel
theorem dX4_lay_33 : decode cX4_lay 33 = .ok (.aload_n 0, 1) := by decide +kernel
theorem dX4_lay_34 : decode cX4_lay 34 = .ok (.getfield 108, 3) := by decide +kernel
theorem dX4_lay_37 : decode cX4_lay 37 = .ok (.invokevirtual 165, 3) := by decide +kernel
theorem dX4_lay_40 : decode cX4_lay 40 = .ok (.putfield 114, 3) := by decide +kernel
theorem dX4_lay_43 : decode cX4_lay 43 = .ok (.iconst 0, 1) := by decide +kernel
theorem dX4_lay_44 : decode cX4_lay 44 = .ok (.istore_n 1, 1) := by decide +kernel
theorem dX4_lay_45 : decode cX4_lay 45 = .ok (.iload_n 1, 1) := by decide +kernel
theorem dX4_lay_46 : decode cX4_lay 46 = .ok (.aload_n 0, 1) := by decide +kernel
theorem dX4_lay_47 : decode cX4_lay 47 = .ok (.getfield 114, 3) := by decide +kernel
theorem dX4_lay_50 : decode cX4_lay 50 = .ok (.if_icmp .ge 21, 3) := by decide +kernel
theorem dX4_lay_53 : decode cX4_lay 53 = .ok (.aload_n 0, 1) := by decide +kernel
theorem dX4_lay_54 : decode cX4_lay 54 = .ok (.getfield 50, 3) := by decide +kernel
theorem dX4_lay_57 : decode cX4_lay 57 = .ok (.iload_n 1, 1) := by decide +kernel
theorem dX4_lay_58 : decode cX4_lay 58 = .ok (.aload_n 0, 1) := by decide +kernel
theorem dX4_lay_59 : decode cX4_lay 59 = .ok (.getfield 68, 3) := by decide +kernel
theorem dX4_lay_62 : decode cX4_lay 62 = .ok (.iload_n 1, 1) := by decide +kernel
theorem dX4_lay_63 : decode cX4_lay 63 = .ok (.iaload, 1) := by decide +kernel
theorem dX4_lay_64 : decode cX4_lay 64 = .ok (.iastore, 1) := by decide +kernel
theorem dX4_lay_65 : decode cX4_lay 65 = .ok (.iinc 1 1, 3) := by decide +kernel
theorem dX4_lay_68 : decode cX4_lay 68 = .ok (.goto (-23), 3) := by decide +kernel
theorem dX4_lay_71 : decode cX4_lay 71 = .ok (.aload_n 0, 1) := by decide +kernel
theorem dX4_lay_72 : decode cX4_lay 72 = .ok (.getfield 114, 3) := by decide +kernel
theorem dX4_lay_75 : decode cX4_lay 75 = .ok (.ireturn, 1) := by decide +kernel
set_option maxRecDepth 20000 in
theorem ggX4_page_X4_in : GoodIn wsX4_page wsX4_in := goodIn_r _ [7] (by decide +kernel) (by decide +kernel)
set_option maxRecDepth 20000 in
theorem gX4_page_X4_in : GoodIn wsX4_page (va_wsS RX4 77 yX4_in wsX4_in) := goodIn_app (goodIn_of _ (by decide +kernel)) ggX4_page_X4_in
theorem dX4_page_0 : decode cX4_page 0 = .ok (.aload_n 0, 1) := by decide +kernel
theorem dX4_page_1 : decode cX4_page 1 = .ok (.iconst 0, 1) := by decide +kernel
theorem dX4_page_2 : decode cX4_page 2 = .ok (.putfield 71, 3) := by decide +kernel
theorem dX4_page_5 : decode cX4_page 5 = .ok (.iload_n 1, 1) := by decide +kernel
theorem dX4_page_6 : decode cX4_page 6 = .ok (.iconst 0, 1) := by decide +kernel
theorem dX4_page_7 : decode cX4_page 7 = .ok (.aload_n 0, 1) := by decide +kernel
theorem dX4_page_8 : decode cX4_page 8 = .ok (.getfield 114, 3) := by decide +kernel
theorem dX4_page_11 : decode cX4_page 11 = .ok (.iconst 1, 1) := by decide +kernel
theorem dX4_page_12 : decode cX4_page 12 = .ok (.isub, 1) := by decide +kernel
theorem dX4_page_13 : decode cX4_page 13 = .ok (.invokestatic 77, 3) := by decide +kernel
theorem dX4_page_16 : decode cX4_page 16 = .ok (.ifCond .eq 12, 3) := by decide +kernel
theorem dX4_page_19 : decode cX4_page 19 = .ok (.aload_n 0, 1) := by decide +kernel
theorem dX4_page_20 : decode cX4_page 20 = .ok (.getfield 50, 3) := by decide +kernel
theorem dX4_page_23 : decode cX4_page 23 = .ok (.iload_n 1, 1) := by decide +kernel
theorem dX4_page_24 : decode cX4_page 24 = .ok (.iaload, 1) := by decide +kernel
theorem dX4_page_25 : decode cX4_page 25 = .ok (.goto 4, 3) := by decide +kernel
theorem dX4_page_28 : decode cX4_page 28 = .ok (.iconst (-1), 1) := by decide +kernel
theorem dX4_page_29 : decode cX4_page 29 = .ok (.ireturn, 1) := by decide +kernel
theorem dX4_pointsOf_0 : decode cX4_pointsOf 0 = .ok (.iconst 0, 1) := by decide +kernel
theorem dX4_pointsOf_1 : decode cX4_pointsOf 1 = .ok (.istore_n 2, 1) := by decide +kernel
theorem dX4_pointsOf_2 : decode cX4_pointsOf 2 = .ok (.iconst 0, 1) := by decide +kernel
theorem dX4_pointsOf_3 : decode cX4_pointsOf 3 = .ok (.istore_n 3, 1) := by decide +kernel
theorem dX4_pointsOf_4 : decode cX4_pointsOf 4 = .ok (.iload_n 3, 1) := by decide +kernel
theorem dX4_pointsOf_5 : decode cX4_pointsOf 5 = .ok (.aload_n 0, 1) := by decide +kernel
theorem dX4_pointsOf_6 : decode cX4_pointsOf 6 = .ok (.getfield 74, 3) := by decide +kernel
theorem dX4_pointsOf_9 : decode cX4_pointsOf 9 = .ok (.if_icmp .ge 27, 3) := by decide +kernel
theorem dX4_pointsOf_12 : decode cX4_pointsOf 12 = .ok (.iload_n 1, 1) := by decide +kernel
theorem dX4_pointsOf_13 : decode cX4_pointsOf 13 = .ok (.iload_n 3, 1) := by decide +kernel
theorem dX4_pointsOf_14 : decode cX4_pointsOf 14 = .ok (.ishr, 1) := by decide +kernel
theorem dX4_pointsOf_15 : decode cX4_pointsOf 15 = .ok (.iconst 1, 1) := by decide +kernel
theorem dX4_pointsOf_16 : decode cX4_pointsOf 16 = .ok (.iand, 1) := by decide +kernel
theorem dX4_pointsOf_17 : decode cX4_pointsOf 17 = .ok (.iconst 1, 1) := by decide +kernel
theorem dX4_pointsOf_18 : decode cX4_pointsOf 18 = .ok (.if_icmp .ne 12, 3) := by decide +kernel
theorem dX4_pointsOf_21 : decode cX4_pointsOf 21 = .ok (.iload_n 2, 1) := by decide +kernel
theorem dX4_pointsOf_22 : decode cX4_pointsOf 22 = .ok (.aload_n 0, 1) := by decide +kernel
theorem dX4_pointsOf_23 : decode cX4_pointsOf 23 = .ok (.getfield 22, 3) := by decide +kernel
theorem dX4_pointsOf_26 : decode cX4_pointsOf 26 = .ok (.iload_n 3, 1) := by decide +kernel
theorem dX4_pointsOf_27 : decode cX4_pointsOf 27 = .ok (.iaload, 1) := by decide +kernel
theorem dX4_pointsOf_28 : decode cX4_pointsOf 28 = .ok (.iadd, 1) := by decide +kernel
theorem dX4_pointsOf_29 : decode cX4_pointsOf 29 = .ok (.istore_n 2, 1) := by decide +kernel
theorem dX4_pointsOf_30 : decode cX4_pointsOf 30 = .ok (.iinc 3 1, 3) := by decide +kernel
theorem dX4_pointsOf_33 : decode cX4_pointsOf 33 = .ok (.goto (-29), 3) := by decide +kernel
theorem dX4_pointsOf_36 : decode cX4_pointsOf 36 = .ok (.iload_n 2, 1) := by decide +kernel
theorem dX4_pointsOf_37 : decode cX4_pointsOf 37 = .ok (.ireturn, 1) := by decide +kernel
set_option maxRecDepth 20000 in
theorem ggX4_left_X4_in : GoodIn wsX4_left wsX4_in := goodIn_r _ [7] (by decide +kernel) (by decide +kernel)
set_option maxRecDepth 20000 in
theorem gX4_left_X4_in : GoodIn wsX4_left (va_wsS RX4 77 yX4_in wsX4_in) := goodIn_app (goodIn_of _ (by decide +kernel)) ggX4_left_X4_in
set_option maxRecDepth 20000 in
theorem ggX4_left_X4_pointsOf : GoodIn wsX4_left wsX4_pointsOf := goodIn_r _ [11, 12, 13, 14, 15, 16, 17, 18, 19, 20, 21, 22, 23, 24, 25, 26, 27, 28, 29, 30, 31, 32, 33, 34, 35, 36, 37, 38, 39, 40] (by decide +kernel) (by decide +kernel)
set_option maxRecDepth 20000 in
theorem gX4_left_X4_pointsOf : GoodIn wsX4_left (wsV RX4 168 RX4 yX4_pointsOf wsX4_pointsOf) := goodIn_app (goodIn_of _ (by decide +kernel)) ggX4_left_X4_pointsOf
theorem dX4_left_0 : decode cX4_left 0 = .ok (.aload_n 0, 1) := by decide +kernel
theorem dX4_left_1 : decode cX4_left 1 = .ok (.iconst 0, 1) := by decide +kernel
theorem dX4_left_2 : decode cX4_left 2 = .ok (.putfield 71, 3) := by decide +kernel
theorem dX4_left_5 : decode cX4_left 5 = .ok (.iload_n 1, 1) := by decide +kernel
theorem dX4_left_6 : decode cX4_left 6 = .ok (.iconst 0, 1) := by decide +kernel
theorem dX4_left_7 : decode cX4_left 7 = .ok (.aload_n 0, 1) := by decide +kernel
theorem dX4_left_8 : decode cX4_left 8 = .ok (.getfield 114, 3) := by decide +kernel
theorem dX4_left_11 : decode cX4_left 11 = .ok (.iconst 1, 1) := by decide +kernel
theorem dX4_left_12 : decode cX4_left 12 = .ok (.isub, 1) := by decide +kernel
theorem dX4_left_13 : decode cX4_left 13 = .ok (.invokestatic 77, 3) := by decide +kernel
theorem dX4_left_16 : decode cX4_left 16 = .ok (.ifCond .eq 19, 3) := by decide +kernel
theorem dX4_left_19 : decode cX4_left 19 = .ok (.bipush 12, 2) := by decide +kernel
theorem dX4_left_21 : decode cX4_left 21 = .ok (.aload_n 0, 1) := by decide +kernel
theorem dX4_left_22 : decode cX4_left 22 = .ok (.aload_n 0, 1) := by decide +kernel
theorem dX4_left_23 : decode cX4_left 23 = .ok (.getfield 50, 3) := by decide +kernel
theorem dX4_left_26 : decode cX4_left 26 = .ok (.iload_n 1, 1) := by decide +kernel
theorem dX4_left_27 : decode cX4_left 27 = .ok (.iaload, 1) := by decide +kernel
theorem dX4_left_28 : decode cX4_left 28 = .ok (.invokevirtual 168, 3) := by decide +kernel
theorem dX4_left_31 : decode cX4_left 31 = .ok (.isub, 1) := by decide +kernel
theorem dX4_left_32 : decode cX4_left 32 = .ok (.goto 4, 3) := by decide +kernel
theorem dX4_left_35 : decode cX4_left 35 = .ok (.iconst (-1), 1) := by decide +kernel
theorem dX4_left_36 : decode cX4_left 36 = .ok (.ireturn, 1) := by decide +kernel
theorem dX4_on_0 : decode cX4_on 0 = .ok (.iconst 0, 1) := by decide +kernel
theorem dX4_on_1 : decode cX4_on 1 = .ok (.istore_n 2, 1) := by decide +kernel
theorem dX4_on_2 : decode cX4_on 2 = .ok (.iconst 0, 1) := by decide +kernel
theorem dX4_on_3 : decode cX4_on 3 = .ok (.istore_n 3, 1) := by decide +kernel
theorem dX4_on_4 : decode cX4_on 4 = .ok (.iload_n 3, 1) := by decide +kernel
theorem dX4_on_5 : decode cX4_on 5 = .ok (.aload_n 0, 1) := by decide +kernel
theorem dX4_on_6 : decode cX4_on 6 = .ok (.getfield 114, 3) := by decide +kernel
theorem dX4_on_9 : decode cX4_on 9 = .ok (.if_icmp .ge 27, 3) := by decide +kernel
theorem dX4_on_12 : decode cX4_on 12 = .ok (.iload_n 1, 1) := by decide +kernel
theorem dX4_on_13 : decode cX4_on 13 = .ok (.iload_n 3, 1) := by decide +kernel
theorem dX4_on_14 : decode cX4_on 14 = .ok (.ishr, 1) := by decide +kernel
theorem dX4_on_15 : decode cX4_on 15 = .ok (.iconst 1, 1) := by decide +kernel
theorem dX4_on_16 : decode cX4_on 16 = .ok (.iand, 1) := by decide +kernel
theorem dX4_on_17 : decode cX4_on 17 = .ok (.iconst 1, 1) := by decide +kernel
theorem dX4_on_18 : decode cX4_on 18 = .ok (.if_icmp .ne 12, 3) := by decide +kernel
theorem dX4_on_21 : decode cX4_on 21 = .ok (.iload_n 2, 1) := by decide +kernel
theorem dX4_on_22 : decode cX4_on 22 = .ok (.aload_n 0, 1) := by decide +kernel
theorem dX4_on_23 : decode cX4_on 23 = .ok (.getfield 50, 3) := by decide +kernel
theorem dX4_on_26 : decode cX4_on 26 = .ok (.iload_n 3, 1) := by decide +kernel
theorem dX4_on_27 : decode cX4_on 27 = .ok (.iaload, 1) := by decide +kernel
theorem dX4_on_28 : decode cX4_on 28 = .ok (.ior, 1) := by decide +kernel
theorem dX4_on_29 : decode cX4_on 29 = .ok (.istore_n 2, 1) := by decide +kernel
theorem dX4_on_30 : decode cX4_on 30 = .ok (.iinc 3 1, 3) := by decide +kernel
theorem dX4_on_33 : decode cX4_on 33 = .ok (.goto (-29), 3) := by decide +kernel
theorem dX4_on_36 : decode cX4_on 36 = .ok (.iload_n 2, 1) := by decide +kernel
theorem dX4_on_37 : decode cX4_on 37 = .ok (.ireturn, 1) := by decide +kernel
set_option maxRecDepth 20000 in
theorem ggX4_late_X4_isPicture : GoodIn wsX4_late wsX4_isPicture := goodIn_r _ [12, 13, 14, 15, 11, 16, 42, 43, 44, 45, 46, 47, 48, 49, 50, 51, 52, 53, 54, 55, 56, 57, 58, 59, 60, 61, 62, 63, 64, 65, 66, 67, 68] (by decide +kernel) (by decide +kernel)
set_option maxRecDepth 20000 in
theorem gX4_late_X4_isPicture : GoodIn wsX4_late (wsV RX4 88 RX4 yX4_isPicture wsX4_isPicture) := goodIn_app (goodIn_of _ (by decide +kernel)) ggX4_late_X4_isPicture
set_option maxRecDepth 20000 in
theorem ggX4_late_X4_on : GoodIn wsX4_late wsX4_on := goodIn_r _ [20, 3, 6, 42, 43, 44, 45, 46, 47, 48, 49, 50, 51, 52, 53, 54, 55, 56, 57, 58, 59, 60, 61, 62, 63, 64, 65, 66, 67, 68] (by decide +kernel) (by decide +kernel)
set_option maxRecDepth 20000 in
theorem gX4_late_X4_on : GoodIn wsX4_late (wsV RX4 171 RX4 yX4_on wsX4_on) := goodIn_app (goodIn_of _ (by decide +kernel)) ggX4_late_X4_on
set_option maxRecDepth 20000 in
theorem ggX4_late_X4_pack : GoodIn wsX4_late wsX4_pack := goodIn_r _ [24, 25, 13, 26, 4, 27, 28, 29, 30, 42, 43, 44, 45, 46, 47, 48, 49, 50, 51, 52, 53, 54, 55, 56, 57, 58, 59, 60, 61, 62, 63, 64, 65, 66, 67, 68] (by decide +kernel) (by decide +kernel)
set_option maxRecDepth 20000 in
theorem gX4_late_X4_pack : GoodIn wsX4_late (wsV RX4 161 RX4 yX4_pack wsX4_pack) := goodIn_app (goodIn_of _ (by decide +kernel)) ggX4_late_X4_pack
set_option maxRecDepth 20000 in
theorem ggX4_late_J6_bitCount_0f7a4 : GoodIn wsX4_late wsJ6_bitCount_0f7a4 := goodIn_r _ [34, 35, 36, 37] (by decide +kernel) (by decide +kernel)
set_option maxRecDepth 20000 in
theorem gX4_late_J6_bitCount_0f7a4 : GoodIn wsX4_late (va_wsS RX4 147 yJ6_bitCount_0f7a4 wsJ6_bitCount_0f7a4) := goodIn_app (goodIn_of _ (by decide +kernel)) ggX4_late_J6_bitCount_0f7a4
set_option maxRecDepth 20000 in
theorem ggX4_late_X4_layAll : GoodIn wsX4_late wsX4_layAll := goodIn_r _ [41, 25, 4, 7, 21, 22, 23, 11, 24, 13, 26, 27, 28, 29, 30, 42, 43, 44, 45, 46, 47, 48, 49, 50, 51, 52, 53, 54, 55, 56, 57, 58, 59, 60, 61, 62, 63, 64, 65, 66, 67, 68] (by decide +kernel) (by decide +kernel)
set_option maxRecDepth 20000 in
theorem gX4_late_X4_layAll : GoodIn wsX4_late (wsV RX4 165 RX4 yX4_layAll wsX4_layAll) := goodIn_app (goodIn_of _ (by decide +kernel)) ggX4_late_X4_layAll
theorem dX4_late_0 : decode cX4_late 0 = .ok (.aload_n 0, 1) := by decide +kernel
theorem dX4_late_1 : decode cX4_late 1 = .ok (.iconst 0, 1) := by decide +kernel
theorem dX4_late_2 : decode cX4_late 2 = .ok (.putfield 71, 3) := by decide +kernel
theorem dX4_late_5 : decode cX4_late 5 = .ok (.aload_n 0, 1) := by decide +kernel
theorem dX4_late_6 : decode cX4_late 6 = .ok (.iload_n 1, 1) := by decide +kernel
theorem dX4_late_7 : decode cX4_late 7 = .ok (.invokevirtual 88, 3) := by decide +kernel
theorem dX4_late_10 : decode cX4_late 10 = .ok (.ifCond .eq 22, 3) := by decide +kernel
theorem dX4_late_13 : decode cX4_late 13 = .ok (.aload_n 0, 1) := by decide +kernel
theorem dX4_late_14 : decode cX4_late 14 = .ok (.getfield 108, 3) := by decide +kernel
theorem dX4_late_17 : decode cX4_late 17 = .ok (.iload_n 1, 1) := by decide +kernel
end
section
theorem dX4_late_18 : decode cX4_late 18 = .ok (.ishr, 1) := by decide +kernel
theorem dX4_late_19 : decode cX4_late 19 = .ok (.iconst 1, 1) := by decide +kernel
theorem dX4_late_20 : decode cX4_late 20 = .ok (.iand, 1) := by decide +kernel
theorem dX4_late_21 : decode cX4_late 21 = .ok (.iconst 1, 1) := by decide +kernel
theorem dX4_late_22 : decode cX4_late 22 = .ok (.if_icmp .eq 10, 3) := by decide +kernel
theorem dX4_late_25 : decode cX4_late 25 = .ok (.aload_n 0, 1) := by decide +kernel
theorem dX4_late_26 : decode cX4_late 26 = .ok (.getfield 114, 3) := by decide +kernel
theorem dX4_late_29 : decode cX4_late 29 = .ok (.ifCond .ne 5, 3) := by decide +kernel
theorem dX4_late_32 : decode cX4_late 32 = .ok (.iconst (-1), 1) := by decide +kernel
theorem dX4_late_33 : decode cX4_late 33 = .ok (.ireturn, 1) := by decide +kernel
theorem dX4_late_34 : decode cX4_late 34 = .ok (.aload_n 0, 1) := by decide +kernel
theorem dX4_late_35 : decode cX4_late 35 = .ok (.aload_n 0, 1) := by decide +kernel
theorem dX4_late_36 : decode cX4_late 36 = .ok (.iconst 1, 1) := by decide +kernel
theorem dX4_late_37 : decode cX4_late 37 = .ok (.aload_n 0, 1) := by decide +kernel
theorem dX4_late_38 : decode cX4_late 38 = .ok (.getfield 114, 3) := by decide +kernel
theorem dX4_late_41 : decode cX4_late 41 = .ok (.ishl, 1) := by decide +kernel
theorem dX4_late_42 : decode cX4_late 42 = .ok (.iconst 1, 1) := by decide +kernel
theorem dX4_late_43 : decode cX4_late 43 = .ok (.isub, 1) := by decide +kernel
theorem dX4_late_44 : decode cX4_late 44 = .ok (.invokevirtual 171, 3) := by decide +kernel
theorem dX4_late_47 : decode cX4_late 47 = .ok (.iconst 1, 1) := by decide +kernel
theorem dX4_late_48 : decode cX4_late 48 = .ok (.iload_n 1, 1) := by decide +kernel
theorem dX4_late_49 : decode cX4_late 49 = .ok (.ishl, 1) := by decide +kernel
theorem dX4_late_50 : decode cX4_late 50 = .ok (.ior, 1) := by decide +kernel
theorem dX4_late_51 : decode cX4_late 51 = .ok (.invokevirtual 161, 3) := by decide +kernel
theorem dX4_late_54 : decode cX4_late 54 = .ok (.iconst 0, 1) := by decide +kernel
theorem dX4_late_55 : decode cX4_late 55 = .ok (.istore_n 2, 1) := by decide +kernel
theorem dX4_late_56 : decode cX4_late 56 = .ok (.iconst 1, 1) := by decide +kernel
theorem dX4_late_57 : decode cX4_late 57 = .ok (.istore_n 3, 1) := by decide +kernel
theorem dX4_late_58 : decode cX4_late 58 = .ok (.iload_n 3, 1) := by decide +kernel
theorem dX4_late_59 : decode cX4_late 59 = .ok (.iconst 1, 1) := by decide +kernel
theorem dX4_late_60 : decode cX4_late 60 = .ok (.aload_n 0, 1) := by decide +kernel
theorem dX4_late_61 : decode cX4_late 61 = .ok (.getfield 114, 3) := by decide +kernel
theorem dX4_late_64 : decode cX4_late 64 = .ok (.ishl, 1) := by decide +kernel
theorem dX4_late_65 : decode cX4_late 65 = .ok (.if_icmp .ge 50, 3) := by decide +kernel
theorem dX4_late_68 : decode cX4_late 68 = .ok (.aload_n 0, 1) := by decide +kernel
theorem dX4_late_69 : decode cX4_late 69 = .ok (.getfield 65, 3) := by decide +kernel
theorem dX4_late_72 : decode cX4_late 72 = .ok (.aload_n 0, 1) := by decide +kernel
theorem dX4_late_73 : decode cX4_late 73 = .ok (.iload_n 3, 1) := by decide +kernel
theorem dX4_late_74 : decode cX4_late 74 = .ok (.invokevirtual 171, 3) := by decide +kernel
theorem dX4_late_77 : decode cX4_late 77 = .ok (.iconst 1, 1) := by decide +kernel
theorem dX4_late_78 : decode cX4_late 78 = .ok (.iload_n 1, 1) := by decide +kernel
theorem dX4_late_79 : decode cX4_late 79 = .ok (.ishl, 1) := by decide +kernel
theorem dX4_late_80 : decode cX4_late 80 = .ok (.ior, 1) := by decide +kernel
theorem dX4_late_81 : decode cX4_late 81 = .ok (.iaload, 1) := by decide +kernel
theorem dX4_late_82 : decode cX4_late 82 = .ok (.iload_n 3, 1) := by decide +kernel
theorem dX4_late_83 : decode cX4_late 83 = .ok (.invokestatic 147, 3) := by decide +kernel
theorem dX4_late_86 : decode cX4_late 86 = .ok (.if_icmp .le 6, 3) := by decide +kernel
theorem dX4_late_89 : decode cX4_late 89 = .ok (.goto 20, 3) := by decide +kernel
theorem dX4_late_92 : decode cX4_late 92 = .ok (.iload_n 2, 1) := by decide +kernel
theorem dX4_late_93 : decode cX4_late 93 = .ok (.ifCond .eq 14, 3) := by decide +kernel
theorem dX4_late_96 : decode cX4_late 96 = .ok (.iload_n 3, 1) := by decide +kernel
theorem dX4_late_97 : decode cX4_late 97 = .ok (.invokestatic 147, 3) := by decide +kernel
theorem dX4_late_100 : decode cX4_late 100 = .ok (.iload_n 2, 1) := by decide +kernel
theorem dX4_late_101 : decode cX4_late 101 = .ok (.invokestatic 147, 3) := by decide +kernel
theorem dX4_late_104 : decode cX4_late 104 = .ok (.if_icmp .ge 5, 3) := by decide +kernel
theorem dX4_late_107 : decode cX4_late 107 = .ok (.iload_n 3, 1) := by decide +kernel
theorem dX4_late_108 : decode cX4_late 108 = .ok (.istore_n 2, 1) := by decide +kernel
theorem dX4_late_109 : decode cX4_late 109 = .ok (.iinc 3 1, 3) := by decide +kernel
theorem dX4_late_112 : decode cX4_late 112 = .ok (.goto (-54), 3) := by decide +kernel
theorem dX4_late_115 : decode cX4_late 115 = .ok (.iload_n 2, 1) := by decide +kernel
theorem dX4_late_116 : decode cX4_late 116 = .ok (.ifCond .ne 52, 3) := by decide +kernel
theorem dX4_late_119 : decode cX4_late 119 = .ok (.aload_n 0, 1) := by decide +kernel
theorem dX4_late_120 : decode cX4_late 120 = .ok (.getfield 114, 3) := by decide +kernel
theorem dX4_late_123 : decode cX4_late 123 = .ok (.aload_n 0, 1) := by decide +kernel
theorem dX4_late_124 : decode cX4_late 124 = .ok (.getfield 47, 3) := by decide +kernel
theorem dX4_late_127 : decode cX4_late 127 = .ok (.if_icmp .lt 5, 3) := by decide +kernel
theorem dX4_late_130 : decode cX4_late 130 = .ok (.iconst (-1), 1) := by decide +kernel
theorem dX4_late_131 : decode cX4_late 131 = .ok (.ireturn, 1) := by decide +kernel
theorem dX4_late_132 : decode cX4_late 132 = .ok (.aload_n 0, 1) := by decide +kernel
theorem dX4_late_133 : decode cX4_late 133 = .ok (.getfield 50, 3) := by decide +kernel
theorem dX4_late_136 : decode cX4_late 136 = .ok (.aload_n 0, 1) := by decide +kernel
theorem dX4_late_137 : decode cX4_late 137 = .ok (.getfield 114, 3) := by decide +kernel
theorem dX4_late_140 : decode cX4_late 140 = .ok (.iconst 1, 1) := by decide +kernel
theorem dX4_late_141 : decode cX4_late 141 = .ok (.iload_n 1, 1) := by decide +kernel
theorem dX4_late_142 : decode cX4_late 142 = .ok (.ishl, 1) := by decide +kernel
theorem dX4_late_143 : decode cX4_late 143 = .ok (.iastore, 1) := by decide +kernel
theorem dX4_late_144 : decode cX4_late 144 = .ok (.aload_n 0, 1) := by decide +kernel
theorem dX4_late_145 : decode cX4_late 145 = .ok (.dup, 1) := by decide +kernel
theorem dX4_late_146 : decode cX4_late 146 = .ok (.getfield 114, 3) := by decide +kernel
theorem dX4_late_149 : decode cX4_late 149 = .ok (.iconst 1, 1) := by decide +kernel
theorem dX4_late_150 : decode cX4_late 150 = .ok (.iadd, 1) := by decide +kernel
theorem dX4_late_151 : decode cX4_late 151 = .ok (.putfield 114, 3) := by decide +kernel
theorem dX4_late_154 : decode cX4_late 154 = .ok (.aload_n 0, 1) := by decide +kernel
theorem dX4_late_155 : decode cX4_late 155 = .ok (.dup, 1) := by decide +kernel
theorem dX4_late_156 : decode cX4_late 156 = .ok (.getfield 108, 3) := by decide +kernel
theorem dX4_late_159 : decode cX4_late 159 = .ok (.iconst 1, 1) := by decide +kernel
theorem dX4_late_160 : decode cX4_late 160 = .ok (.iload_n 1, 1) := by decide +kernel
theorem dX4_late_161 : decode cX4_late 161 = .ok (.ishl, 1) := by decide +kernel
theorem dX4_late_162 : decode cX4_late 162 = .ok (.ior, 1) := by decide +kernel
theorem dX4_late_163 : decode cX4_late 163 = .ok (.putfield 108, 3) := by decide +kernel
theorem dX4_late_166 : decode cX4_late 166 = .ok (.iconst 1, 1) := by decide +kernel
theorem dX4_late_167 : decode cX4_late 167 = .ok (.ireturn, 1) := by decide +kernel
theorem dX4_late_168 : decode cX4_late 168 = .ok (.aload_n 0, 1) := by decide +kernel
theorem dX4_late_169 : decode cX4_late 169 = .ok (.aload_n 0, 1) := by decide +kernel
theorem dX4_late_170 : decode cX4_late 170 = .ok (.iload_n 2, 1) := by decide +kernel
theorem dX4_late_171 : decode cX4_late 171 = .ok (.invokevirtual 171, 3) := by decide +kernel
theorem dX4_late_174 : decode cX4_late 174 = .ok (.iconst 1, 1) := by decide +kernel
theorem dX4_late_175 : decode cX4_late 175 = .ok (.iload_n 1, 1) := by decide +kernel
theorem dX4_late_176 : decode cX4_late 176 = .ok (.ishl, 1) := by decide +kernel
theorem dX4_late_177 : decode cX4_late 177 = .ok (.ior, 1) := by decide +kernel
theorem dX4_late_178 : decode cX4_late 178 = .ok (.invokevirtual 165, 3) := by decide +kernel
theorem dX4_late_181 : decode cX4_late 181 = .ok (.istore_n 3, 1) := by decide +kernel
theorem dX4_late_182 : decode cX4_late 182 = .ok (.iconst 0, 1) := by decide +kernel
theorem dX4_late_183 : decode cX4_late 183 = .ok (.istore 4, 2) := by decide +kernel
theorem dX4_late_185 : decode cX4_late 185 = .ok (.iconst 0, 1) := by decide +kernel
theorem dX4_late_186 : decode cX4_late 186 = .ok (.istore 5, 2) := by decide +kernel
theorem dX4_late_188 : decode cX4_late 188 = .ok (.iload 5, 2) := by decide +kernel
theorem dX4_late_190 : decode cX4_late 190 = .ok (.aload_n 0, 1) := by decide +kernel
theorem dX4_late_191 : decode cX4_late 191 = .ok (.getfield 114, 3) := by decide +kernel
theorem dX4_late_194 : decode cX4_late 194 = .ok (.if_icmp .ge 48, 3) := by decide +kernel
theorem dX4_late_197 : decode cX4_late 197 = .ok (.iload_n 2, 1) := by decide +kernel
theorem dX4_late_198 : decode cX4_late 198 = .ok (.iload 5, 2) := by decide +kernel
theorem dX4_late_200 : decode cX4_late 200 = .ok (.ishr, 1) := by decide +kernel
theorem dX4_late_201 : decode cX4_late 201 = .ok (.iconst 1, 1) := by decide +kernel
theorem dX4_late_202 : decode cX4_late 202 = .ok (.iand, 1) := by decide +kernel
theorem dX4_late_203 : decode cX4_late 203 = .ok (.ifCond .ne 6, 3) := by decide +kernel
theorem dX4_late_206 : decode cX4_late 206 = .ok (.goto 30, 3) := by decide +kernel
theorem dX4_late_209 : decode cX4_late 209 = .ok (.aload_n 0, 1) := by decide +kernel
theorem dX4_late_210 : decode cX4_late 210 = .ok (.getfield 50, 3) := by decide +kernel
theorem dX4_late_213 : decode cX4_late 213 = .ok (.iload 5, 2) := by decide +kernel
theorem dX4_late_215 : decode cX4_late 215 = .ok (.iload 4, 2) := by decide +kernel
theorem dX4_late_217 : decode cX4_late 217 = .ok (.iload_n 3, 1) := by decide +kernel
theorem dX4_late_218 : decode cX4_late 218 = .ok (.if_icmp .ge 13, 3) := by decide +kernel
theorem dX4_late_221 : decode cX4_late 221 = .ok (.aload_n 0, 1) := by decide +kernel
theorem dX4_late_222 : decode cX4_late 222 = .ok (.getfield 68, 3) := by decide +kernel
theorem dX4_late_225 : decode cX4_late 225 = .ok (.iload 4, 2) := by decide +kernel
theorem dX4_late_227 : decode cX4_late 227 = .ok (.iaload, 1) := by decide +kernel
theorem dX4_late_228 : decode cX4_late 228 = .ok (.goto 4, 3) := by decide +kernel
theorem dX4_late_231 : decode cX4_late 231 = .ok (.iconst 0, 1) := by decide +kernel
theorem dX4_late_232 : decode cX4_late 232 = .ok (.iastore, 1) := by decide +kernel
theorem dX4_late_233 : decode cX4_late 233 = .ok (.iinc 4 1, 3) := by decide +kernel
theorem dX4_late_236 : decode cX4_late 236 = .ok (.iinc 5 1, 3) := by decide +kernel
theorem dX4_late_239 : decode cX4_late 239 = .ok (.goto (-51), 3) := by decide +kernel
theorem dX4_late_242 : decode cX4_late 242 = .ok (.aload_n 0, 1) := by decide +kernel
theorem dX4_late_243 : decode cX4_late 243 = .ok (.dup, 1) := by decide +kernel
theorem dX4_late_244 : decode cX4_late 244 = .ok (.getfield 108, 3) := by decide +kernel
theorem dX4_late_247 : decode cX4_late 247 = .ok (.iconst 1, 1) := by decide +kernel
theorem dX4_late_248 : decode cX4_late 248 = .ok (.iload_n 1, 1) := by decide +kernel
theorem dX4_late_249 : decode cX4_late 249 = .ok (.ishl, 1) := by decide +kernel
theorem dX4_late_250 : decode cX4_late 250 = .ok (.ior, 1) := by decide +kernel
theorem dX4_late_251 : decode cX4_late 251 = .ok (.putfield 108, 3) := by decide +kernel
theorem dX4_late_254 : decode cX4_late 254 = .ok (.iload_n 2, 1) := by decide +kernel
theorem dX4_late_255 : decode cX4_late 255 = .ok (.invokestatic 147, 3) := by decide +kernel
theorem dX4_late_258 : decode cX4_late 258 = .ok (.ireturn, 1) := by decide +kernel
set_option maxRecDepth 20000 in
theorem ggX4_drop_X4_isPicture : GoodIn wsX4_drop wsX4_isPicture := goodIn_r _ [8, 9, 10, 11, 7, 12, 18, 19, 20, 21, 22, 23, 24, 25, 26, 27, 28, 29, 30, 31, 32, 33, 34, 35, 36, 37, 38, 39, 40, 41, 42, 43, 44] (by decide +kernel) (by decide +kernel)
set_option maxRecDepth 20000 in
theorem gX4_drop_X4_isPicture : GoodIn wsX4_drop (wsV RX4 88 RX4 yX4_isPicture wsX4_isPicture) := goodIn_app (goodIn_of _ (by decide +kernel)) ggX4_drop_X4_isPicture
set_option maxRecDepth 20000 in
theorem ggX4_drop_X4_pageOf : GoodIn wsX4_drop wsX4_pageOf := goodIn_r _ [16, 17, 2, 18, 19, 20, 21, 22, 23, 24, 25, 26, 27, 28, 29, 30, 31, 32, 33, 34, 35, 36, 37, 38, 39, 40, 41, 42, 43, 44] (by decide +kernel) (by decide +kernel)
set_option maxRecDepth 20000 in
theorem gX4_drop_X4_pageOf : GoodIn wsX4_drop (wsV RX4 124 RX4 yX4_pageOf wsX4_pageOf) := goodIn_app (goodIn_of _ (by decide +kernel)) ggX4_drop_X4_pageOf
theorem dX4_drop_0 : decode cX4_drop 0 = .ok (.aload_n 0, 1) := by decide +kernel
theorem dX4_drop_1 : decode cX4_drop 1 = .ok (.iconst 0, 1) := by decide +kernel
theorem dX4_drop_2 : decode cX4_drop 2 = .ok (.putfield 71, 3) := by decide +kernel
theorem dX4_drop_5 : decode cX4_drop 5 = .ok (.aload_n 0, 1) := by decide +kernel
theorem dX4_drop_6 : decode cX4_drop 6 = .ok (.iload_n 1, 1) := by decide +kernel
theorem dX4_drop_7 : decode cX4_drop 7 = .ok (.invokevirtual 88, 3) := by decide +kernel
theorem dX4_drop_10 : decode cX4_drop 10 = .ok (.ifCond .eq 12, 3) := by decide +kernel
theorem dX4_drop_13 : decode cX4_drop 13 = .ok (.aload_n 0, 1) := by decide +kernel
theorem dX4_drop_14 : decode cX4_drop 14 = .ok (.iload_n 1, 1) := by decide +kernel
theorem dX4_drop_15 : decode cX4_drop 15 = .ok (.invokevirtual 124, 3) := by decide +kernel
theorem dX4_drop_18 : decode cX4_drop 18 = .ok (.iconst (-1), 1) := by decide +kernel
theorem dX4_drop_19 : decode cX4_drop 19 = .ok (.if_icmp .ne 5, 3) := by decide +kernel
theorem dX4_drop_22 : decode cX4_drop 22 = .ok (.iconst 0, 1) := by decide +kernel
theorem dX4_drop_23 : decode cX4_drop 23 = .ok (.ireturn, 1) := by decide +kernel
theorem dX4_drop_24 : decode cX4_drop 24 = .ok (.aload_n 0, 1) := by decide +kernel
theorem dX4_drop_25 : decode cX4_drop 25 = .ok (.getfield 50, 3) := by decide +kernel
theorem dX4_drop_28 : decode cX4_drop 28 = .ok (.aload_n 0, 1) := by decide +kernel
theorem dX4_drop_29 : decode cX4_drop 29 = .ok (.iload_n 1, 1) := by decide +kernel
theorem dX4_drop_30 : decode cX4_drop 30 = .ok (.invokevirtual 124, 3) := by decide +kernel
theorem dX4_drop_33 : decode cX4_drop 33 = .ok (.dup2, 1) := by decide +kernel
theorem dX4_drop_34 : decode cX4_drop 34 = .ok (.iaload, 1) := by decide +kernel
theorem dX4_drop_35 : decode cX4_drop 35 = .ok (.iconst 1, 1) := by decide +kernel
theorem dX4_drop_36 : decode cX4_drop 36 = .ok (.iload_n 1, 1) := by decide +kernel
theorem dX4_drop_37 : decode cX4_drop 37 = .ok (.ishl, 1) := by decide +kernel
theorem dX4_drop_38 : decode cX4_drop 38 = .ok (.ixor, 1) := by decide +kernel
theorem dX4_drop_39 : decode cX4_drop 39 = .ok (.iastore, 1) := by decide +kernel
theorem dX4_drop_40 : decode cX4_drop 40 = .ok (.aload_n 0, 1) := by decide +kernel
theorem dX4_drop_41 : decode cX4_drop 41 = .ok (.dup, 1) := by decide +kernel
theorem dX4_drop_42 : decode cX4_drop 42 = .ok (.getfield 108, 3) := by decide +kernel
theorem dX4_drop_45 : decode cX4_drop 45 = .ok (.iconst 1, 1) := by decide +kernel
theorem dX4_drop_46 : decode cX4_drop 46 = .ok (.iload_n 1, 1) := by decide +kernel
theorem dX4_drop_47 : decode cX4_drop 47 = .ok (.ishl, 1) := by decide +kernel
theorem dX4_drop_48 : decode cX4_drop 48 = .ok (.iconst (-1), 1) := by decide +kernel
theorem dX4_drop_49 : decode cX4_drop 49 = .ok (.ixor, 1) := by decide +kernel
theorem dX4_drop_50 : decode cX4_drop 50 = .ok (.iand, 1) := by decide +kernel
theorem dX4_drop_51 : decode cX4_drop 51 = .ok (.putfield 108, 3) := by decide +kernel
theorem dX4_drop_54 : decode cX4_drop 54 = .ok (.iconst 1, 1) := by decide +kernel
theorem dX4_drop_55 : decode cX4_drop 55 = .ok (.ireturn, 1) := by decide +kernel
theorem dJ6_bitCount_0f7a4_0 : decode cJ6_bitCount_0f7a4 0 = .ok (.iload_n 0, 1) := by decide +kernel
theorem dJ6_bitCount_0f7a4_1 : decode cJ6_bitCount_0f7a4 1 = .ok (.iload_n 0, 1) := by decide +kernel
theorem dJ6_bitCount_0f7a4_2 : decode cJ6_bitCount_0f7a4 2 = .ok (.iconst 1, 1) := by decide +kernel
theorem dJ6_bitCount_0f7a4_3 : decode cJ6_bitCount_0f7a4 3 = .ok (.iushr, 1) := by decide +kernel
theorem dJ6_bitCount_0f7a4_4 : decode cJ6_bitCount_0f7a4 4 = .ok (.ldc_w 265, 3) := by decide +kernel
theorem dJ6_bitCount_0f7a4_7 : decode cJ6_bitCount_0f7a4 7 = .ok (.iand, 1) := by decide +kernel
theorem dJ6_bitCount_0f7a4_8 : decode cJ6_bitCount_0f7a4 8 = .ok (.isub, 1) := by decide +kernel
theorem dJ6_bitCount_0f7a4_9 : decode cJ6_bitCount_0f7a4 9 = .ok (.istore_n 0, 1) := by decide +kernel
theorem dJ6_bitCount_0f7a4_10 : decode cJ6_bitCount_0f7a4 10 = .ok (.iload_n 0, 1) := by decide +kernel
theorem dJ6_bitCount_0f7a4_11 : decode cJ6_bitCount_0f7a4 11 = .ok (.ldc_w 266, 3) := by decide +kernel
theorem dJ6_bitCount_0f7a4_14 : decode cJ6_bitCount_0f7a4 14 = .ok (.iand, 1) := by decide +kernel
theorem dJ6_bitCount_0f7a4_15 : decode cJ6_bitCount_0f7a4 15 = .ok (.iload_n 0, 1) := by decide +kernel
theorem dJ6_bitCount_0f7a4_16 : decode cJ6_bitCount_0f7a4 16 = .ok (.iconst 2, 1) := by decide +kernel
theorem dJ6_bitCount_0f7a4_17 : decode cJ6_bitCount_0f7a4 17 = .ok (.iushr, 1) := by decide +kernel
theorem dJ6_bitCount_0f7a4_18 : decode cJ6_bitCount_0f7a4 18 = .ok (.ldc_w 266, 3) := by decide +kernel
theorem dJ6_bitCount_0f7a4_21 : decode cJ6_bitCount_0f7a4 21 = .ok (.iand, 1) := by decide +kernel
theorem dJ6_bitCount_0f7a4_22 : decode cJ6_bitCount_0f7a4 22 = .ok (.iadd, 1) := by decide +kernel
theorem dJ6_bitCount_0f7a4_23 : decode cJ6_bitCount_0f7a4 23 = .ok (.istore_n 0, 1) := by decide +kernel
theorem dJ6_bitCount_0f7a4_24 : decode cJ6_bitCount_0f7a4 24 = .ok (.iload_n 0, 1) := by decide +kernel
theorem dJ6_bitCount_0f7a4_25 : decode cJ6_bitCount_0f7a4 25 = .ok (.iload_n 0, 1) := by decide +kernel
theorem dJ6_bitCount_0f7a4_26 : decode cJ6_bitCount_0f7a4 26 = .ok (.iconst 4, 1) := by decide +kernel
theorem dJ6_bitCount_0f7a4_27 : decode cJ6_bitCount_0f7a4 27 = .ok (.iushr, 1) := by decide +kernel
theorem dJ6_bitCount_0f7a4_28 : decode cJ6_bitCount_0f7a4 28 = .ok (.iadd, 1) := by decide +kernel
theorem dJ6_bitCount_0f7a4_29 : decode cJ6_bitCount_0f7a4 29 = .ok (.ldc_w 267, 3) := by decide +kernel
theorem dJ6_bitCount_0f7a4_32 : decode cJ6_bitCount_0f7a4 32 = .ok (.iand, 1) := by decide +kernel
theorem dJ6_bitCount_0f7a4_33 : decode cJ6_bitCount_0f7a4 33 = .ok (.istore_n 0, 1) := by decide +kernel
theorem dJ6_bitCount_0f7a4_34 : decode cJ6_bitCount_0f7a4 34 = .ok (.iload_n 0, 1) := by decide +kernel
theorem dJ6_bitCount_0f7a4_35 : decode cJ6_bitCount_0f7a4 35 = .ok (.iload_n 0, 1) := by decide +kernel
theorem dJ6_bitCount_0f7a4_36 : decode cJ6_bitCount_0f7a4 36 = .ok (.bipush 8, 2) := by decide +kernel
theorem dJ6_bitCount_0f7a4_38 : decode cJ6_bitCount_0f7a4 38 = .ok (.iushr, 1) := by decide +kernel
theorem dJ6_bitCount_0f7a4_39 : decode cJ6_bitCount_0f7a4 39 = .ok (.iadd, 1) := by decide +kernel
theorem dJ6_bitCount_0f7a4_40 : decode cJ6_bitCount_0f7a4 40 = .ok (.istore_n 0, 1) := by decide +kernel
theorem dJ6_bitCount_0f7a4_41 : decode cJ6_bitCount_0f7a4 41 = .ok (.iload_n 0, 1) := by decide +kernel
theorem dJ6_bitCount_0f7a4_42 : decode cJ6_bitCount_0f7a4 42 = .ok (.iload_n 0, 1) := by decide +kernel
theorem dJ6_bitCount_0f7a4_43 : decode cJ6_bitCount_0f7a4 43 = .ok (.bipush 16, 2) := by decide +kernel
theorem dJ6_bitCount_0f7a4_45 : decode cJ6_bitCount_0f7a4 45 = .ok (.iushr, 1) := by decide +kernel
theorem dJ6_bitCount_0f7a4_46 : decode cJ6_bitCount_0f7a4 46 = .ok (.iadd, 1) := by decide +kernel
theorem dJ6_bitCount_0f7a4_47 : decode cJ6_bitCount_0f7a4 47 = .ok (.istore_n 0, 1) := by decide +kernel
theorem dJ6_bitCount_0f7a4_48 : decode cJ6_bitCount_0f7a4 48 = .ok (.iload_n 0, 1) := by decide +kernel
theorem dJ6_bitCount_0f7a4_49 : decode cJ6_bitCount_0f7a4 49 = .ok (.bipush 63, 2) := by decide +kernel
theorem dJ6_bitCount_0f7a4_51 : decode cJ6_bitCount_0f7a4 51 = .ok (.iand, 1) := by decide +kernel
theorem dJ6_bitCount_0f7a4_52 : decode cJ6_bitCount_0f7a4 52 = .ok (.ireturn, 1) := by decide +kernel
theorem dJ9_max_7cf53_0 : decode cJ9_max_7cf53 0 = .ok (.iload_n 0, 1) := by decide +kernel
theorem dJ9_max_7cf53_1 : decode cJ9_max_7cf53 1 = .ok (.iload_n 1, 1) := by decide +kernel
theorem dJ9_max_7cf53_2 : decode cJ9_max_7cf53 2 = .ok (.if_icmp .lt 7, 3) := by decide +kernel
theorem dJ9_max_7cf53_5 : decode cJ9_max_7cf53 5 = .ok (.iload_n 0, 1) := by decide +kernel
theorem dJ9_max_7cf53_6 : decode cJ9_max_7cf53 6 = .ok (.goto 4, 3) := by decide +kernel
theorem dJ9_max_7cf53_9 : decode cJ9_max_7cf53 9 = .ok (.iload_n 1, 1) := by decide +kernel
theorem dJ9_max_7cf53_10 : decode cJ9_max_7cf53 10 = .ok (.ireturn, 1) := by decide +kernel
theorem dJ9_min_7cf53_0 : decode cJ9_min_7cf53 0 = .ok (.iload_n 0, 1) := by decide +kernel
theorem dJ9_min_7cf53_1 : decode cJ9_min_7cf53 1 = .ok (.iload_n 1, 1) := by decide +kernel
theorem dJ9_min_7cf53_2 : decode cJ9_min_7cf53 2 = .ok (.if_icmp .gt 7, 3) := by decide +kernel
theorem dJ9_min_7cf53_5 : decode cJ9_min_7cf53 5 = .ok (.iload_n 0, 1) := by decide +kernel
theorem dJ9_min_7cf53_6 : decode cJ9_min_7cf53 6 = .ok (.goto 4, 3) := by decide +kernel
theorem dJ9_min_7cf53_9 : decode cJ9_min_7cf53 9 = .ok (.iload_n 1, 1) := by decide +kernel
theorem dJ9_min_7cf53_10 : decode cJ9_min_7cf53 10 = .ok (.ireturn, 1) := by decide +kernel
theorem dJ7_copyOf_59c91_0 : decode cJ7_copyOf_59c91 0 = .ok (.iload_n 1, 1) := by decide +kernel
theorem dJ7_copyOf_59c91_1 : decode cJ7_copyOf_59c91 1 = .ok (.aload_n 0, 1) := by decide +kernel
theorem dJ7_copyOf_59c91_2 : decode cJ7_copyOf_59c91 2 = .ok (.arraylength, 1) := by decide +kernel
theorem dJ7_copyOf_59c91_3 : decode cJ7_copyOf_59c91 3 = .ok (.if_icmp .ne 11, 3) := by decide +kernel
theorem dJ7_copyOf_59c91_6 : decode cJ7_copyOf_59c91 6 = .ok (.aload_n 0, 1) := by decide +kernel
theorem dJ7_copyOf_59c91_7 : decode cJ7_copyOf_59c91 7 = .ok (.invokevirtual 316, 3) := by decide +kernel
theorem dJ7_copyOf_59c91_10 : decode cJ7_copyOf_59c91 10 = .ok (.checkcast 317, 3) := by decide +kernel
theorem dJ7_copyOf_59c91_13 : decode cJ7_copyOf_59c91 13 = .ok (.areturn, 1) := by decide +kernel
theorem dJ7_copyOf_59c91_14 : decode cJ7_copyOf_59c91 14 = .ok (.iload_n 1, 1) := by decide +kernel
theorem dJ7_copyOf_59c91_15 : decode cJ7_copyOf_59c91 15 = .ok (.newarray .int, 2) := by decide +kernel
theorem dJ7_copyOf_59c91_17 : decode cJ7_copyOf_59c91 17 = .ok (.astore_n 2, 1) := by decide +kernel
theorem dJ7_copyOf_59c91_18 : decode cJ7_copyOf_59c91 18 = .ok (.aload_n 0, 1) := by decide +kernel
theorem dJ7_copyOf_59c91_19 : decode cJ7_copyOf_59c91 19 = .ok (.iconst 0, 1) := by decide +kernel
theorem dJ7_copyOf_59c91_20 : decode cJ7_copyOf_59c91 20 = .ok (.aload_n 2, 1) := by decide +kernel
theorem dJ7_copyOf_59c91_21 : decode cJ7_copyOf_59c91 21 = .ok (.iconst 0, 1) := by decide +kernel
theorem dJ7_copyOf_59c91_22 : decode cJ7_copyOf_59c91 22 = .ok (.aload_n 0, 1) := by decide +kernel
theorem dJ7_copyOf_59c91_23 : decode cJ7_copyOf_59c91 23 = .ok (.arraylength, 1) := by decide +kernel
theorem dJ7_copyOf_59c91_24 : decode cJ7_copyOf_59c91 24 = .ok (.iload_n 1, 1) := by decide +kernel
theorem dJ7_copyOf_59c91_25 : decode cJ7_copyOf_59c91 25 = .ok (.invokestatic 304, 3) := by decide +kernel
theorem dJ7_copyOf_59c91_28 : decode cJ7_copyOf_59c91 28 = .ok (.invokestatic 150, 3) := by decide +kernel
theorem dJ7_copyOf_59c91_31 : decode cJ7_copyOf_59c91 31 = .ok (.aload_n 2, 1) := by decide +kernel
theorem dJ7_copyOf_59c91_32 : decode cJ7_copyOf_59c91 32 = .ok (.areturn, 1) := by decide +kernel
end
section
/-! helpers: whole-world calls and ends, static ends, switches -/
section
variable {p : Program} {l : Launch} {e : Env} {R : Room} {s : State} {m : MethodId} {args : Array Value} {below : List Frame} {meth : Method} {c : Code} {H : Heap} {locs : List Loc} {cells slots : Nat} {Q : State → Prop}
variable {pc : Nat} {ls : Array Slot} {rest st0 : List Value} {D : va_G} {cl : List vw_C} {A : Nat → Prop} {tys : List (ClassId × FieldType)} {ws : va_W} {cc : ByteArray}
abbrev wPre (D : va_G) (cl : List vw_C) (tys : List (ClassId × FieldType)) (ws : va_W) (sz : Nat) : State → Prop := fun U => U.heap.size = sz ∧ va_P D cl ws U.heap ∧ va_K D cl tys U ∧ va_D (fun _ => True) ws
abbrev wAt {S : Type} (D : va_G) (cl : List vw_C) (tys : List (ClassId × FieldType)) (A : Nat → Prop) (wf : S → va_W) : S → State → Prop := fun u t => va_P D cl (wf u) t.heap ∧ va_K D cl tys t ∧ va_D A (wf u)
theorem wBlind {av : List Value} {sz : Nat} : FrameBlind (va_Pc av (wPre D cl tys ws sz)) := fun a U g mk q => by
  obtain ⟨q0, q1, qP, qK, qD⟩ := q
  exact ⟨q0, q1, qP, va_K.moved (u := U) (U := U.calling g mk a) (Vm.Alike.refl U.vm) qK, qD⟩
theorem wPreV {b : Nat} {As : List Value} {q0 ci : Nat} {q : vw_C} {fs : List Value} (hK : va_K D cl tys s) (hP : va_P D cl ws H) (hD : va_D A ws) (hc : cl[ci]? = some q) (he : ws[q0]? = some (b, .inr (ci, fs))) : PreV s H q.1 b (va_Pc (.ref b :: As) (wPre D cl tys ws H.size)) As :=
  ⟨wBlind, va_recv hK hP hc he, fun U hU hW => ⟨rfl, by rw [hU], by rw [hU]; exact hP, va_K.moved hW.alike hK, hD.weaken (fun _ _ _ _ => trivial)⟩⟩
theorem wFree (hD : va_D A ws) (hS : va_S A s.heap H locs) (hA : ∀ q, s.heap.size ≤ q → A q) : ∀ q, va_A ws H.size q → A q := by
  intro q h
  rcases h with ⟨k, e, h⟩ | h
  · exact hD.2 k (q, e) h
  · exact hA q (Nat.le_trans hS.1 h)
theorem w_calli {S : Type} {post : Int32 → S → Prop} {wf : S → va_W} {a : Array Value} {mc ms : Nat} (hr : va_Run p l e R s m args below meth c H locs cells slots mc ms (F0 m pc ls st0) rest (va_Qi post (wAt D cl tys (va_A ws H.size) wf) (va_A ws H.size) a) (va_A ws H.size)) (hD : va_D A ws) (hS : va_S A s.heap H locs) (hA : ∀ q, s.heap.size ≤ q → A q)
    (kk : ∀ (r : Int32) (u : S) (H1 : Heap) (locs1 : List Loc), post r u → va_P D cl (wf u) H1 → va_D A (wf u) → va_S A s.heap H1 locs1 → W p l e R s m args below meth c H1 locs1 (cells + mc) (slots + ms) Q (F0 m (pc + 3) ls (.int r :: rest))) : W p l e R s m args below meth c H locs cells slots Q (F0 m pc ls st0) :=
  va_calli hr hS (fun q _ h => wFree hD hS hA q h) (wFree hD hS hA) (fun r u t H1 locs1 ht _ hw hB _ _ hS1 => kk r u H1 locs1 hw (by rw [← ht]; exact hB.1) (hB.2.2.weaken (fun _ _ _ hq => wFree hD hS hA _ hq)) hS1)
theorem w_calll {S : Type} {post : Int64 → S → Prop} {wf : S → va_W} {a : Array Value} {mc ms : Nat} (hr : va_Run p l e R s m args below meth c H locs cells slots mc ms (F0 m pc ls st0) rest (va_Ql post (wAt D cl tys (va_A ws H.size) wf) (va_A ws H.size) a) (va_A ws H.size)) (hD : va_D A ws) (hS : va_S A s.heap H locs) (hA : ∀ q, s.heap.size ≤ q → A q)
    (kk : ∀ (r : Int64) (u : S) (H1 : Heap) (locs1 : List Loc), post r u → va_P D cl (wf u) H1 → va_D A (wf u) → va_S A s.heap H1 locs1 → W p l e R s m args below meth c H1 locs1 (cells + mc) (slots + ms) Q (F0 m (pc + 3) ls (.long r :: rest))) : W p l e R s m args below meth c H locs cells slots Q (F0 m pc ls st0) :=
  va_calll hr hS (fun q _ h => wFree hD hS hA q h) (wFree hD hS hA) (fun r u t H1 locs1 ht _ hw hB _ _ hS1 => kk r u H1 locs1 hw (by rw [← ht]; exact hB.1) (hB.2.2.weaken (fun _ _ _ hq => wFree hD hS hA _ hq)) hS1)
theorem w_callv {S : Type} {post : S → Prop} {wf : S → va_W} {a : Array Value} {mc ms : Nat} (hr : va_Run p l e R s m args below meth c H locs cells slots mc ms (F0 m pc ls st0) rest (va_Qv post (wAt D cl tys (va_A ws H.size) wf) (va_A ws H.size) a) (va_A ws H.size)) (hD : va_D A ws) (hS : va_S A s.heap H locs) (hA : ∀ q, s.heap.size ≤ q → A q)
    (kk : ∀ (u : S) (H1 : Heap) (locs1 : List Loc), post u → va_P D cl (wf u) H1 → va_D A (wf u) → va_S A s.heap H1 locs1 → W p l e R s m args below meth c H1 locs1 (cells + mc) (slots + ms) Q (F0 m (pc + 3) ls rest)) : W p l e R s m args below meth c H locs cells slots Q (F0 m pc ls st0) :=
  va_callv hr hS (fun q _ h => wFree hD hS hA q h) (wFree hD hS hA) (fun u t H1 locs1 ht _ hw hB _ _ hS1 => kk u H1 locs1 hw (by rw [← ht]; exact hB.1) (hB.2.2.weaken (fun _ _ _ hq => wFree hD hS hA _ hq)) hS1)
theorem w_iret {S : Type} {post : Int32 → S → Prop} {wf : S → va_W} {u : S} {v : Int32} (hx : p.tables.exec = Jvm.exec) (hb : c.code = cc) (hr : meth.sig.returnType = some .int) (hK : va_K D cl tys s) (hP : va_P D cl (wf u) H) (hD : va_D A (wf u)) (hS : va_S A s.heap H locs) (hq : post v u) (hdg : decode cc pc = .ok (.ireturn, 1)) (hlocks : meth.locks = false) :
    W p l e R s m args below meth c H locs cells slots (MQ below (va_Qi post (wAt D cl tys A wf) A) args s cells slots A) (F0 m pc ls [.int v]) :=
  W.iret hx hb hr (fun t ht hW => ⟨⟨v, u, rfl, hq, by rw [ht]; exact hP, va_K.moved hW.alike hK, hD⟩, hS.F ht⟩) hS.2.2 hdg hlocks
theorem w_zret {S : Type} {post : Int32 → S → Prop} {wf : S → va_W} {u : S} {v : Int32} (hx : p.tables.exec = Jvm.exec) (hb : c.code = cc) (hr : meth.sig.returnType = some .boolean) (hn : narrow .boolean (.int v) = .int v) (hK : va_K D cl tys s) (hP : va_P D cl (wf u) H) (hD : va_D A (wf u)) (hS : va_S A s.heap H locs) (hq : post v u) (hdg : decode cc pc = .ok (.ireturn, 1)) (hlocks : meth.locks = false) :
    W p l e R s m args below meth c H locs cells slots (MQ below (va_Qi post (wAt D cl tys A wf) A) args s cells slots A) (F0 m pc ls [.int v]) :=
  W.zret hx hb hr hn (fun t ht hW => ⟨⟨v, u, rfl, hq, by rw [ht]; exact hP, va_K.moved hW.alike hK, hD⟩, hS.F ht⟩) hS.2.2 hdg hlocks
theorem w_lret {S : Type} {post : Int64 → S → Prop} {wf : S → va_W} {u : S} {v : Int64} (hx : p.tables.exec = Jvm.exec) (hb : c.code = cc) (hr : meth.sig.returnType = some .long) (hK : va_K D cl tys s) (hP : va_P D cl (wf u) H) (hD : va_D A (wf u)) (hS : va_S A s.heap H locs) (hq : post v u) (hdg : decode cc pc = .ok (.lreturn, 1)) (hlocks : meth.locks = false) :
    W p l e R s m args below meth c H locs cells slots (MQ below (va_Ql post (wAt D cl tys A wf) A) args s cells slots A) (F0 m pc ls [.long v]) :=
  W.lret hx hb hr (fun t ht hW => ⟨⟨v, u, rfl, hq, by rw [ht]; exact hP, va_K.moved hW.alike hK, hD⟩, hS.F ht⟩) hS.2.2 hdg hlocks
theorem w_vret {S : Type} {post : S → Prop} {wf : S → va_W} {u : S} (hx : p.tables.exec = Jvm.exec) (hb : c.code = cc) (hr : meth.sig.returnType = none) (hK : va_K D cl tys s) (hP : va_P D cl (wf u) H) (hD : va_D A (wf u)) (hS : va_S A s.heap H locs) (hq : post u) (hdg : decode cc pc = .ok (.return_, 1)) (hlocks : meth.locks = false) :
    W p l e R s m args below meth c H locs cells slots (MQ below (va_Qv post (wAt D cl tys A wf) A) args s cells slots A) (F0 m pc ls []) :=
  W.vret hx hb hr (fun t ht hW => ⟨⟨u, rfl, hq, by rw [ht]; exact hP, va_K.moved hW.alike hK, hD⟩, hS.F ht⟩) hS.2.2 hdg hlocks
theorem s_iret {post : Int32 → Prop} {v : Int32} (hx : p.tables.exec = Jvm.exec) (hb : c.code = cc) (hr : meth.sig.returnType = some .int) (hq : post v) (hdg : decode cc pc = .ok (.ireturn, 1)) (hlocks : meth.locks = false) :
    W p l e R s m args below meth c s.heap [] cells slots (MQ below (vp_Si post) args s cells slots (fun _ => False)) (F0 m pc ls [.int v]) :=
  W.iret hx hb hr (fun t ht _ => ⟨v, rfl, hq, ht⟩) (fun _ h => nomatch h) hdg hlocks
theorem s_zret {post : Int32 → Prop} {v : Int32} (hx : p.tables.exec = Jvm.exec) (hb : c.code = cc) (hr : meth.sig.returnType = some .boolean) (hn : narrow .boolean (.int v) = .int v) (hq : post v) (hdg : decode cc pc = .ok (.ireturn, 1)) (hlocks : meth.locks = false) :
    W p l e R s m args below meth c s.heap [] cells slots (MQ below (vp_Si post) args s cells slots (fun _ => False)) (F0 m pc ls [.int v]) :=
  W.zret hx hb hr hn (fun t ht _ => ⟨v, rfl, hq, ht⟩) (fun _ h => nomatch h) hdg hlocks
theorem s_lret {post : Int64 → Prop} {v : Int64} (hx : p.tables.exec = Jvm.exec) (hb : c.code = cc) (hr : meth.sig.returnType = some .long) (hq : post v) (hdg : decode cc pc = .ok (.lreturn, 1)) (hlocks : meth.locks = false) :
    W p l e R s m args below meth c s.heap [] cells slots (MQ below (vp_Sl post) args s cells slots (fun _ => False)) (F0 m pc ls [.long v]) :=
  W.lret hx hb hr (fun t ht _ => ⟨v, rfl, hq, ht⟩) (fun _ h => nomatch h) hdg hlocks
end
theorem ne_toInt {x n : Int32} (h : ¬ x = n) : x.toInt ≠ n.toInt := fun e => h (Int32.toInt_inj.mp e)
section
variable {D : va_G} {cl : List vw_C} {A : Nat → Prop} {H H1 : Heap} {a b w1 w2 ws w' : va_W}
theorem vP_l (h : va_P D cl (a ++ b) H) : va_P D cl a H := fun k q hk => h k q (by
  rw [List.getElem?_append_left (List.getElem?_eq_some_iff.mp hk).1]; exact hk)
theorem vP_r (h : va_P D cl (a ++ b) H) : va_P D cl b H := fun k q hk => h (a.length + k) q (by
  rw [List.getElem?_append_right (Nat.le_add_right _ _), Nat.add_sub_cancel_left]; exact hk)
theorem vD_l (h : va_D A (a ++ b)) : va_D A a :=
  ⟨fun i j p q hi hj e => h.1 i j p q (by rw [List.getElem?_append_left (List.getElem?_eq_some_iff.mp hi).1]; exact hi) (by rw [List.getElem?_append_left (List.getElem?_eq_some_iff.mp hj).1]; exact hj) e,
   fun k q hk => h.2 k q (by rw [List.getElem?_append_left (List.getElem?_eq_some_iff.mp hk).1]; exact hk)⟩
theorem vD_r (h : va_D A (a ++ b)) : va_D A b :=
  ⟨fun i j p q hi hj e => Nat.add_left_cancel (h.1 (a.length + i) (a.length + j) p q (by rw [List.getElem?_append_right (Nat.le_add_right _ _), Nat.add_sub_cancel_left]; exact hi) (by rw [List.getElem?_append_right (Nat.le_add_right _ _), Nat.add_sub_cancel_left]; exact hj) e),
   fun k q hk => h.2 (a.length + k) q (by rw [List.getElem?_append_right (Nat.le_add_right _ _), Nat.add_sub_cancel_left]; exact hk)⟩
theorem vD_x (h : va_D A (a ++ b)) : ∀ (i j : Nat) (p q : Nat × va_E), a[i]? = some p → b[j]? = some q → p.1 ≠ q.1 := by
  intro i j p q hi hj e
  have hl := (List.getElem?_eq_some_iff.mp hi).1
  have := h.1 i (a.length + j) p q (by rw [List.getElem?_append_left hl]; exact hi) (by rw [List.getElem?_append_right (Nat.le_add_right _ _), Nat.add_sub_cancel_left]; exact hj) e
  omega
theorem va_mid (hP : va_P D cl (w1 ++ (ws ++ w2)) H) (hD : va_D A (w1 ++ (ws ++ w2))) (hk : ∀ q : Nat, q < H.size → ¬ va_A ws H.size q → H1[q]? = H[q]?) (hF : ∀ q, va_A ws H.size q → A q) (hP1 : va_P D cl w' H1) (hD1 : va_D (va_A ws H.size) w') :
    va_P D cl (w1 ++ (w' ++ w2)) H1 ∧ va_D A (w1 ++ (w' ++ w2)) := by
  have n1 : ∀ (k : Nat) (q : Nat × va_E), w1[k]? = some q → ¬ va_A ws H.size q.1 := by
    intro k q hq hA
    rcases hA with ⟨j, e, hj⟩ | hj
    · have hj2 : (ws ++ w2)[j]? = some (q.1, e) := by rw [List.getElem?_append_left (List.getElem?_eq_some_iff.mp hj).1]; exact hj
      exact vD_x hD k j q (q.1, e) hq hj2 rfl
    · exact absurd ((vP_l hP) k q hq).lt (Nat.not_lt.mpr hj)
  have n2 : ∀ (k : Nat) (q : Nat × va_E), w2[k]? = some q → ¬ va_A ws H.size q.1 := by
    intro k q hq hA
    rcases hA with ⟨j, e, hj⟩ | hj
    · exact vD_x (vD_r hD) j k (q.1, e) q hj hq rfl
    · exact absurd ((vP_r (vP_r hP)) k q hq).lt (Nat.not_lt.mpr hj)
  have p1 : va_P D cl w1 H1 := fun k q hq => ((vP_l hP) k q hq).kept (hk q.1 ((vP_l hP) k q hq).lt (n1 k q hq))
  have p2 : va_P D cl w2 H1 := fun k q hq => ((vP_r (vP_r hP)) k q hq).kept (hk q.1 ((vP_r (vP_r hP)) k q hq).lt (n2 k q hq))
  have dw : va_D A w' := hD1.weaken (fun _ _ _ h => hF _ h)
  refine ⟨p1.app (hP1.app p2), va_D.app (vD_l hD) (va_D.app dw (vD_r (vD_r hD)) ?_) ?_⟩
  · intro i j x y hx hy e
    exact n2 j y hy (by rw [← e]; exact hD1.2 i x hx)
  · intro i j x y hx hy e
    by_cases hl : j < w'.length
    · rw [List.getElem?_append_left hl] at hy
      exact n1 i x hx (by rw [e]; exact hD1.2 j y hy)
    · rw [List.getElem?_append_right (by omega)] at hy
      have : (ws ++ w2)[ws.length + (j - w'.length)]? = some y := by
        rw [List.getElem?_append_right (Nat.le_add_right _ _), Nat.add_sub_cancel_left]; exact hy
      exact vD_x hD i _ x y hx this e
end
section
variable {p : Program} {l : Launch} {e : Env} {R : Room} {s : State} {m : MethodId} {args : Array Value} {below : List Frame} {meth : Method} {c : Code} {H : Heap} {locs : List Loc} {cells slots : Nat} {Q : State → Prop}
variable {pc : Nat} {ls : Array Slot} {rest st0 : List Value} {D : va_G} {cl : List vw_C} {A : Nat → Prop} {tys : List (ClassId × FieldType)} {ws w1 w2 : va_W}
theorem xFree (hD : va_D A (w1 ++ (ws ++ w2))) (hS : va_S A s.heap H locs) (hA : ∀ q, s.heap.size ≤ q → A q) : ∀ q, va_A ws H.size q → A q := wFree (vD_l (vD_r hD)) hS hA
theorem x_calli {S : Type} {post : Int32 → S → Prop} {wf : S → va_W} {a : Array Value} {mc ms : Nat} (hr : va_Run p l e R s m args below meth c H locs cells slots mc ms (F0 m pc ls st0) rest (va_Qi post (wAt D cl tys (va_A ws H.size) wf) (va_A ws H.size) a) (va_A ws H.size)) (hP : va_P D cl (w1 ++ (ws ++ w2)) H) (hD : va_D A (w1 ++ (ws ++ w2))) (hS : va_S A s.heap H locs) (hA : ∀ q, s.heap.size ≤ q → A q)
    (kk : ∀ (r : Int32) (u : S) (H1 : Heap) (locs1 : List Loc), post r u → va_P D cl (w1 ++ (wf u ++ w2)) H1 → va_D A (w1 ++ (wf u ++ w2)) → va_S A s.heap H1 locs1 → W p l e R s m args below meth c H1 locs1 (cells + mc) (slots + ms) Q (F0 m (pc + 3) ls (.int r :: rest))) : W p l e R s m args below meth c H locs cells slots Q (F0 m pc ls st0) :=
  va_calli hr hS (fun q _ h => xFree hD hS hA q h) (xFree hD hS hA) (fun r u t H1 locs1 ht _ hw hB _ hk hS1 =>
    have z := va_mid hP hD hk (xFree hD hS hA) (by rw [← ht]; exact hB.1) hB.2.2
    kk r u H1 locs1 hw z.1 z.2 hS1)
theorem x_calll {S : Type} {post : Int64 → S → Prop} {wf : S → va_W} {a : Array Value} {mc ms : Nat} (hr : va_Run p l e R s m args below meth c H locs cells slots mc ms (F0 m pc ls st0) rest (va_Ql post (wAt D cl tys (va_A ws H.size) wf) (va_A ws H.size) a) (va_A ws H.size)) (hP : va_P D cl (w1 ++ (ws ++ w2)) H) (hD : va_D A (w1 ++ (ws ++ w2))) (hS : va_S A s.heap H locs) (hA : ∀ q, s.heap.size ≤ q → A q)
    (kk : ∀ (r : Int64) (u : S) (H1 : Heap) (locs1 : List Loc), post r u → va_P D cl (w1 ++ (wf u ++ w2)) H1 → va_D A (w1 ++ (wf u ++ w2)) → va_S A s.heap H1 locs1 → W p l e R s m args below meth c H1 locs1 (cells + mc) (slots + ms) Q (F0 m (pc + 3) ls (.long r :: rest))) : W p l e R s m args below meth c H locs cells slots Q (F0 m pc ls st0) :=
  va_calll hr hS (fun q _ h => xFree hD hS hA q h) (xFree hD hS hA) (fun r u t H1 locs1 ht _ hw hB _ hk hS1 =>
    have z := va_mid hP hD hk (xFree hD hS hA) (by rw [← ht]; exact hB.1) hB.2.2
    kk r u H1 locs1 hw z.1 z.2 hS1)
theorem x_callv {S : Type} {post : S → Prop} {wf : S → va_W} {a : Array Value} {mc ms : Nat} (hr : va_Run p l e R s m args below meth c H locs cells slots mc ms (F0 m pc ls st0) rest (va_Qv post (wAt D cl tys (va_A ws H.size) wf) (va_A ws H.size) a) (va_A ws H.size)) (hP : va_P D cl (w1 ++ (ws ++ w2)) H) (hD : va_D A (w1 ++ (ws ++ w2))) (hS : va_S A s.heap H locs) (hA : ∀ q, s.heap.size ≤ q → A q)
    (kk : ∀ (u : S) (H1 : Heap) (locs1 : List Loc), post u → va_P D cl (w1 ++ (wf u ++ w2)) H1 → va_D A (w1 ++ (wf u ++ w2)) → va_S A s.heap H1 locs1 → W p l e R s m args below meth c H1 locs1 (cells + mc) (slots + ms) Q (F0 m (pc + 3) ls rest)) : W p l e R s m args below meth c H locs cells slots Q (F0 m pc ls st0) :=
  va_callv hr hS (fun q _ h => xFree hD hS hA q h) (xFree hD hS hA) (fun u t H1 locs1 ht _ hw hB _ hk hS1 =>
    have z := va_mid hP hD hk (xFree hD hS hA) (by rw [← ht]; exact hB.1) hB.2.2
    kk u H1 locs1 hw z.1 z.2 hS1)
end
theorem si_1000 : (Int16.ofInt 1000).toInt32 = (1000 : Int32) := by decide +kernel
theorem si_m1000 : (Int16.ofInt (-1000)).toInt32 = (-1000 : Int32) := by decide +kernel
theorem si_16384 : (Int16.ofInt 16384).toInt32 = (16384 : Int32) := by decide +kernel
section
variable {p : Program} {l : Launch} {e : Env} {R : Room} {s : State} {m : MethodId} {args : Array Value} {below : List Frame} {meth : Method} {c : Code} {H : Heap} {locs : List Loc} {cells slots : Nat} {Q : State → Prop}
variable {cc : ByteArray} {pc : Nat} {ls : Array Slot} {rest : List Value} {D : va_G} {cl : List vw_C} {A : Nat → Prop} {a : Nat} {tys : List (ClassId × FieldType)} {ws : va_W} {H0 : Heap}
theorem va_ialdk (hexec : p.tables.exec = Jvm.exec) (hb : c.code = cc) (hK : va_K D cl tys s) (hP : va_P D cl ws H) (q0 t0 : Nat) {cA : ClassId} {n : Nat} {f : Nat → Int32} (ha : ws[q0]? = some (a, .inl (cA, n, .inl f))) (ht : tys[t0]? = some (cA, .int)) {i : Int32} (k : Nat) (hk : i.toNatClampNeg = k) (hin : vp_in i n) (hdg : decode cc pc = .ok (.iaload, 1))
    (kk : W p l e R s m args below meth c H locs cells slots Q (F0 m (pc + 1) ls (.int (f k) :: rest))) : W p l e R s m args below meth c H locs cells slots Q (F0 m pc ls (.int i :: .ref a :: rest)) := by
  subst hk
  exact va_iald hexec hb hK hP q0 t0 ha ht hin hdg kk
theorem va_iastk (hexec : p.tables.exec = Jvm.exec) (hb : c.code = cc) (hK : va_K D cl tys s) (hP : va_P D cl ws H) (hD : va_D A ws) (hS : va_S A H0 H locs) (q0 t0 : Nat) {cA : ClassId} {n : Nat} {f : Nat → Int32} (ha : ws[q0]? = some (a, .inl (cA, n, .inl f))) (ht : tys[t0]? = some (cA, .int)) {i : Int32} (k : Nat) (hk : i.toNatClampNeg = k) {x : Int32} (hin : vp_in i n) (hdg : decode cc pc = .ok (.iastore, 1))
    (kk : ∀ (H1 : Heap) (locs1 : List Loc), va_P D cl (ws.set q0 (a, .inl (cA, n, .inl (upd f k x)))) H1 → va_D A (ws.set q0 (a, .inl (cA, n, .inl (upd f k x)))) → va_S A H0 H1 locs1 → W p l e R s m args below meth c H1 locs1 cells slots Q (F0 m (pc + 1) ls rest)) : W p l e R s m args below meth c H locs cells slots Q (F0 m pc ls (.int x :: .int i :: .ref a :: rest)) := by
  subst hk
  exact va_iast hexec hb hK hP hD hS q0 t0 ha ht hin hdg kk
end
theorem in_lit {i : Int32} {n : Nat} (h : (!(decide (i < 0)) && decide (i.toNatClampNeg < n)) = true) : vp_in i n := by
  simp only [Bool.and_eq_true, Bool.not_eq_true', decide_eq_false_iff_not, decide_eq_true_eq] at h
  exact fun z => z.elim (fun z => h.1 z) (fun z => absurd h.2 (Nat.not_lt.mpr z))
abbrev wd0 (cI : ClassId) (cJ : ClassId) (h : Nat) (ad : Nat → Nat) (I : Nat → Int32) (J : Nat → Int64) (R : Nat → Nat → Int32) (G : Nat → Nat → Int64) : va_W := [(h, .inr (0, [.int (I 0), .int (I 1), .int (I 2), .ref (ad 3), .ref (ad 4), .ref (ad 5), .ref (ad 6), .ref (ad 7), .ref (ad 8), .ref (ad 9), .long (J 10), .int (I 11), .int (I 12), .long (J 13)])), ((ad 3), .inl (cI, 14, .inl (R 3))), ((ad 4), .inl (cJ, 14, .inr (.inl (G 4)))), ((ad 5), .inl (cJ, 14, .inr (.inl (G 5)))), ((ad 6), .inl (cJ, 15, .inr (.inl (G 6)))), ((ad 7), .inl (cJ, 15, .inr (.inl (G 7)))), ((ad 8), .inl (cI, 15, .inl (R 8))), ((ad 9), .inl (cJ, 15, .inr (.inl (G 9))))]
abbrev wd1 (cI : ClassId) (h : Nat) (ad : Nat → Nat) (I : Nat → Int32) (R : Nat → Nat → Int32) (q : Nat) (n : Nat) : va_W := [(h, .inr (1, [.ref (ad 0), .int (I 1), .ref (ad 2), .int (I 3), .ref q, .int (I 5), .int (I 6), .int (I 7), .int (I 8), .int (I 9)])), ((ad 0), .inl (cI, 14, .inl (R 0))), ((ad 2), .inl (cI, 14, .inl (R 2))), (q, .inl (cI, n, .inl (R 4)))]
abbrev wd2 (cI : ClassId) (h : Nat) (ad : Nat → Nat) (I : Nat → Int32) (R : Nat → Nat → Int32) : va_W := [(h, .inr (2, [.int (I 0), .int (I 1), .int (I 2), .int (I 3), .ref (ad 4), .ref (ad 5), .ref (ad 6), .ref (ad 7), .int (I 8), .int (I 9), .ref (ad 10)])), ((ad 4), .inl (cI, 8, .inl (R 4))), ((ad 5), .inl (cI, 8, .inl (R 5))), ((ad 6), .inl (cI, 8, .inl (R 6))), ((ad 7), .inl (cI, 8, .inl (R 7))), ((ad 10), .inl (cI, 4, .inl (R 10)))]
abbrev wd4 (cI : ClassId) (h : Nat) (ad : Nat → Nat) (I : Nat → Int32) (R : Nat → Nat → Int32) : va_W := [(h, .inr (4, [.ref (ad 0), .ref (ad 1), .int (I 2), .ref (ad 3), .ref (ad 4), .ref (ad 5), .ref (ad 6), .ref (ad 7), .ref (ad 8), .ref (ad 9), .ref (ad 10), .int (I 11), .int (I 12), .int (I 13), .int (I 14), .int (I 15), .int (I 16), .ref (ad 17), .int (I 18), .int (I 19), .ref (ad 20), .ref (ad 21), .ref (ad 22), .int (I 23), .ref (ad 24), .ref (ad 25), .ref (ad 26)])), ((ad 0), .inl (cI, 16, .inl (R 0))), ((ad 1), .inl (cI, 16, .inl (R 1))), ((ad 3), .inl (cI, 14, .inl (R 3))), ((ad 4), .inl (cI, 14, .inl (R 4))), ((ad 5), .inl (cI, 14, .inl (R 5))), ((ad 6), .inl (cI, 14, .inl (R 6))), ((ad 7), .inl (cI, 112, .inl (R 7))), ((ad 8), .inl (cI, 112, .inl (R 8))), ((ad 9), .inl (cI, 112, .inl (R 9))), ((ad 10), .inl (cI, 112, .inl (R 10))), ((ad 17), .inl (cI, 14, .inl (R 17))), ((ad 20), .inl (cI, 4, .inl (R 20))), ((ad 21), .inl (cI, 8, .inl (R 21))), ((ad 22), .inl (cI, 14, .inl (R 22))), ((ad 24), .inl (cI, 16384, .inl (R 24))), ((ad 25), .inl (cI, 16384, .inl (R 25))), ((ad 26), .inl (cI, 14, .inl (R 26)))]
end
section
def zX2_frame (post : (Nat → Int32) → (Nat → Nat → Int32) → Prop) (X38 : Int32 → (Nat → Int32) → (Nat → Nat → Int32) → Prop) : Prop :=
  (∀ (x1 : Int32) (I : Nat → Int32) (R : Nat → Nat → Int32), ((((I 3) ≤ x1) → (post I R)) ∧ ((¬ (I 3) ≤ x1) → ((((((I 8) >>> (x1 &&& 31)) &&& (1 : Int32)) = 0) → (X38 (x1 + (1 : Int32)) I R)) ∧ ((¬ (((I 8) >>> (x1 &&& 31)) &&& (1 : Int32)) = 0) → (vp_in x1 8 ∧ (∀ v_2 : Int32, v_2 = (if (R 5 x1.toNatClampNeg) - (R 7 x1.toNatClampNeg) < R 10 0 then (R 5 x1.toNatClampNeg) - (R 7 x1.toNatClampNeg) else R 10 0) → (∀ v_3 : Int32, v_3 = (upd (R 10) 0 v_2) 1 → (∀ v_4 : Int32, v_4 = (if (R 6 x1.toNatClampNeg) - (R 7 x1.toNatClampNeg) < v_3 then (R 6 x1.toNatClampNeg) - (R 7 x1.toNatClampNeg) else v_3) → (∀ v_5 : Int32, v_5 = (upd (upd (R 10) 0 v_2) 1 v_4) 2 → (∀ v_6 : Int32, v_6 = (if v_5 < (R 5 x1.toNatClampNeg) + (R 7 x1.toNatClampNeg) then (R 5 x1.toNatClampNeg) + (R 7 x1.toNatClampNeg) else v_5) → (∀ v_7 : Int32, v_7 = (upd (upd (upd (R 10) 0 v_2) 1 v_4) 2 v_6) 3 → (∀ v_8 : Int32, v_8 = (if v_7 < (R 6 x1.toNatClampNeg) + (R 7 x1.toNatClampNeg) then (R 6 x1.toNatClampNeg) + (R 7 x1.toNatClampNeg) else v_7) → (X38 (x1 + (1 : Int32)) I (va_up R 10 (upd (upd (upd (upd (R 10) 0 v_2) 1 v_4) 2 v_6) 3 v_8))))))))))))))) → X38 x1 I R)
def qX2_frame_38 (post : (Nat → Int32) → (Nat → Nat → Int32) → Prop) (x1 : Int32) (I : Nat → Int32) (R : Nat → Nat → Int32) : Prop := ∀ (X38 : Int32 → (Nat → Int32) → (Nat → Nat → Int32) → Prop), zX2_frame post X38 → X38 x1 I R
theorem kX2_frame_38 {post : (Nat → Int32) → (Nat → Nat → Int32) → Prop} {x1 : Int32} {I : Nat → Int32} {R : Nat → Nat → Int32} (h : (((I 3) ≤ x1) → (post I R)) ∧ ((¬ (I 3) ≤ x1) → ((((((I 8) >>> (x1 &&& 31)) &&& (1 : Int32)) = 0) → (qX2_frame_38 post (x1 + (1 : Int32)) I R)) ∧ ((¬ (((I 8) >>> (x1 &&& 31)) &&& (1 : Int32)) = 0) → (vp_in x1 8 ∧ (∀ v_2 : Int32, v_2 = (if (R 5 x1.toNatClampNeg) - (R 7 x1.toNatClampNeg) < R 10 0 then (R 5 x1.toNatClampNeg) - (R 7 x1.toNatClampNeg) else R 10 0) → (∀ v_3 : Int32, v_3 = (upd (R 10) 0 v_2) 1 → (∀ v_4 : Int32, v_4 = (if (R 6 x1.toNatClampNeg) - (R 7 x1.toNatClampNeg) < v_3 then (R 6 x1.toNatClampNeg) - (R 7 x1.toNatClampNeg) else v_3) → (∀ v_5 : Int32, v_5 = (upd (upd (R 10) 0 v_2) 1 v_4) 2 → (∀ v_6 : Int32, v_6 = (if v_5 < (R 5 x1.toNatClampNeg) + (R 7 x1.toNatClampNeg) then (R 5 x1.toNatClampNeg) + (R 7 x1.toNatClampNeg) else v_5) → (∀ v_7 : Int32, v_7 = (upd (upd (upd (R 10) 0 v_2) 1 v_4) 2 v_6) 3 → (∀ v_8 : Int32, v_8 = (if v_7 < (R 6 x1.toNatClampNeg) + (R 7 x1.toNatClampNeg) then (R 6 x1.toNatClampNeg) + (R 7 x1.toNatClampNeg) else v_7) → (qX2_frame_38 post (x1 + (1 : Int32)) I (va_up R 10 (upd (upd (upd (upd (R 10) 0 v_2) 1 v_4) 2 v_6) 3 v_8))))))))))))))) : qX2_frame_38 post x1 I R := by
  intro Z38 hcl
  refine hcl x1 I R ?_
  refine ⟨fun c => ?_, fun c => ?_⟩
  · have h := h.1 c
    exact h
  · have h := h.2 c
    refine ⟨fun c => ?_, fun c => ?_⟩
    · have h := h.1 c
      exact h _ hcl
    · have h := h.2 c
      refine ⟨h.1, ?_⟩
      have h := h.2
      intro x e
      have h := h x e
      intro x e
      have h := h x e
      intro x e
      have h := h x e
      intro x e
      have h := h x e
      intro x e
      have h := h x e
      intro x e
      have h := h x e
      intro x e
      have h := h x e
      exact h _ hcl
def qX2_frame (post : (Nat → Int32) → (Nat → Nat → Int32) → Prop) (I : Nat → Int32) (R : Nat → Nat → Int32) : Prop := qX2_frame_38 post (0 : Int32) I (va_up R 10 (upd (upd (upd (upd (R 10) 0 (1000 : Int32)) 1 (1000 : Int32)) 2 (-1000 : Int32)) 3 (-1000 : Int32)))
theorem mX2_frame_f24 : Cond.fieldLink RX2 24 "YearBook$Picture" "cut" "[I" ∈ wsX2_frame := by decide +kernel
theorem nX2_frame_X2 : ∀ w ∈ u_ws RX2 TX2 11, w ∈ wsX2_frame := by decide +kernel
theorem mX2_frame_f37 : Cond.fieldLink RX2 37 "YearBook$Picture" "faces" "I" ∈ wsX2_frame := by decide +kernel
theorem mX2_frame_f40 : Cond.fieldLink RX2 40 "YearBook$Picture" "allowed" "I" ∈ wsX2_frame := by decide +kernel
theorem mX2_frame_f15 : Cond.fieldLink RX2 15 "YearBook$Picture" "xs" "[I" ∈ wsX2_frame := by decide +kernel
theorem mX2_frame_f21 : Cond.fieldLink RX2 21 "YearBook$Picture" "halves" "[I" ∈ wsX2_frame := by decide +kernel
theorem mX2_frame_m53 : Cond.methodLink RX2 53 Lib.Math.min.name ∈ wsX2_frame := by decide +kernel
theorem mX2_frame_s53 : Cond.static Lib.Math.min.name ∈ wsX2_frame := by decide +kernel
theorem mX2_frame_iMath : Cond.initialized "java/lang/Math" ∈ wsX2_frame := by decide +kernel
theorem mX2_frame_k53 : Cond.code Lib.Math.min.name Lib.Math.min.code 2 (some .int) ∈ wsX2_frame := by decide +kernel
theorem mX2_frame_f18 : Cond.fieldLink RX2 18 "YearBook$Picture" "ys" "[I" ∈ wsX2_frame := by decide +kernel
theorem mX2_frame_m59 : Cond.methodLink RX2 59 Lib.Math.max.name ∈ wsX2_frame := by decide +kernel
theorem mX2_frame_s59 : Cond.static Lib.Math.max.name ∈ wsX2_frame := by decide +kernel
theorem mX2_frame_k59 : Cond.code Lib.Math.max.name Lib.Math.max.code 2 (some .int) ∈ wsX2_frame := by decide +kernel
set_option maxHeartbeats 200000 in
set_option maxRecDepth 100000 in
theorem tX2_frame (l : Launch) (dC : Nat → ClassId) (dI : Nat → Nat → Nat) (cI : ClassId) (h : Nat) (ad : Nat → Nat) (sz : Nat) (post : (Nat → Int32) → (Nat → Nat → Int32) → Prop) (I : Nat → Int32) (R : Nat → Nat → Int32) (hq : qX2_frame post I R) : Met l yX2_frame wsX2_frame ({ frames := 1, cells := 0, slots := 0, locals := 30 } : Room) (va_Pc [.ref h] (wPre (dC, dI) vwCl [(cI, .int)] (wd2 cI h ad I R) sz)) (va_Qv (fun (u : (Nat → Int32) × (Nat → Nat → Int32)) => post u.1 u.2) (wAt (dC, dI) vwCl [(cI, .int)] (va_A (wd2 cI h ad I R) sz) (fun u : (Nat → Int32) × (Nat → Nat → Int32) => wd2 cI h ad u.1 u.2)) (va_A (wd2 cI h ad I R) sz)) 0 0 (va_A (wd2 cI h ad I R) sz) := by
  unfold qX2_frame at hq
  refine Met.ofW (cc := cX2_frame) (maxL := 2) (ret := none) (by decide) rfl ?_
  intro p e s m args below meth c s₁ B hml hv
  obtain ⟨rfl, hsz, hP, hK, hD0⟩ := hv
  have hx := B.exec
  have hb := B.bytes
  have hr := B.returns
  have hts := atoms_spec (ws := wsX2_frame) B.pre
  have hown : s.vm.findClass RX2 = some m.cls := findClass_of_methodNamed B.named
  have hlocks := B.notSynchronized
  subst hsz
  have hD := hD0.self (sz := s.heap.size)
  generalize hAe : va_A (wd2 cI h ad I R) s.heap.size = A at hD ⊢
  have hA : ∀ q : Nat, s.heap.size ≤ q → A q := fun q h => by rw [← hAe]; exact Or.inr h
  have hS : va_S A s.heap s.heap [] := va_S.rf
  have hZ : zX2_frame post
      (fun (x1 : Int32) (I : Nat → Int32) (R : Nat → Nat → Int32) => ∀ (H : Heap) (locs : List Loc) (ls : Array Slot), va_P (dC, dI) vwCl (wd2 cI h ad I R) H → va_D A (wd2 cI h ad I R) → va_S A s.heap H locs → lv_has ls 2 [(0, .ref h), (1, .int x1)] → W p l e (headSpec wsX2_frame ({ frames := 1, cells := 0, slots := 0, locals := 30 } : Room)).room s m ([.ref h] : List Value).toArray below meth c H locs 0 0 (MQ below (va_Qv (fun (u : (Nat → Int32) × (Nat → Nat → Int32)) => post u.1 u.2) (wAt (dC, dI) vwCl [(cI, .int)] A (fun u : (Nat → Int32) × (Nat → Nat → Int32) => wd2 cI h ad u.1 u.2)) A) ([.ref h] : List Value).toArray s 0 0 A) (F0 m 38 ls [])) := by
    unfold zX2_frame
    intro x1 I R hq H locs ls hP hD hS hl
    refine lv_iload_n hx hb dX2_frame_38 rfl (lv_at hl 1 rfl) ?_
    refine lv_aload_n hx hb dX2_frame_39 rfl (lv_at hl 0 rfl) ?_
    refine va_get (D := (dC, dI)) (ci := 2) (v := .int (I 3)) (C := RX2) (T := TX2) (N := 11) hx hb hts nX2_frame_X2 hown hK hP 0 rfl rfl 3 (by decide) (hts _ mX2_frame_f37) (fun _ h9 => h9) rfl dX2_frame_40 ?_
    refine lv_icmp_ge (tgt := 175) hx hb dX2_frame_43 (by decide) (fun hc => ?_) (fun hc => ?_)
    · have hq := hq.1 hc
      exact w_vret (wf := fun u : (Nat → Int32) × (Nat → Nat → Int32) => wd2 cI h ad u.1 u.2) (u := (I, R)) hx hb hr hK hP hD hS hq dX2_frame_175 hlocks
    · have hq := hq.2 hc
      refine lv_aload_n hx hb dX2_frame_46 rfl (lv_at hl 0 rfl) ?_
      refine va_get (D := (dC, dI)) (ci := 2) (v := .int (I 8)) (C := RX2) (T := TX2) (N := 11) hx hb hts nX2_frame_X2 hown hK hP 0 rfl rfl 8 (by decide) (hts _ mX2_frame_f40) (fun _ h9 => h9) rfl dX2_frame_47 ?_
      refine lv_iload_n hx hb dX2_frame_50 rfl (lv_at hl 1 rfl) ?_
      refine lv_ishr hx hb dX2_frame_51 ?_
      refine lv_iconst (v := (1 : Int32)) hx hb dX2_frame_52 (by decide) ?_
      refine lv_iand hx hb dX2_frame_53 ?_
      refine lv_if_eq (tgt := 169) hx hb dX2_frame_54 (by decide) (fun hc => ?_) (fun hc => ?_)
      · have hq := hq.1 hc
        refine lv_iinc (v := x1 + (1 : Int32)) (lv' := [(1, .int (x1 + (1 : Int32))), (0, .ref h)]) hx hb dX2_frame_169 hl (k := 1) rfl rfl (by decide) rfl (fun ls hl => ?_)
        refine lv_goto (tgt := 38) hx hb dX2_frame_172 (by decide) ?_
        exact hq _ _ ls hP hD hS (lv_sub hl [1, 0] rfl)
      · have hq := hq.2 hc
        refine lv_aload_n hx hb dX2_frame_57 rfl (lv_at hl 0 rfl) ?_
        refine va_get (D := (dC, dI)) (ci := 2) (v := .ref (ad 10)) (C := RX2) (T := TX2) (N := 11) hx hb hts nX2_frame_X2 hown hK hP 0 rfl rfl 10 (by decide) (hts _ mX2_frame_f24) (fun _ h9 => h9) rfl dX2_frame_58 ?_
        refine lv_iconst (v := (0 : Int32)) hx hb dX2_frame_61 (by decide) ?_
        refine lv_aload_n hx hb dX2_frame_62 rfl (lv_at hl 0 rfl) ?_
        refine va_get (D := (dC, dI)) (ci := 2) (v := .ref (ad 10)) (C := RX2) (T := TX2) (N := 11) hx hb hts nX2_frame_X2 hown hK hP 0 rfl rfl 10 (by decide) (hts _ mX2_frame_f24) (fun _ h9 => h9) rfl dX2_frame_63 ?_
        refine lv_iconst (v := (0 : Int32)) hx hb dX2_frame_66 (by decide) ?_
        refine va_ialdk (f := R 10) hx hb hK hP 5 0 rfl rfl 0 (by decide) (by unfold vp_in; decide) dX2_frame_67 ?_
        refine lv_aload_n hx hb dX2_frame_68 rfl (lv_at hl 0 rfl) ?_
        refine va_get (D := (dC, dI)) (ci := 2) (v := .ref (ad 5)) (C := RX2) (T := TX2) (N := 11) hx hb hts nX2_frame_X2 hown hK hP 0 rfl rfl 5 (by decide) (hts _ mX2_frame_f15) (fun _ h9 => h9) rfl dX2_frame_69 ?_
        refine lv_iload_n hx hb dX2_frame_72 rfl (lv_at hl 1 rfl) ?_
        obtain ⟨hi_1, hq⟩ := hq
        refine va_iald (f := R 5) hx hb hK hP 2 0 rfl rfl hi_1 dX2_frame_73 ?_
        refine lv_aload_n hx hb dX2_frame_74 rfl (lv_at hl 0 rfl) ?_
        refine va_get (D := (dC, dI)) (ci := 2) (v := .ref (ad 7)) (C := RX2) (T := TX2) (N := 11) hx hb hts nX2_frame_X2 hown hK hP 0 rfl rfl 7 (by decide) (hts _ mX2_frame_f21) (fun _ h9 => h9) rfl dX2_frame_75 ?_
        refine lv_iload_n hx hb dX2_frame_78 rfl (lv_at hl 1 rfl) ?_
        refine va_iald (f := R 7) hx hb hK hP 4 0 rfl rfl hi_1 dX2_frame_79 ?_
        refine lv_isub hx hb dX2_frame_80 ?_
        refine va_mmin hx hb (hml.trans hl.1.symm) hown (hts _ mX2_frame_m53) (hts _ mX2_frame_s53) (hts _ mX2_frame_iMath) (hts _ mX2_frame_k53) (Nat.le_of_ble_eq_true rfl) (Nat.le_of_ble_eq_true rfl) (Nat.zero_le _) (Nat.zero_le _) dX2_frame_81 ?_
        refine lv_topi (fun v_2 ev_2 => ?_)
        have hq := hq v_2 ev_2
        refine va_iastk (f := R 10) hx hb hK hP hD hS 5 0 rfl rfl 0 (by decide) (by unfold vp_in; decide) dX2_frame_84 (fun H locs hP hD hS => ?_)
        have hP : va_P (dC, dI) vwCl (wd2 cI h ad I (va_up R 10 (upd (R 10) 0 v_2))) H := hP
        have hD : va_D A (wd2 cI h ad I (va_up R 10 (upd (R 10) 0 v_2))) := hD
        refine lv_aload_n hx hb dX2_frame_85 rfl (lv_at hl 0 rfl) ?_
        refine va_get (D := (dC, dI)) (ci := 2) (v := .ref (ad 10)) (C := RX2) (T := TX2) (N := 11) hx hb hts nX2_frame_X2 hown hK hP 0 rfl rfl 10 (by decide) (hts _ mX2_frame_f24) (fun _ h9 => h9) rfl dX2_frame_86 ?_
        refine lv_iconst (v := (1 : Int32)) hx hb dX2_frame_89 (by decide) ?_
        refine lv_aload_n hx hb dX2_frame_90 rfl (lv_at hl 0 rfl) ?_
        refine va_get (D := (dC, dI)) (ci := 2) (v := .ref (ad 10)) (C := RX2) (T := TX2) (N := 11) hx hb hts nX2_frame_X2 hown hK hP 0 rfl rfl 10 (by decide) (hts _ mX2_frame_f24) (fun _ h9 => h9) rfl dX2_frame_91 ?_
        refine lv_iconst (v := (1 : Int32)) hx hb dX2_frame_94 (by decide) ?_
        refine va_ialdk (f := upd (R 10) 0 v_2) hx hb hK hP 5 0 rfl rfl 1 (by decide) (by unfold vp_in; decide) dX2_frame_95 ?_
        refine lv_topi (fun v_3 ev_3 => ?_)
        have hq := hq v_3 ev_3
        refine lv_aload_n hx hb dX2_frame_96 rfl (lv_at hl 0 rfl) ?_
        refine va_get (D := (dC, dI)) (ci := 2) (v := .ref (ad 6)) (C := RX2) (T := TX2) (N := 11) hx hb hts nX2_frame_X2 hown hK hP 0 rfl rfl 6 (by decide) (hts _ mX2_frame_f18) (fun _ h9 => h9) rfl dX2_frame_97 ?_
        refine lv_iload_n hx hb dX2_frame_100 rfl (lv_at hl 1 rfl) ?_
        refine va_iald (f := R 6) hx hb hK hP 3 0 rfl rfl hi_1 dX2_frame_101 ?_
        refine lv_aload_n hx hb dX2_frame_102 rfl (lv_at hl 0 rfl) ?_
        refine va_get (D := (dC, dI)) (ci := 2) (v := .ref (ad 7)) (C := RX2) (T := TX2) (N := 11) hx hb hts nX2_frame_X2 hown hK hP 0 rfl rfl 7 (by decide) (hts _ mX2_frame_f21) (fun _ h9 => h9) rfl dX2_frame_103 ?_
        refine lv_iload_n hx hb dX2_frame_106 rfl (lv_at hl 1 rfl) ?_
        refine va_iald (f := R 7) hx hb hK hP 4 0 rfl rfl hi_1 dX2_frame_107 ?_
        refine lv_isub hx hb dX2_frame_108 ?_
        refine va_mmin hx hb (hml.trans hl.1.symm) hown (hts _ mX2_frame_m53) (hts _ mX2_frame_s53) (hts _ mX2_frame_iMath) (hts _ mX2_frame_k53) (Nat.le_of_ble_eq_true rfl) (Nat.le_of_ble_eq_true rfl) (Nat.zero_le _) (Nat.zero_le _) dX2_frame_109 ?_
        refine lv_topi (fun v_4 ev_4 => ?_)
        have hq := hq v_4 ev_4
        refine va_iastk (f := upd (R 10) 0 v_2) hx hb hK hP hD hS 5 0 rfl rfl 1 (by decide) (by unfold vp_in; decide) dX2_frame_112 (fun H locs hP hD hS => ?_)
        have hP : va_P (dC, dI) vwCl (wd2 cI h ad I (va_up R 10 (upd (upd (R 10) 0 v_2) 1 v_4))) H := hP
        have hD : va_D A (wd2 cI h ad I (va_up R 10 (upd (upd (R 10) 0 v_2) 1 v_4))) := hD
        refine lv_aload_n hx hb dX2_frame_113 rfl (lv_at hl 0 rfl) ?_
        refine va_get (D := (dC, dI)) (ci := 2) (v := .ref (ad 10)) (C := RX2) (T := TX2) (N := 11) hx hb hts nX2_frame_X2 hown hK hP 0 rfl rfl 10 (by decide) (hts _ mX2_frame_f24) (fun _ h9 => h9) rfl dX2_frame_114 ?_
        refine lv_iconst (v := (2 : Int32)) hx hb dX2_frame_117 (by decide) ?_
        refine lv_aload_n hx hb dX2_frame_118 rfl (lv_at hl 0 rfl) ?_
        refine va_get (D := (dC, dI)) (ci := 2) (v := .ref (ad 10)) (C := RX2) (T := TX2) (N := 11) hx hb hts nX2_frame_X2 hown hK hP 0 rfl rfl 10 (by decide) (hts _ mX2_frame_f24) (fun _ h9 => h9) rfl dX2_frame_119 ?_
        refine lv_iconst (v := (2 : Int32)) hx hb dX2_frame_122 (by decide) ?_
        refine va_ialdk (f := upd (upd (R 10) 0 v_2) 1 v_4) hx hb hK hP 5 0 rfl rfl 2 (by decide) (by unfold vp_in; decide) dX2_frame_123 ?_
        refine lv_topi (fun v_5 ev_5 => ?_)
        have hq := hq v_5 ev_5
        refine lv_aload_n hx hb dX2_frame_124 rfl (lv_at hl 0 rfl) ?_
        refine va_get (D := (dC, dI)) (ci := 2) (v := .ref (ad 5)) (C := RX2) (T := TX2) (N := 11) hx hb hts nX2_frame_X2 hown hK hP 0 rfl rfl 5 (by decide) (hts _ mX2_frame_f15) (fun _ h9 => h9) rfl dX2_frame_125 ?_
        refine lv_iload_n hx hb dX2_frame_128 rfl (lv_at hl 1 rfl) ?_
        refine va_iald (f := R 5) hx hb hK hP 2 0 rfl rfl hi_1 dX2_frame_129 ?_
        refine lv_aload_n hx hb dX2_frame_130 rfl (lv_at hl 0 rfl) ?_
        refine va_get (D := (dC, dI)) (ci := 2) (v := .ref (ad 7)) (C := RX2) (T := TX2) (N := 11) hx hb hts nX2_frame_X2 hown hK hP 0 rfl rfl 7 (by decide) (hts _ mX2_frame_f21) (fun _ h9 => h9) rfl dX2_frame_131 ?_
        refine lv_iload_n hx hb dX2_frame_134 rfl (lv_at hl 1 rfl) ?_
        refine va_iald (f := R 7) hx hb hK hP 4 0 rfl rfl hi_1 dX2_frame_135 ?_
        refine lv_iadd hx hb dX2_frame_136 ?_
        refine va_mmax hx hb (hml.trans hl.1.symm) hown (hts _ mX2_frame_m59) (hts _ mX2_frame_s59) (hts _ mX2_frame_iMath) (hts _ mX2_frame_k59) (Nat.le_of_ble_eq_true rfl) (Nat.le_of_ble_eq_true rfl) (Nat.zero_le _) (Nat.zero_le _) dX2_frame_137 ?_
        refine lv_topi (fun v_6 ev_6 => ?_)
        have hq := hq v_6 ev_6
        refine va_iastk (f := upd (upd (R 10) 0 v_2) 1 v_4) hx hb hK hP hD hS 5 0 rfl rfl 2 (by decide) (by unfold vp_in; decide) dX2_frame_140 (fun H locs hP hD hS => ?_)
        have hP : va_P (dC, dI) vwCl (wd2 cI h ad I (va_up R 10 (upd (upd (upd (R 10) 0 v_2) 1 v_4) 2 v_6))) H := hP
        have hD : va_D A (wd2 cI h ad I (va_up R 10 (upd (upd (upd (R 10) 0 v_2) 1 v_4) 2 v_6))) := hD
        refine lv_aload_n hx hb dX2_frame_141 rfl (lv_at hl 0 rfl) ?_
        refine va_get (D := (dC, dI)) (ci := 2) (v := .ref (ad 10)) (C := RX2) (T := TX2) (N := 11) hx hb hts nX2_frame_X2 hown hK hP 0 rfl rfl 10 (by decide) (hts _ mX2_frame_f24) (fun _ h9 => h9) rfl dX2_frame_142 ?_
        refine lv_iconst (v := (3 : Int32)) hx hb dX2_frame_145 (by decide) ?_
        refine lv_aload_n hx hb dX2_frame_146 rfl (lv_at hl 0 rfl) ?_
        refine va_get (D := (dC, dI)) (ci := 2) (v := .ref (ad 10)) (C := RX2) (T := TX2) (N := 11) hx hb hts nX2_frame_X2 hown hK hP 0 rfl rfl 10 (by decide) (hts _ mX2_frame_f24) (fun _ h9 => h9) rfl dX2_frame_147 ?_
        refine lv_iconst (v := (3 : Int32)) hx hb dX2_frame_150 (by decide) ?_
        refine va_ialdk (f := upd (upd (upd (R 10) 0 v_2) 1 v_4) 2 v_6) hx hb hK hP 5 0 rfl rfl 3 (by decide) (by unfold vp_in; decide) dX2_frame_151 ?_
        refine lv_topi (fun v_7 ev_7 => ?_)
        have hq := hq v_7 ev_7
        refine lv_aload_n hx hb dX2_frame_152 rfl (lv_at hl 0 rfl) ?_
        refine va_get (D := (dC, dI)) (ci := 2) (v := .ref (ad 6)) (C := RX2) (T := TX2) (N := 11) hx hb hts nX2_frame_X2 hown hK hP 0 rfl rfl 6 (by decide) (hts _ mX2_frame_f18) (fun _ h9 => h9) rfl dX2_frame_153 ?_
        refine lv_iload_n hx hb dX2_frame_156 rfl (lv_at hl 1 rfl) ?_
        refine va_iald (f := R 6) hx hb hK hP 3 0 rfl rfl hi_1 dX2_frame_157 ?_
        refine lv_aload_n hx hb dX2_frame_158 rfl (lv_at hl 0 rfl) ?_
        refine va_get (D := (dC, dI)) (ci := 2) (v := .ref (ad 7)) (C := RX2) (T := TX2) (N := 11) hx hb hts nX2_frame_X2 hown hK hP 0 rfl rfl 7 (by decide) (hts _ mX2_frame_f21) (fun _ h9 => h9) rfl dX2_frame_159 ?_
        refine lv_iload_n hx hb dX2_frame_162 rfl (lv_at hl 1 rfl) ?_
        refine va_iald (f := R 7) hx hb hK hP 4 0 rfl rfl hi_1 dX2_frame_163 ?_
        refine lv_iadd hx hb dX2_frame_164 ?_
        refine va_mmax hx hb (hml.trans hl.1.symm) hown (hts _ mX2_frame_m59) (hts _ mX2_frame_s59) (hts _ mX2_frame_iMath) (hts _ mX2_frame_k59) (Nat.le_of_ble_eq_true rfl) (Nat.le_of_ble_eq_true rfl) (Nat.zero_le _) (Nat.zero_le _) dX2_frame_165 ?_
        refine lv_topi (fun v_8 ev_8 => ?_)
        have hq := hq v_8 ev_8
        refine va_iastk (f := upd (upd (upd (R 10) 0 v_2) 1 v_4) 2 v_6) hx hb hK hP hD hS 5 0 rfl rfl 3 (by decide) (by unfold vp_in; decide) dX2_frame_168 (fun H locs hP hD hS => ?_)
        have hP : va_P (dC, dI) vwCl (wd2 cI h ad I (va_up R 10 (upd (upd (upd (upd (R 10) 0 v_2) 1 v_4) 2 v_6) 3 v_8))) H := hP
        have hD : va_D A (wd2 cI h ad I (va_up R 10 (upd (upd (upd (upd (R 10) 0 v_2) 1 v_4) 2 v_6) 3 v_8))) := hD
        refine lv_iinc (v := x1 + (1 : Int32)) (lv' := [(1, .int (x1 + (1 : Int32))), (0, .ref h)]) hx hb dX2_frame_169 hl (k := 1) rfl rfl (by decide) rfl (fun ls hl => ?_)
        refine lv_goto (tgt := 38) hx hb dX2_frame_172 (by decide) ?_
        exact hq _ _ ls hP hD hS (lv_sub hl [1, 0] rfl)
  have hl := lv_entry ([.ref h]) (n := 2) (Nat.le_of_ble_eq_true rfl)
  rw [lg_entry_eq]
  generalize (lg_sl ([.ref h]) ++ List.replicate (2 - (lg_sl ([.ref h])).length) Slot.unset).toArray = ls at hl ⊢
  have hl : lv_has ls 2 [(0, .ref h)] := hl
  refine lv_aload_n hx hb dX2_frame_0 rfl (lv_at hl 0 rfl) ?_
  refine va_get (D := (dC, dI)) (ci := 2) (v := .ref (ad 10)) (C := RX2) (T := TX2) (N := 11) hx hb hts nX2_frame_X2 hown hK hP 0 rfl rfl 10 (by decide) (hts _ mX2_frame_f24) (fun _ h9 => h9) rfl dX2_frame_1 ?_
  refine lv_iconst (v := (0 : Int32)) hx hb dX2_frame_4 (by decide) ?_
  refine lv_sipush (v := (1000 : Int32)) hx hb dX2_frame_5 (si_1000) ?_
  refine va_iastk (f := R 10) hx hb hK hP hD hS 5 0 rfl rfl 0 (by decide) (by unfold vp_in; decide) dX2_frame_8 (fun H locs hP hD hS => ?_)
  have hP : va_P (dC, dI) vwCl (wd2 cI h ad I (va_up R 10 (upd (R 10) 0 (1000 : Int32)))) H := hP
  have hD : va_D A (wd2 cI h ad I (va_up R 10 (upd (R 10) 0 (1000 : Int32)))) := hD
  refine lv_aload_n hx hb dX2_frame_9 rfl (lv_at hl 0 rfl) ?_
  refine va_get (D := (dC, dI)) (ci := 2) (v := .ref (ad 10)) (C := RX2) (T := TX2) (N := 11) hx hb hts nX2_frame_X2 hown hK hP 0 rfl rfl 10 (by decide) (hts _ mX2_frame_f24) (fun _ h9 => h9) rfl dX2_frame_10 ?_
  refine lv_iconst (v := (1 : Int32)) hx hb dX2_frame_13 (by decide) ?_
  refine lv_sipush (v := (1000 : Int32)) hx hb dX2_frame_14 (si_1000) ?_
  refine va_iastk (f := upd (R 10) 0 (1000 : Int32)) hx hb hK hP hD hS 5 0 rfl rfl 1 (by decide) (by unfold vp_in; decide) dX2_frame_17 (fun H locs hP hD hS => ?_)
  have hP : va_P (dC, dI) vwCl (wd2 cI h ad I (va_up R 10 (upd (upd (R 10) 0 (1000 : Int32)) 1 (1000 : Int32)))) H := hP
  have hD : va_D A (wd2 cI h ad I (va_up R 10 (upd (upd (R 10) 0 (1000 : Int32)) 1 (1000 : Int32)))) := hD
  refine lv_aload_n hx hb dX2_frame_18 rfl (lv_at hl 0 rfl) ?_
  refine va_get (D := (dC, dI)) (ci := 2) (v := .ref (ad 10)) (C := RX2) (T := TX2) (N := 11) hx hb hts nX2_frame_X2 hown hK hP 0 rfl rfl 10 (by decide) (hts _ mX2_frame_f24) (fun _ h9 => h9) rfl dX2_frame_19 ?_
  refine lv_iconst (v := (2 : Int32)) hx hb dX2_frame_22 (by decide) ?_
  refine lv_sipush (v := (-1000 : Int32)) hx hb dX2_frame_23 (si_m1000) ?_
  refine va_iastk (f := upd (upd (R 10) 0 (1000 : Int32)) 1 (1000 : Int32)) hx hb hK hP hD hS 5 0 rfl rfl 2 (by decide) (by unfold vp_in; decide) dX2_frame_26 (fun H locs hP hD hS => ?_)
  have hP : va_P (dC, dI) vwCl (wd2 cI h ad I (va_up R 10 (upd (upd (upd (R 10) 0 (1000 : Int32)) 1 (1000 : Int32)) 2 (-1000 : Int32)))) H := hP
  have hD : va_D A (wd2 cI h ad I (va_up R 10 (upd (upd (upd (R 10) 0 (1000 : Int32)) 1 (1000 : Int32)) 2 (-1000 : Int32)))) := hD
  refine lv_aload_n hx hb dX2_frame_27 rfl (lv_at hl 0 rfl) ?_
  refine va_get (D := (dC, dI)) (ci := 2) (v := .ref (ad 10)) (C := RX2) (T := TX2) (N := 11) hx hb hts nX2_frame_X2 hown hK hP 0 rfl rfl 10 (by decide) (hts _ mX2_frame_f24) (fun _ h9 => h9) rfl dX2_frame_28 ?_
  refine lv_iconst (v := (3 : Int32)) hx hb dX2_frame_31 (by decide) ?_
  refine lv_sipush (v := (-1000 : Int32)) hx hb dX2_frame_32 (si_m1000) ?_
  refine va_iastk (f := upd (upd (upd (R 10) 0 (1000 : Int32)) 1 (1000 : Int32)) 2 (-1000 : Int32)) hx hb hK hP hD hS 5 0 rfl rfl 3 (by decide) (by unfold vp_in; decide) dX2_frame_35 (fun H locs hP hD hS => ?_)
  have hP : va_P (dC, dI) vwCl (wd2 cI h ad I (va_up R 10 (upd (upd (upd (upd (R 10) 0 (1000 : Int32)) 1 (1000 : Int32)) 2 (-1000 : Int32)) 3 (-1000 : Int32)))) H := hP
  have hD : va_D A (wd2 cI h ad I (va_up R 10 (upd (upd (upd (upd (R 10) 0 (1000 : Int32)) 1 (1000 : Int32)) 2 (-1000 : Int32)) 3 (-1000 : Int32)))) := hD
  refine lv_iconst (v := (0 : Int32)) hx hb dX2_frame_36 (by decide) ?_
  refine lv_istore_n (lv' := [(1, .int (0 : Int32)), (0, .ref h)]) hx hb dX2_frame_37 rfl hl (by decide) rfl (fun ls hl => ?_)
  exact hq _ hZ _ _ ls hP hD hS (lv_sub hl [1, 0] rfl)
end
