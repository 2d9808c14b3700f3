-- ===== PART A: goes FIRST, ahead of the names: the tables' words, and 'selects' of the private methods out of them =====
/-- a private method of a class that the tables say can be made, by its rows of tables_1 -/
def lw_okq (q : MethodName × Nat) : Prop := (q.1.cls ≠ "java/lang/invoke/MethodHandle" ∧ q.1.cls ≠ "java/lang/invoke/VarHandle") ∧ Cond.instantiable q.1.cls q.2 ∈ tables_1 ∧ Cond.privateMethod q.1 ∈ tables_1 ∧ Cond.instanceMethod q.1 ∈ tables_1
theorem lw_p0 : lw_okq (⟨"SortPacks$Packer", "shortenRuns", "(LSortPacks$Row;II)I"⟩, 12) := ⟨⟨by decide +kernel, by decide +kernel⟩, List.mem_of_getElem? (i := 150) (by decide +kernel), List.mem_of_getElem? (i := 435) (by decide +kernel), List.mem_of_getElem? (i := 436) (by decide +kernel)⟩
theorem lw_p1 : lw_okq (⟨"SortPacks$Packer", "packBlock", "(II)V"⟩, 12) := ⟨⟨by decide +kernel, by decide +kernel⟩, List.mem_of_getElem? (i := 150) (by decide +kernel), List.mem_of_getElem? (i := 457) (by decide +kernel), List.mem_of_getElem? (i := 458) (by decide +kernel)⟩
theorem lw_p2 : lw_okq (⟨"SortPacks$Turns", "sortPlaces", "(I)V"⟩, 4) := ⟨⟨by decide +kernel, by decide +kernel⟩, List.mem_of_getElem? (i := 131) (by decide +kernel), List.mem_of_getElem? (i := 465) (by decide +kernel), List.mem_of_getElem? (i := 466) (by decide +kernel)⟩
theorem lw_p3 : lw_okq (⟨"SortPacks$Turns", "sortWaiting", "(I)V"⟩, 4) := ⟨⟨by decide +kernel, by decide +kernel⟩, List.mem_of_getElem? (i := 131) (by decide +kernel), List.mem_of_getElem? (i := 469) (by decide +kernel), List.mem_of_getElem? (i := 470) (by decide +kernel)⟩
theorem lw_p4 : lw_okq (⟨"SortPacks$Turns", "rankAnew", "(II)V"⟩, 4) := ⟨⟨by decide +kernel, by decide +kernel⟩, List.mem_of_getElem? (i := 131) (by decide +kernel), List.mem_of_getElem? (i := 476) (by decide +kernel), List.mem_of_getElem? (i := 477) (by decide +kernel)⟩
theorem lw_p5 : lw_okq (⟨"SortPacks$Turns", "differ", "(IIII)Z"⟩, 4) := ⟨⟨by decide +kernel, by decide +kernel⟩, List.mem_of_getElem? (i := 131) (by decide +kernel), List.mem_of_getElem? (i := 480) (by decide +kernel), List.mem_of_getElem? (i := 481) (by decide +kernel)⟩
theorem lw_p6 : lw_okq (⟨"SortPacks$Packer", "findSigns", "()V"⟩, 12) := ⟨⟨by decide +kernel, by decide +kernel⟩, List.mem_of_getElem? (i := 150) (by decide +kernel), List.mem_of_getElem? (i := 487) (by decide +kernel), List.mem_of_getElem? (i := 488) (by decide +kernel)⟩
theorem lw_p7 : lw_okq (⟨"SortPacks$Packer", "makeNumbers", "()V"⟩, 12) := ⟨⟨by decide +kernel, by decide +kernel⟩, List.mem_of_getElem? (i := 150) (by decide +kernel), List.mem_of_getElem? (i := 500) (by decide +kernel), List.mem_of_getElem? (i := 501) (by decide +kernel)⟩
theorem lw_p8 : lw_okq (⟨"SortPacks$Packer", "addDigits", "(I)V"⟩, 12) := ⟨⟨by decide +kernel, by decide +kernel⟩, List.mem_of_getElem? (i := 150) (by decide +kernel), List.mem_of_getElem? (i := 517) (by decide +kernel), List.mem_of_getElem? (i := 518) (by decide +kernel)⟩
theorem lw_p9 : lw_okq (⟨"SortPacks$Packer", "addNumber", "(I)V"⟩, 12) := ⟨⟨by decide +kernel, by decide +kernel⟩, List.mem_of_getElem? (i := 150) (by decide +kernel), List.mem_of_getElem? (i := 521) (by decide +kernel), List.mem_of_getElem? (i := 522) (by decide +kernel)⟩
theorem lw_p10 : lw_okq (⟨"SortPacks$TableMaker", "setFirstCosts", "([IILSortPacks$Coding;)V"⟩, 9) := ⟨⟨by decide +kernel, by decide +kernel⟩, List.mem_of_getElem? (i := 172) (by decide +kernel), List.mem_of_getElem? (i := 532) (by decide +kernel), List.mem_of_getElem? (i := 533) (by decide +kernel)⟩
theorem lw_p11 : lw_okq (⟨"SortPacks$TableMaker", "chooseAll", "([IILSortPacks$Coding;)V"⟩, 9) := ⟨⟨by decide +kernel, by decide +kernel⟩, List.mem_of_getElem? (i := 172) (by decide +kernel), List.mem_of_getElem? (i := 537) (by decide +kernel), List.mem_of_getElem? (i := 538) (by decide +kernel)⟩
theorem lw_p12 : lw_okq (⟨"SortPacks$TableMaker", "makeLengths", "([II[I)V"⟩, 9) := ⟨⟨by decide +kernel, by decide +kernel⟩, List.mem_of_getElem? (i := 172) (by decide +kernel), List.mem_of_getElem? (i := 549) (by decide +kernel), List.mem_of_getElem? (i := 550) (by decide +kernel)⟩
theorem lw_p13 : lw_okq (⟨"SortPacks$TableMaker", "joinAll", "(I)V"⟩, 9) := ⟨⟨by decide +kernel, by decide +kernel⟩, List.mem_of_getElem? (i := 172) (by decide +kernel), List.mem_of_getElem? (i := 554) (by decide +kernel), List.mem_of_getElem? (i := 555) (by decide +kernel)⟩
theorem lw_p14 : lw_okq (⟨"SortPacks$TableMaker", "sortByWeight", "(I)V"⟩, 9) := ⟨⟨by decide +kernel, by decide +kernel⟩, List.mem_of_getElem? (i := 172) (by decide +kernel), List.mem_of_getElem? (i := 558) (by decide +kernel), List.mem_of_getElem? (i := 559) (by decide +kernel)⟩
theorem lw_p15 : lw_okq (⟨"SortPacks$TableMaker", "takeLeast", "(I)I"⟩, 9) := ⟨⟨by decide +kernel, by decide +kernel⟩, List.mem_of_getElem? (i := 172) (by decide +kernel), List.mem_of_getElem? (i := 562) (by decide +kernel), List.mem_of_getElem? (i := 563) (by decide +kernel)⟩
def lw_privs_1 : List (MethodName × Nat) := [(⟨"SortPacks$Packer", "shortenRuns", "(LSortPacks$Row;II)I"⟩, 12), (⟨"SortPacks$Packer", "packBlock", "(II)V"⟩, 12), (⟨"SortPacks$Turns", "sortPlaces", "(I)V"⟩, 4), (⟨"SortPacks$Turns", "sortWaiting", "(I)V"⟩, 4), (⟨"SortPacks$Turns", "rankAnew", "(II)V"⟩, 4), (⟨"SortPacks$Turns", "differ", "(IIII)Z"⟩, 4), (⟨"SortPacks$Packer", "findSigns", "()V"⟩, 12), (⟨"SortPacks$Packer", "makeNumbers", "()V"⟩, 12), (⟨"SortPacks$Packer", "addDigits", "(I)V"⟩, 12), (⟨"SortPacks$Packer", "addNumber", "(I)V"⟩, 12), (⟨"SortPacks$TableMaker", "setFirstCosts", "([IILSortPacks$Coding;)V"⟩, 9), (⟨"SortPacks$TableMaker", "chooseAll", "([IILSortPacks$Coding;)V"⟩, 9), (⟨"SortPacks$TableMaker", "makeLengths", "([II[I)V"⟩, 9), (⟨"SortPacks$TableMaker", "joinAll", "(I)V"⟩, 9), (⟨"SortPacks$TableMaker", "sortByWeight", "(I)V"⟩, 9), (⟨"SortPacks$TableMaker", "takeLeast", "(I)I"⟩, 9)]
theorem lw_r1 : ∀ q ∈ lw_privs_1, lw_okq q := List.forall_mem_cons.mpr ⟨lw_p0, List.forall_mem_cons.mpr ⟨lw_p1, List.forall_mem_cons.mpr ⟨lw_p2, List.forall_mem_cons.mpr ⟨lw_p3, List.forall_mem_cons.mpr ⟨lw_p4, List.forall_mem_cons.mpr ⟨lw_p5, List.forall_mem_cons.mpr ⟨lw_p6, List.forall_mem_cons.mpr ⟨lw_p7, List.forall_mem_cons.mpr ⟨lw_p8, List.forall_mem_cons.mpr ⟨lw_p9, List.forall_mem_cons.mpr ⟨lw_p10, List.forall_mem_cons.mpr ⟨lw_p11, List.forall_mem_cons.mpr ⟨lw_p12, List.forall_mem_cons.mpr ⟨lw_p13, List.forall_mem_cons.mpr ⟨lw_p14, List.forall_mem_cons.mpr ⟨lw_p15, fun _ h => absurd h List.not_mem_nil⟩⟩⟩⟩⟩⟩⟩⟩⟩⟩⟩⟩⟩⟩⟩⟩
theorem lw_p16 : lw_okq (⟨"SortPacks$TableMaker", "setLengths", "(I[I)I"⟩, 9) := ⟨⟨by decide +kernel, by decide +kernel⟩, List.mem_of_getElem? (i := 172) (by decide +kernel), List.mem_of_getElem? (i := 566) (by decide +kernel), List.mem_of_getElem? (i := 567) (by decide +kernel)⟩
theorem lw_p17 : lw_okq (⟨"SortPacks$Packer", "noteFacts", "(IILSortPacks$Coding;)V"⟩, 12) := ⟨⟨by decide +kernel, by decide +kernel⟩, List.mem_of_getElem? (i := 150) (by decide +kernel), List.mem_of_getElem? (i := 570) (by decide +kernel), List.mem_of_getElem? (i := 571) (by decide +kernel)⟩
theorem lw_p18 : lw_okq (⟨"SortPacks$Packer", "writeHead", "(I)V"⟩, 12) := ⟨⟨by decide +kernel, by decide +kernel⟩, List.mem_of_getElem? (i := 150) (by decide +kernel), List.mem_of_getElem? (i := 582) (by decide +kernel), List.mem_of_getElem? (i := 583) (by decide +kernel)⟩
theorem lw_p19 : lw_okq (⟨"SortPacks$Packer", "writeMap", "()V"⟩, 12) := ⟨⟨by decide +kernel, by decide +kernel⟩, List.mem_of_getElem? (i := 150) (by decide +kernel), List.mem_of_getElem? (i := 589) (by decide +kernel), List.mem_of_getElem? (i := 590) (by decide +kernel)⟩
theorem lw_p20 : lw_okq (⟨"SortPacks$Packer", "sixteenFrom", "(I)I"⟩, 12) := ⟨⟨by decide +kernel, by decide +kernel⟩, List.mem_of_getElem? (i := 150) (by decide +kernel), List.mem_of_getElem? (i := 593) (by decide +kernel), List.mem_of_getElem? (i := 594) (by decide +kernel)⟩
theorem lw_p21 : lw_okq (⟨"SortPacks$Packer", "writeChoices", "(LSortPacks$Coding;)V"⟩, 12) := ⟨⟨by decide +kernel, by decide +kernel⟩, List.mem_of_getElem? (i := 150) (by decide +kernel), List.mem_of_getElem? (i := 597) (by decide +kernel), List.mem_of_getElem? (i := 598) (by decide +kernel)⟩
theorem lw_p22 : lw_okq (⟨"SortPacks$Packer", "writeLengths", "(LSortPacks$Coding;)V"⟩, 12) := ⟨⟨by decide +kernel, by decide +kernel⟩, List.mem_of_getElem? (i := 150) (by decide +kernel), List.mem_of_getElem? (i := 619) (by decide +kernel), List.mem_of_getElem? (i := 620) (by decide +kernel)⟩
theorem lw_p23 : lw_okq (⟨"SortPacks$Packer", "writeCodes", "(LSortPacks$Coding;)V"⟩, 12) := ⟨⟨by decide +kernel, by decide +kernel⟩, List.mem_of_getElem? (i := 150) (by decide +kernel), List.mem_of_getElem? (i := 625) (by decide +kernel), List.mem_of_getElem? (i := 626) (by decide +kernel)⟩
theorem lw_p24 : lw_okq (⟨"SortPacks$Opener", "restart", "(I)V"⟩, 13) := ⟨⟨by decide +kernel, by decide +kernel⟩, List.mem_of_getElem? (i := 285) (by decide +kernel), List.mem_of_getElem? (i := 668) (by decide +kernel), List.mem_of_getElem? (i := 669) (by decide +kernel)⟩
theorem lw_p25 : lw_okq (⟨"SortPacks$Opener", "openRow", "(I)Z"⟩, 13) := ⟨⟨by decide +kernel, by decide +kernel⟩, List.mem_of_getElem? (i := 285) (by decide +kernel), List.mem_of_getElem? (i := 674) (by decide +kernel), List.mem_of_getElem? (i := 675) (by decide +kernel)⟩
theorem lw_p26 : lw_okq (⟨"SortPacks$Opener", "readRowHead", "()Z"⟩, 13) := ⟨⟨by decide +kernel, by decide +kernel⟩, List.mem_of_getElem? (i := 285) (by decide +kernel), List.mem_of_getElem? (i := 678) (by decide +kernel), List.mem_of_getElem? (i := 679) (by decide +kernel)⟩
theorem lw_p27 : lw_okq (⟨"SortPacks$Opener", "breaks", "(I)Z"⟩, 13) := ⟨⟨by decide +kernel, by decide +kernel⟩, List.mem_of_getElem? (i := 285) (by decide +kernel), List.mem_of_getElem? (i := 691) (by decide +kernel), List.mem_of_getElem? (i := 692) (by decide +kernel)⟩
theorem lw_p28 : lw_okq (⟨"SortPacks$Opener", "readRowEnd", "(I)Z"⟩, 13) := ⟨⟨by decide +kernel, by decide +kernel⟩, List.mem_of_getElem? (i := 285) (by decide +kernel), List.mem_of_getElem? (i := 700) (by decide +kernel), List.mem_of_getElem? (i := 701) (by decide +kernel)⟩
theorem lw_p29 : lw_okq (⟨"SortPacks$Opener", "openBlock", "(I)Z"⟩, 13) := ⟨⟨by decide +kernel, by decide +kernel⟩, List.mem_of_getElem? (i := 285) (by decide +kernel), List.mem_of_getElem? (i := 708) (by decide +kernel), List.mem_of_getElem? (i := 709) (by decide +kernel)⟩
theorem lw_p30 : lw_okq (⟨"SortPacks$Opener", "readHead", "()Z"⟩, 13) := ⟨⟨by decide +kernel, by decide +kernel⟩, List.mem_of_getElem? (i := 285) (by decide +kernel), List.mem_of_getElem? (i := 712) (by decide +kernel), List.mem_of_getElem? (i := 713) (by decide +kernel)⟩
theorem lw_p31 : lw_okq (⟨"SortPacks$Opener", "readMap", "()Z"⟩, 13) := ⟨⟨by decide +kernel, by decide +kernel⟩, List.mem_of_getElem? (i := 285) (by decide +kernel), List.mem_of_getElem? (i := 716) (by decide +kernel), List.mem_of_getElem? (i := 717) (by decide +kernel)⟩
def lw_privs_2 : List (MethodName × Nat) := [(⟨"SortPacks$TableMaker", "setLengths", "(I[I)I"⟩, 9), (⟨"SortPacks$Packer", "noteFacts", "(IILSortPacks$Coding;)V"⟩, 12), (⟨"SortPacks$Packer", "writeHead", "(I)V"⟩, 12), (⟨"SortPacks$Packer", "writeMap", "()V"⟩, 12), (⟨"SortPacks$Packer", "sixteenFrom", "(I)I"⟩, 12), (⟨"SortPacks$Packer", "writeChoices", "(LSortPacks$Coding;)V"⟩, 12), (⟨"SortPacks$Packer", "writeLengths", "(LSortPacks$Coding;)V"⟩, 12), (⟨"SortPacks$Packer", "writeCodes", "(LSortPacks$Coding;)V"⟩, 12), (⟨"SortPacks$Opener", "restart", "(I)V"⟩, 13), (⟨"SortPacks$Opener", "openRow", "(I)Z"⟩, 13), (⟨"SortPacks$Opener", "readRowHead", "()Z"⟩, 13), (⟨"SortPacks$Opener", "breaks", "(I)Z"⟩, 13), (⟨"SortPacks$Opener", "readRowEnd", "(I)Z"⟩, 13), (⟨"SortPacks$Opener", "openBlock", "(I)Z"⟩, 13), (⟨"SortPacks$Opener", "readHead", "()Z"⟩, 13), (⟨"SortPacks$Opener", "readMap", "()Z"⟩, 13)]
theorem lw_r2 : ∀ q ∈ lw_privs_2, lw_okq q := List.forall_mem_cons.mpr ⟨lw_p16, List.forall_mem_cons.mpr ⟨lw_p17, List.forall_mem_cons.mpr ⟨lw_p18, List.forall_mem_cons.mpr ⟨lw_p19, List.forall_mem_cons.mpr ⟨lw_p20, List.forall_mem_cons.mpr ⟨lw_p21, List.forall_mem_cons.mpr ⟨lw_p22, List.forall_mem_cons.mpr ⟨lw_p23, List.forall_mem_cons.mpr ⟨lw_p24, List.forall_mem_cons.mpr ⟨lw_p25, List.forall_mem_cons.mpr ⟨lw_p26, List.forall_mem_cons.mpr ⟨lw_p27, List.forall_mem_cons.mpr ⟨lw_p28, List.forall_mem_cons.mpr ⟨lw_p29, List.forall_mem_cons.mpr ⟨lw_p30, List.forall_mem_cons.mpr ⟨lw_p31, fun _ h => absurd h List.not_mem_nil⟩⟩⟩⟩⟩⟩⟩⟩⟩⟩⟩⟩⟩⟩⟩⟩
theorem lw_p32 : lw_okq (⟨"SortPacks$Opener", "readChoices", "(LSortPacks$Coding;)Z"⟩, 13) := ⟨⟨by decide +kernel, by decide +kernel⟩, List.mem_of_getElem? (i := 285) (by decide +kernel), List.mem_of_getElem? (i := 722) (by decide +kernel), List.mem_of_getElem? (i := 723) (by decide +kernel)⟩
theorem lw_p33 : lw_okq (⟨"SortPacks$Opener", "readChoice", "(LSortPacks$Coding;I)Z"⟩, 13) := ⟨⟨by decide +kernel, by decide +kernel⟩, List.mem_of_getElem? (i := 285) (by decide +kernel), List.mem_of_getElem? (i := 727) (by decide +kernel), List.mem_of_getElem? (i := 728) (by decide +kernel)⟩
theorem lw_p34 : lw_okq (⟨"SortPacks$Opener", "readLengths", "(LSortPacks$Coding;)Z"⟩, 13) := ⟨⟨by decide +kernel, by decide +kernel⟩, List.mem_of_getElem? (i := 285) (by decide +kernel), List.mem_of_getElem? (i := 733) (by decide +kernel), List.mem_of_getElem? (i := 734) (by decide +kernel)⟩
theorem lw_p35 : lw_okq (⟨"SortPacks$Opener", "changedLength", "(I)I"⟩, 13) := ⟨⟨by decide +kernel, by decide +kernel⟩, List.mem_of_getElem? (i := 285) (by decide +kernel), List.mem_of_getElem? (i := 740) (by decide +kernel), List.mem_of_getElem? (i := 741) (by decide +kernel)⟩
theorem lw_p36 : lw_okq (⟨"SortPacks$Opener", "readNumbers", "(LSortPacks$Coding;I)Z"⟩, 13) := ⟨⟨by decide +kernel, by decide +kernel⟩, List.mem_of_getElem? (i := 285) (by decide +kernel), List.mem_of_getElem? (i := 745) (by decide +kernel), List.mem_of_getElem? (i := 746) (by decide +kernel)⟩
theorem lw_p37 : lw_okq (⟨"SortPacks$Opener", "addLast", "(III)Z"⟩, 13) := ⟨⟨by decide +kernel, by decide +kernel⟩, List.mem_of_getElem? (i := 285) (by decide +kernel), List.mem_of_getElem? (i := 759) (by decide +kernel), List.mem_of_getElem? (i := 760) (by decide +kernel)⟩
theorem lw_p38 : lw_okq (⟨"SortPacks$Opener", "turnBlockBack", "()Z"⟩, 13) := ⟨⟨by decide +kernel, by decide +kernel⟩, List.mem_of_getElem? (i := 285) (by decide +kernel), List.mem_of_getElem? (i := 763) (by decide +kernel), List.mem_of_getElem? (i := 764) (by decide +kernel)⟩
theorem lw_p39 : lw_okq (⟨"SortPacks$Opener", "writeOut", "()Z"⟩, 13) := ⟨⟨by decide +kernel, by decide +kernel⟩, List.mem_of_getElem? (i := 285) (by decide +kernel), List.mem_of_getElem? (i := 771) (by decide +kernel), List.mem_of_getElem? (i := 772) (by decide +kernel)⟩
theorem lw_p40 : lw_okq (⟨"SortPacks$Opener", "plainSize", "()I"⟩, 13) := ⟨⟨by decide +kernel, by decide +kernel⟩, List.mem_of_getElem? (i := 285) (by decide +kernel), List.mem_of_getElem? (i := 775) (by decide +kernel), List.mem_of_getElem? (i := 776) (by decide +kernel)⟩
theorem lw_p41 : lw_okq (⟨"SortPacks$Opener", "lengthenRuns", "()I"⟩, 13) := ⟨⟨by decide +kernel, by decide +kernel⟩, List.mem_of_getElem? (i := 285) (by decide +kernel), List.mem_of_getElem? (i := 779) (by decide +kernel), List.mem_of_getElem? (i := 780) (by decide +kernel)⟩
theorem lw_p42 : lw_okq (⟨"SortPacks", "findMark", "(I)I"⟩, 7) := ⟨⟨by decide +kernel, by decide +kernel⟩, List.mem_of_getElem? (i := 24) (by decide +kernel), List.mem_of_getElem? (i := 868) (by decide +kernel), List.mem_of_getElem? (i := 869) (by decide +kernel)⟩
theorem lw_p43 : lw_okq (⟨"java/lang/Throwable", "fillInStackTrace", "(I)Ljava/lang/Throwable;"⟩, 6) := ⟨⟨by decide +kernel, by decide +kernel⟩, List.mem_of_getElem? (i := 932) (by decide +kernel), List.mem_of_getElem? (i := 930) (by decide +kernel), List.mem_of_getElem? (i := 931) (by decide +kernel)⟩
theorem lw_p44 : lw_okq (⟨"SortPacksModel", "toldBlocks", "()I"⟩, 47) := ⟨⟨by decide +kernel, by decide +kernel⟩, List.mem_of_getElem? (i := 968) (by decide +kernel), List.mem_of_getElem? (i := 1191) (by decide +kernel), List.mem_of_getElem? (i := 1192) (by decide +kernel)⟩
theorem lw_p45 : lw_okq (⟨"SortPacksModel", "put", "(JI)V"⟩, 47) := ⟨⟨by decide +kernel, by decide +kernel⟩, List.mem_of_getElem? (i := 968) (by decide +kernel), List.mem_of_getElem? (i := 1213) (by decide +kernel), List.mem_of_getElem? (i := 1214) (by decide +kernel)⟩
theorem lw_p46 : lw_okq (⟨"SortPacksModel", "putBit", "(I)V"⟩, 47) := ⟨⟨by decide +kernel, by decide +kernel⟩, List.mem_of_getElem? (i := 968) (by decide +kernel), List.mem_of_getElem? (i := 1217) (by decide +kernel), List.mem_of_getElem? (i := 1218) (by decide +kernel)⟩
theorem lw_p47 : lw_okq (⟨"SortPacksModel", "packBlock", "(II)I"⟩, 47) := ⟨⟨by decide +kernel, by decide +kernel⟩, List.mem_of_getElem? (i := 968) (by decide +kernel), List.mem_of_getElem? (i := 1223) (by decide +kernel), List.mem_of_getElem? (i := 1224) (by decide +kernel)⟩
def lw_privs_3 : List (MethodName × Nat) := [(⟨"SortPacks$Opener", "readChoices", "(LSortPacks$Coding;)Z"⟩, 13), (⟨"SortPacks$Opener", "readChoice", "(LSortPacks$Coding;I)Z"⟩, 13), (⟨"SortPacks$Opener", "readLengths", "(LSortPacks$Coding;)Z"⟩, 13), (⟨"SortPacks$Opener", "changedLength", "(I)I"⟩, 13), (⟨"SortPacks$Opener", "readNumbers", "(LSortPacks$Coding;I)Z"⟩, 13), (⟨"SortPacks$Opener", "addLast", "(III)Z"⟩, 13), (⟨"SortPacks$Opener", "turnBlockBack", "()Z"⟩, 13), (⟨"SortPacks$Opener", "writeOut", "()Z"⟩, 13), (⟨"SortPacks$Opener", "plainSize", "()I"⟩, 13), (⟨"SortPacks$Opener", "lengthenRuns", "()I"⟩, 13), (⟨"SortPacks", "findMark", "(I)I"⟩, 7), (⟨"java/lang/Throwable", "fillInStackTrace", "(I)Ljava/lang/Throwable;"⟩, 6), (⟨"SortPacksModel", "toldBlocks", "()I"⟩, 47), (⟨"SortPacksModel", "put", "(JI)V"⟩, 47), (⟨"SortPacksModel", "putBit", "(I)V"⟩, 47), (⟨"SortPacksModel", "packBlock", "(II)I"⟩, 47)]
theorem lw_r3 : ∀ q ∈ lw_privs_3, lw_okq q := List.forall_mem_cons.mpr ⟨lw_p32, List.forall_mem_cons.mpr ⟨lw_p33, List.forall_mem_cons.mpr ⟨lw_p34, List.forall_mem_cons.mpr ⟨lw_p35, List.forall_mem_cons.mpr ⟨lw_p36, List.forall_mem_cons.mpr ⟨lw_p37, List.forall_mem_cons.mpr ⟨lw_p38, List.forall_mem_cons.mpr ⟨lw_p39, List.forall_mem_cons.mpr ⟨lw_p40, List.forall_mem_cons.mpr ⟨lw_p41, List.forall_mem_cons.mpr ⟨lw_p42, List.forall_mem_cons.mpr ⟨lw_p43, List.forall_mem_cons.mpr ⟨lw_p44, List.forall_mem_cons.mpr ⟨lw_p45, List.forall_mem_cons.mpr ⟨lw_p46, List.forall_mem_cons.mpr ⟨lw_p47, fun _ h => absurd h List.not_mem_nil⟩⟩⟩⟩⟩⟩⟩⟩⟩⟩⟩⟩⟩⟩⟩⟩
theorem lw_p48 : lw_okq (⟨"SortPacksModel", "sortTurns", "()V"⟩, 47) := ⟨⟨by decide +kernel, by decide +kernel⟩, List.mem_of_getElem? (i := 968) (by decide +kernel), List.mem_of_getElem? (i := 1231) (by decide +kernel), List.mem_of_getElem? (i := 1232) (by decide +kernel)⟩
theorem lw_p49 : lw_okq (⟨"SortPacksModel", "isAhead", "(II)Z"⟩, 47) := ⟨⟨by decide +kernel, by decide +kernel⟩, List.mem_of_getElem? (i := 968) (by decide +kernel), List.mem_of_getElem? (i := 1235) (by decide +kernel), List.mem_of_getElem? (i := 1236) (by decide +kernel)⟩
theorem lw_p50 : lw_okq (⟨"SortPacksModel", "findSigns", "()V"⟩, 47) := ⟨⟨by decide +kernel, by decide +kernel⟩, List.mem_of_getElem? (i := 968) (by decide +kernel), List.mem_of_getElem? (i := 1239) (by decide +kernel), List.mem_of_getElem? (i := 1240) (by decide +kernel)⟩
theorem lw_p51 : lw_okq (⟨"SortPacksModel", "takeSigns", "()V"⟩, 47) := ⟨⟨by decide +kernel, by decide +kernel⟩, List.mem_of_getElem? (i := 968) (by decide +kernel), List.mem_of_getElem? (i := 1243) (by decide +kernel), List.mem_of_getElem? (i := 1244) (by decide +kernel)⟩
theorem lw_p52 : lw_okq (⟨"SortPacksModel", "makeNumbers", "()V"⟩, 47) := ⟨⟨by decide +kernel, by decide +kernel⟩, List.mem_of_getElem? (i := 968) (by decide +kernel), List.mem_of_getElem? (i := 1247) (by decide +kernel), List.mem_of_getElem? (i := 1248) (by decide +kernel)⟩
theorem lw_p53 : lw_okq (⟨"SortPacksModel", "digits", "(I)V"⟩, 47) := ⟨⟨by decide +kernel, by decide +kernel⟩, List.mem_of_getElem? (i := 968) (by decide +kernel), List.mem_of_getElem? (i := 1251) (by decide +kernel), List.mem_of_getElem? (i := 1252) (by decide +kernel)⟩
theorem lw_p54 : lw_okq (⟨"SortPacksModel", "number", "(I)V"⟩, 47) := ⟨⟨by decide +kernel, by decide +kernel⟩, List.mem_of_getElem? (i := 968) (by decide +kernel), List.mem_of_getElem? (i := 1255) (by decide +kernel), List.mem_of_getElem? (i := 1256) (by decide +kernel)⟩
theorem lw_p55 : lw_okq (⟨"SortPacksModel", "chooseTables", "(I)V"⟩, 47) := ⟨⟨by decide +kernel, by decide +kernel⟩, List.mem_of_getElem? (i := 968) (by decide +kernel), List.mem_of_getElem? (i := 1259) (by decide +kernel), List.mem_of_getElem? (i := 1260) (by decide +kernel)⟩
theorem lw_p56 : lw_okq (⟨"SortPacksModel", "firstCosts", "(I)V"⟩, 47) := ⟨⟨by decide +kernel, by decide +kernel⟩, List.mem_of_getElem? (i := 968) (by decide +kernel), List.mem_of_getElem? (i := 1263) (by decide +kernel), List.mem_of_getElem? (i := 1264) (by decide +kernel)⟩
theorem lw_p57 : lw_okq (⟨"SortPacksModel", "makeLengths", "(II)V"⟩, 47) := ⟨⟨by decide +kernel, by decide +kernel⟩, List.mem_of_getElem? (i := 968) (by decide +kernel), List.mem_of_getElem? (i := 1267) (by decide +kernel), List.mem_of_getElem? (i := 1268) (by decide +kernel)⟩
theorem lw_p58 : lw_okq (⟨"SortPacksModel", "leastOne", "(II)I"⟩, 47) := ⟨⟨by decide +kernel, by decide +kernel⟩, List.mem_of_getElem? (i := 968) (by decide +kernel), List.mem_of_getElem? (i := 1271) (by decide +kernel), List.mem_of_getElem? (i := 1272) (by decide +kernel)⟩
theorem lw_p59 : lw_okq (⟨"SortPacksModel", "putMap", "()V"⟩, 47) := ⟨⟨by decide +kernel, by decide +kernel⟩, List.mem_of_getElem? (i := 968) (by decide +kernel), List.mem_of_getElem? (i := 1278) (by decide +kernel), List.mem_of_getElem? (i := 1279) (by decide +kernel)⟩
theorem lw_p60 : lw_okq (⟨"SortPacksModel", "putChoices", "()V"⟩, 47) := ⟨⟨by decide +kernel, by decide +kernel⟩, List.mem_of_getElem? (i := 968) (by decide +kernel), List.mem_of_getElem? (i := 1282) (by decide +kernel), List.mem_of_getElem? (i := 1283) (by decide +kernel)⟩
theorem lw_p61 : lw_okq (⟨"SortPacksModel", "makeCodes", "(II)V"⟩, 47) := ⟨⟨by decide +kernel, by decide +kernel⟩, List.mem_of_getElem? (i := 968) (by decide +kernel), List.mem_of_getElem? (i := 1286) (by decide +kernel), List.mem_of_getElem? (i := 1287) (by decide +kernel)⟩
theorem lw_p62 : lw_okq (⟨"SortPacksModel", "putLengths", "(II)V"⟩, 47) := ⟨⟨by decide +kernel, by decide +kernel⟩, List.mem_of_getElem? (i := 968) (by decide +kernel), List.mem_of_getElem? (i := 1290) (by decide +kernel), List.mem_of_getElem? (i := 1291) (by decide +kernel)⟩
theorem lw_p63 : lw_okq (⟨"SortPacksModel", "note", "(IIIIIIIIII)V"⟩, 47) := ⟨⟨by decide +kernel, by decide +kernel⟩, List.mem_of_getElem? (i := 968) (by decide +kernel), List.mem_of_getElem? (i := 1295) (by decide +kernel), List.mem_of_getElem? (i := 1296) (by decide +kernel)⟩
def lw_privs_4 : List (MethodName × Nat) := [(⟨"SortPacksModel", "sortTurns", "()V"⟩, 47), (⟨"SortPacksModel", "isAhead", "(II)Z"⟩, 47), (⟨"SortPacksModel", "findSigns", "()V"⟩, 47), (⟨"SortPacksModel", "takeSigns", "()V"⟩, 47), (⟨"SortPacksModel", "makeNumbers", "()V"⟩, 47), (⟨"SortPacksModel", "digits", "(I)V"⟩, 47), (⟨"SortPacksModel", "number", "(I)V"⟩, 47), (⟨"SortPacksModel", "chooseTables", "(I)V"⟩, 47), (⟨"SortPacksModel", "firstCosts", "(I)V"⟩, 47), (⟨"SortPacksModel", "makeLengths", "(II)V"⟩, 47), (⟨"SortPacksModel", "leastOne", "(II)I"⟩, 47), (⟨"SortPacksModel", "putMap", "()V"⟩, 47), (⟨"SortPacksModel", "putChoices", "()V"⟩, 47), (⟨"SortPacksModel", "makeCodes", "(II)V"⟩, 47), (⟨"SortPacksModel", "putLengths", "(II)V"⟩, 47), (⟨"SortPacksModel", "note", "(IIIIIIIIII)V"⟩, 47)]
theorem lw_r4 : ∀ q ∈ lw_privs_4, lw_okq q := List.forall_mem_cons.mpr ⟨lw_p48, List.forall_mem_cons.mpr ⟨lw_p49, List.forall_mem_cons.mpr ⟨lw_p50, List.forall_mem_cons.mpr ⟨lw_p51, List.forall_mem_cons.mpr ⟨lw_p52, List.forall_mem_cons.mpr ⟨lw_p53, List.forall_mem_cons.mpr ⟨lw_p54, List.forall_mem_cons.mpr ⟨lw_p55, List.forall_mem_cons.mpr ⟨lw_p56, List.forall_mem_cons.mpr ⟨lw_p57, List.forall_mem_cons.mpr ⟨lw_p58, List.forall_mem_cons.mpr ⟨lw_p59, List.forall_mem_cons.mpr ⟨lw_p60, List.forall_mem_cons.mpr ⟨lw_p61, List.forall_mem_cons.mpr ⟨lw_p62, List.forall_mem_cons.mpr ⟨lw_p63, fun _ h => absurd h List.not_mem_nil⟩⟩⟩⟩⟩⟩⟩⟩⟩⟩⟩⟩⟩⟩⟩⟩
theorem lw_p64 : lw_okq (⟨"SortPacksModel", "keepTables", "(III)V"⟩, 47) := ⟨⟨by decide +kernel, by decide +kernel⟩, List.mem_of_getElem? (i := 968) (by decide +kernel), List.mem_of_getElem? (i := 1299) (by decide +kernel), List.mem_of_getElem? (i := 1300) (by decide +kernel)⟩
theorem lw_p65 : lw_okq (⟨"SortPacksModel", "readRow", "(I)V"⟩, 47) := ⟨⟨by decide +kernel, by decide +kernel⟩, List.mem_of_getElem? (i := 968) (by decide +kernel), List.mem_of_getElem? (i := 1311) (by decide +kernel), List.mem_of_getElem? (i := 1312) (by decide +kernel)⟩
theorem lw_p66 : lw_okq (⟨"SortPacksModel", "bits", "(I)J"⟩, 47) := ⟨⟨by decide +kernel, by decide +kernel⟩, List.mem_of_getElem? (i := 968) (by decide +kernel), List.mem_of_getElem? (i := 1315) (by decide +kernel), List.mem_of_getElem? (i := 1316) (by decide +kernel)⟩
theorem lw_p67 : lw_okq (⟨"SortPacksModel", "bit", "()I"⟩, 47) := ⟨⟨by decide +kernel, by decide +kernel⟩, List.mem_of_getElem? (i := 968) (by decide +kernel), List.mem_of_getElem? (i := 1319) (by decide +kernel), List.mem_of_getElem? (i := 1320) (by decide +kernel)⟩
theorem lw_p68 : lw_okq (⟨"SortPacksModel", "fail", "(I)V"⟩, 47) := ⟨⟨by decide +kernel, by decide +kernel⟩, List.mem_of_getElem? (i := 968) (by decide +kernel), List.mem_of_getElem? (i := 1323) (by decide +kernel), List.mem_of_getElem? (i := 1324) (by decide +kernel)⟩
theorem lw_p69 : lw_okq (⟨"SortPacksModel", "readBlock", "(IIIIZ)I"⟩, 47) := ⟨⟨by decide +kernel, by decide +kernel⟩, List.mem_of_getElem? (i := 968) (by decide +kernel), List.mem_of_getElem? (i := 1328) (by decide +kernel), List.mem_of_getElem? (i := 1329) (by decide +kernel)⟩
theorem lw_p70 : lw_okq (⟨"SortPacksModel", "readMap", "()V"⟩, 47) := ⟨⟨by decide +kernel, by decide +kernel⟩, List.mem_of_getElem? (i := 968) (by decide +kernel), List.mem_of_getElem? (i := 1332) (by decide +kernel), List.mem_of_getElem? (i := 1333) (by decide +kernel)⟩
theorem lw_p71 : lw_okq (⟨"SortPacksModel", "readChoices", "()V"⟩, 47) := ⟨⟨by decide +kernel, by decide +kernel⟩, List.mem_of_getElem? (i := 968) (by decide +kernel), List.mem_of_getElem? (i := 1336) (by decide +kernel), List.mem_of_getElem? (i := 1337) (by decide +kernel)⟩
theorem lw_p72 : lw_okq (⟨"SortPacksModel", "readLengths", "(II)V"⟩, 47) := ⟨⟨by decide +kernel, by decide +kernel⟩, List.mem_of_getElem? (i := 968) (by decide +kernel), List.mem_of_getElem? (i := 1341) (by decide +kernel), List.mem_of_getElem? (i := 1342) (by decide +kernel)⟩
theorem lw_p73 : lw_okq (⟨"SortPacksModel", "mustBeLength", "(I)V"⟩, 47) := ⟨⟨by decide +kernel, by decide +kernel⟩, List.mem_of_getElem? (i := 968) (by decide +kernel), List.mem_of_getElem? (i := 1345) (by decide +kernel), List.mem_of_getElem? (i := 1346) (by decide +kernel)⟩
theorem lw_p74 : lw_okq (⟨"SortPacksModel", "readNumbers", "(II)V"⟩, 47) := ⟨⟨by decide +kernel, by decide +kernel⟩, List.mem_of_getElem? (i := 968) (by decide +kernel), List.mem_of_getElem? (i := 1349) (by decide +kernel), List.mem_of_getElem? (i := 1350) (by decide +kernel)⟩
theorem lw_p75 : lw_okq (⟨"SortPacksModel", "readCode", "(II)I"⟩, 47) := ⟨⟨by decide +kernel, by decide +kernel⟩, List.mem_of_getElem? (i := 968) (by decide +kernel), List.mem_of_getElem? (i := 1353) (by decide +kernel), List.mem_of_getElem? (i := 1354) (by decide +kernel)⟩
theorem lw_p76 : lw_okq (⟨"SortPacksModel", "addBytes", "(II)V"⟩, 47) := ⟨⟨by decide +kernel, by decide +kernel⟩, List.mem_of_getElem? (i := 968) (by decide +kernel), List.mem_of_getElem? (i := 1357) (by decide +kernel), List.mem_of_getElem? (i := 1358) (by decide +kernel)⟩
theorem lw_p77 : lw_okq (⟨"SortPacksModel", "turnBack", "(I)V"⟩, 47) := ⟨⟨by decide +kernel, by decide +kernel⟩, List.mem_of_getElem? (i := 968) (by decide +kernel), List.mem_of_getElem? (i := 1361) (by decide +kernel), List.mem_of_getElem? (i := 1362) (by decide +kernel)⟩
theorem lw_p78 : lw_okq (⟨"SortPacksModel", "runSize", "(Z)I"⟩, 47) := ⟨⟨by decide +kernel, by decide +kernel⟩, List.mem_of_getElem? (i := 968) (by decide +kernel), List.mem_of_getElem? (i := 1365) (by decide +kernel), List.mem_of_getElem? (i := 1366) (by decide +kernel)⟩
theorem lw_p79 : lw_okq (⟨"SortPacksModel", "markAt", "(I)I"⟩, 47) := ⟨⟨by decide +kernel, by decide +kernel⟩, List.mem_of_getElem? (i := 968) (by decide +kernel), List.mem_of_getElem? (i := 1373) (by decide +kernel), List.mem_of_getElem? (i := 1374) (by decide +kernel)⟩
def lw_privs_5 : List (MethodName × Nat) := [(⟨"SortPacksModel", "keepTables", "(III)V"⟩, 47), (⟨"SortPacksModel", "readRow", "(I)V"⟩, 47), (⟨"SortPacksModel", "bits", "(I)J"⟩, 47), (⟨"SortPacksModel", "bit", "()I"⟩, 47), (⟨"SortPacksModel", "fail", "(I)V"⟩, 47), (⟨"SortPacksModel", "readBlock", "(IIIIZ)I"⟩, 47), (⟨"SortPacksModel", "readMap", "()V"⟩, 47), (⟨"SortPacksModel", "readChoices", "()V"⟩, 47), (⟨"SortPacksModel", "readLengths", "(II)V"⟩, 47), (⟨"SortPacksModel", "mustBeLength", "(I)V"⟩, 47), (⟨"SortPacksModel", "readNumbers", "(II)V"⟩, 47), (⟨"SortPacksModel", "readCode", "(II)I"⟩, 47), (⟨"SortPacksModel", "addBytes", "(II)V"⟩, 47), (⟨"SortPacksModel", "turnBack", "(I)V"⟩, 47), (⟨"SortPacksModel", "runSize", "(Z)I"⟩, 47), (⟨"SortPacksModel", "markAt", "(I)I"⟩, 47)]
theorem lw_r5 : ∀ q ∈ lw_privs_5, lw_okq q := List.forall_mem_cons.mpr ⟨lw_p64, List.forall_mem_cons.mpr ⟨lw_p65, List.forall_mem_cons.mpr ⟨lw_p66, List.forall_mem_cons.mpr ⟨lw_p67, List.forall_mem_cons.mpr ⟨lw_p68, List.forall_mem_cons.mpr ⟨lw_p69, List.forall_mem_cons.mpr ⟨lw_p70, List.forall_mem_cons.mpr ⟨lw_p71, List.forall_mem_cons.mpr ⟨lw_p72, List.forall_mem_cons.mpr ⟨lw_p73, List.forall_mem_cons.mpr ⟨lw_p74, List.forall_mem_cons.mpr ⟨lw_p75, List.forall_mem_cons.mpr ⟨lw_p76, List.forall_mem_cons.mpr ⟨lw_p77, List.forall_mem_cons.mpr ⟨lw_p78, List.forall_mem_cons.mpr ⟨lw_p79, fun _ h => absurd h List.not_mem_nil⟩⟩⟩⟩⟩⟩⟩⟩⟩⟩⟩⟩⟩⟩⟩⟩
def lw_privs : List (MethodName × Nat) := lw_privs_1 ++ (lw_privs_2 ++ (lw_privs_3 ++ (lw_privs_4 ++ (lw_privs_5))))
def lw_tbl : List Cond := k2_sels lw_privs ++ tables_1
theorem lw_privs_ok : ∀ q ∈ lw_privs, lw_okq q := by
  show ∀ q ∈ lw_privs_1 ++ (lw_privs_2 ++ (lw_privs_3 ++ (lw_privs_4 ++ (lw_privs_5)))), lw_okq q
  exact List.forall_mem_append.mpr ⟨lw_r1, List.forall_mem_append.mpr ⟨lw_r2, List.forall_mem_append.mpr ⟨lw_r3, List.forall_mem_append.mpr ⟨lw_r4, lw_r5⟩⟩⟩⟩

/-! ===== BEGIN words of one list among another's, by their places ===== -/
theorem goodIn_r {big : List Cond} (ws : List Cond) (ps : List Nat) (hp : ws = ps.filterMap (fun i => big[i]?)) (h : ws.all goodWord = true) : GoodIn big ws := by
  intro w hw
  have h1 := List.all_eq_true.mp h w hw
  rw [hp] at hw
  obtain ⟨i, -, hi⟩ := List.mem_filterMap.mp hw
  have hm : w ∈ big := by first | exact List.mem_of_getElem? hi | exact List.getElem?_mem hi
  exact ⟨hm, good_of_word h1⟩
theorem goodIn_app {big a b : List Cond} (ha : GoodIn big a) (hb : GoodIn big b) : GoodIn big (a ++ b) := fun w h => (List.mem_append.mp h).elim (ha w) (hb w)
theorem goodIn_ca {big a b : List Cond} {c : Cond} (ha : GoodIn big (c :: a)) (hb : GoodIn big b) : GoodIn big (c :: (a ++ b)) := fun w h => (List.mem_cons.mp h).elim (fun e => ha w (List.mem_cons.mpr (Or.inl e))) (fun h => (List.mem_append.mp h).elim (fun h => ha w (List.mem_cons.mpr (Or.inr h))) (hb w))
theorem goodIn_sub {big ws : List Cond} (hm : ∀ w ∈ ws, w ∈ big) (h : ws.all goodWord = true) : GoodIn big ws := fun w hw => ⟨hm w hw, good_of_word (List.all_eq_true.mp h w hw)⟩
/-! ===== END ===== -/

def RX0 : String := "SortPacks$BitReader"
def TX0 : u_T := fun k => match k with
  | 0 => ("SortPacks$BitReader", "row", "LSortPacks$Row;", true)
  | _ => ("SortPacks$BitReader", "at", "I", false)
def tyX0 : Nat → FieldType := fun k => match k with
  | 0 => .object "SortPacks$Row"
  | _ => .int
abbrev wsX00 : List Cond := u_ws RX0 TX0 2
theorem nmX0 : ∀ a, a < 2 → ∀ b, b < 2 → a ≠ b → (TX0 a).2.1 ≠ (TX0 b).2.1 := by decide +kernel
theorem tyX0_ok : ∀ k, k < 2 → parseFieldDescriptor (TX0 k).2.2.1 = some (tyX0 k) := by decide +kernel
abbrev cX0_init : ByteArray := prog_2_method_1_code
def yX0_init : MethodName := ⟨RX0, "<init>", "(LSortPacks$Row;)V"⟩
abbrev cX0_isAtEnd : ByteArray := prog_2_method_2_code
def yX0_isAtEnd : MethodName := ⟨RX0, "isAtEnd", "()Z"⟩
abbrev cX0_next : ByteArray := prog_2_method_3_code
def yX0_next : MethodName := ⟨RX0, "next", "()I"⟩
abbrev cX0_number : ByteArray := prog_2_method_4_code
def yX0_number : MethodName := ⟨RX0, "number", "(I)J"⟩
abbrev cX0_bytesTouched : ByteArray := prog_2_method_5_code
def yX0_bytesTouched : MethodName := ⟨RX0, "bytesTouched", "()I"⟩
def RX1 : String := "SortPacks$BitWriter"
def TX1 : u_T := fun k => match k with
  | 0 => ("SortPacks$BitWriter", "row", "LSortPacks$Row;", true)
  | 1 => ("SortPacks$BitWriter", "written", "I", false)
  | _ => ("SortPacks$BitWriter", "filling", "I", false)
def tyX1 : Nat → FieldType := fun k => match k with
  | 0 => .object "SortPacks$Row"
  | 1 => .int
  | _ => .int
abbrev wsX10 : List Cond := u_ws RX1 TX1 3
theorem nmX1 : ∀ a, a < 3 → ∀ b, b < 3 → a ≠ b → (TX1 a).2.1 ≠ (TX1 b).2.1 := by decide +kernel
theorem tyX1_ok : ∀ k, k < 3 → parseFieldDescriptor (TX1 k).2.2.1 = some (tyX1 k) := by decide +kernel
abbrev cX1_init : ByteArray := prog_3_method_1_code
def yX1_init : MethodName := ⟨RX1, "<init>", "(LSortPacks$Row;)V"⟩
abbrev cX1_restart : ByteArray := prog_3_method_2_code
def yX1_restart : MethodName := ⟨RX1, "restart", "()V"⟩
abbrev cX1_putBit : ByteArray := prog_3_method_3_code
def yX1_putBit : MethodName := ⟨RX1, "putBit", "(I)V"⟩
abbrev cX1_put : ByteArray := prog_3_method_4_code
def yX1_put : MethodName := ⟨RX1, "put", "(IJ)V"⟩
abbrev cX1_putOnes : ByteArray := prog_3_method_5_code
def yX1_putOnes : MethodName := ⟨RX1, "putOnes", "(I)V"⟩
abbrev cX1_fillByte : ByteArray := prog_3_method_6_code
def yX1_fillByte : MethodName := ⟨RX1, "fillByte", "()V"⟩
abbrev cX1_allFitted : ByteArray := prog_3_method_7_code
def yX1_allFitted : MethodName := ⟨RX1, "allFitted", "()Z"⟩
def RX2 : String := "SortPacks$Codes"
def TX2 : u_T := fun k => match k with
  | 0 => ("SortPacks$Codes", "first", "[I", true)
  | 1 => ("SortPacks$Codes", "have", "[I", true)
  | 2 => ("SortPacks$Codes", "begin", "[I", true)
  | 3 => ("SortPacks$Codes", "sorted", "[I", true)
  | _ => ("SortPacks$Codes", "code", "[I", true)
def tyX2 : Nat → FieldType := fun k => match k with
  | 0 => .array .int
  | 1 => .array .int
  | 2 => .array .int
  | 3 => .array .int
  | _ => .array .int
abbrev wsX20 : List Cond := u_ws RX2 TX2 5
theorem nmX2 : ∀ a, a < 5 → ∀ b, b < 5 → a ≠ b → (TX2 a).2.1 ≠ (TX2 b).2.1 := by decide +kernel
theorem tyX2_ok : ∀ k, k < 5 → parseFieldDescriptor (TX2 k).2.2.1 = some (tyX2 k) := by decide +kernel
abbrev cX2_init : ByteArray := prog_4_method_1_code
def yX2_init : MethodName := ⟨RX2, "<init>", "()V"⟩
abbrev cX2_make : ByteArray := prog_4_method_2_code
def yX2_make : MethodName := ⟨RX2, "make", "([II)V"⟩
abbrev cX2_read : ByteArray := prog_4_method_3_code
def yX2_read : MethodName := ⟨RX2, "read", "(LSortPacks$BitReader;)I"⟩
def RX3 : String := "SortPacks$Coding"
def TX3 : u_T := fun k => match k with
  | 0 => ("SortPacks$Coding", "tables", "I", false)
  | 1 => ("SortPacks$Coding", "choices", "I", false)
  | 2 => ("SortPacks$Coding", "alphabet", "I", false)
  | 3 => ("SortPacks$Coding", "choice", "[B", true)
  | _ => ("SortPacks$Coding", "lengths", "[[I", true)
def tyX3 : Nat → FieldType := fun k => match k with
  | 0 => .int
  | 1 => .int
  | 2 => .int
  | 3 => .array .byte
  | _ => .array (.array .int)
abbrev wsX30 : List Cond := u_ws RX3 TX3 5
theorem nmX3 : ∀ a, a < 5 → ∀ b, b < 5 → a ≠ b → (TX3 a).2.1 ≠ (TX3 b).2.1 := by decide +kernel
theorem tyX3_ok : ∀ k, k < 5 → parseFieldDescriptor (TX3 k).2.2.1 = some (tyX3 k) := by decide +kernel
abbrev cX3_init : ByteArray := prog_5_method_1_code
def yX3_init : MethodName := ⟨RX3, "<init>", "()V"⟩
abbrev cX3_forget : ByteArray := prog_5_method_2_code
def yX3_forget : MethodName := ⟨RX3, "forget", "()V"⟩
abbrev cX3_hasChoice : ByteArray := prog_5_method_3_code
def yX3_hasChoice : MethodName := ⟨RX3, "hasChoice", "(I)Z"⟩
abbrev cX3_hasLength : ByteArray := prog_5_method_4_code
def yX3_hasLength : MethodName := ⟨RX3, "hasLength", "(II)Z"⟩
abbrev cX3_chosen : ByteArray := prog_5_method_5_code
def yX3_chosen : MethodName := ⟨RX3, "chosen", "(I)I"⟩
abbrev cX3_choose : ByteArray := prog_5_method_6_code
def yX3_choose : MethodName := ⟨RX3, "choose", "(II)V"⟩
def RX4 : String := "SortPacks$Front"
def TX4 : u_T := fun k => match k with
  | 0 => ("SortPacks$Front", "row", "[I", true)
  | _ => ("SortPacks$Front", "size", "I", false)
def tyX4 : Nat → FieldType := fun k => match k with
  | 0 => .array .int
  | _ => .int
abbrev wsX40 : List Cond := u_ws RX4 TX4 2
theorem nmX4 : ∀ a, a < 2 → ∀ b, b < 2 → a ≠ b → (TX4 a).2.1 ≠ (TX4 b).2.1 := by decide +kernel
theorem tyX4_ok : ∀ k, k < 2 → parseFieldDescriptor (TX4 k).2.2.1 = some (tyX4 k) := by decide +kernel
abbrev cX4_init : ByteArray := prog_6_method_1_code
def yX4_init : MethodName := ⟨RX4, "<init>", "(I)V"⟩
abbrev cX4_clear : ByteArray := prog_6_method_2_code
def yX4_clear : MethodName := ⟨RX4, "clear", "()V"⟩
abbrev cX4_add : ByteArray := prog_6_method_3_code
def yX4_add : MethodName := ⟨RX4, "add", "(I)V"⟩
abbrev cX4_restart : ByteArray := prog_6_method_4_code
def yX4_restart : MethodName := ⟨RX4, "restart", "(I)V"⟩
abbrev cX4_first : ByteArray := prog_6_method_5_code
def yX4_first : MethodName := ⟨RX4, "first", "()I"⟩
abbrev cX4_takeAt : ByteArray := prog_6_method_6_code
def yX4_takeAt : MethodName := ⟨RX4, "takeAt", "(I)I"⟩
abbrev cX4_placeOf : ByteArray := prog_6_method_7_code
def yX4_placeOf : MethodName := ⟨RX4, "placeOf", "(I)I"⟩
def RX5 : String := "SortPacks$Opener"
def TX5 : u_T := fun k => match k with
  | 0 => ("SortPacks$Opener", "out", "LSortPacks$Row;", true)
  | 1 => ("SortPacks$Opener", "told", "LSortPacks$Told;", true)
  | 2 => ("SortPacks$Opener", "turns", "LSortPacks$Turns;", true)
  | 3 => ("SortPacks$Opener", "bits", "LSortPacks$BitReader;", true)
  | 4 => ("SortPacks$Opener", "front", "LSortPacks$Front;", true)
  | 5 => ("SortPacks$Opener", "tableFront", "LSortPacks$Front;", true)
  | 6 => ("SortPacks$Opener", "codes", "[LSortPacks$Codes;", true)
  | 7 => ("SortPacks$Opener", "last", "[B", true)
  | 8 => ("SortPacks$Opener", "block", "[B", true)
  | 9 => ("SortPacks$Opener", "size", "I", false)
  | 10 => ("SortPacks$Opener", "origin", "I", false)
  | 11 => ("SortPacks$Opener", "level", "I", false)
  | _ => ("SortPacks$Opener", "broken", "I", false)
def tyX5 : Nat → FieldType := fun k => match k with
  | 0 => .object "SortPacks$Row"
  | 1 => .object "SortPacks$Told"
  | 2 => .object "SortPacks$Turns"
  | 3 => .object "SortPacks$BitReader"
  | 4 => .object "SortPacks$Front"
  | 5 => .object "SortPacks$Front"
  | 6 => .array (.object "SortPacks$Codes")
  | 7 => .array .byte
  | 8 => .array .byte
  | 9 => .int
  | 10 => .int
  | 11 => .int
  | _ => .int
abbrev wsX50 : List Cond := u_ws RX5 TX5 13
theorem nmX5 : ∀ a, a < 13 → ∀ b, b < 13 → a ≠ b → (TX5 a).2.1 ≠ (TX5 b).2.1 := by decide +kernel
theorem tyX5_ok : ∀ k, k < 13 → parseFieldDescriptor (TX5 k).2.2.1 = some (tyX5 k) := by decide +kernel
abbrev cX5_init : ByteArray := prog_7_method_1_code
def yX5_init : MethodName := ⟨RX5, "<init>", "(LSortPacks$Row;LSortPacks$Row;LSortPacks$Told;LSortPacks$Turns;)V"⟩
abbrev cX5_brokenAnswer : ByteArray := prog_7_method_2_code
def yX5_brokenAnswer : MethodName := ⟨RX5, "brokenAnswer", "()I"⟩
abbrev cX5_openRows : ByteArray := prog_7_method_3_code
def yX5_openRows : MethodName := ⟨RX5, "openRows", "()Z"⟩
abbrev cX5_openAlone : ByteArray := prog_7_method_4_code
def yX5_openAlone : MethodName := ⟨RX5, "openAlone", "(I)Z"⟩
abbrev cX5_restart : ByteArray := prog_7_method_5_code
def yX5_restart : MethodName := ⟨RX5, "restart", "(I)V"⟩
abbrev cX5_breaks : ByteArray := prog_7_method_6_code
def yX5_breaks : MethodName := ⟨RX5, "breaks", "(I)Z"⟩
abbrev cX5_openRow : ByteArray := prog_7_method_7_code
def yX5_openRow : MethodName := ⟨RX5, "openRow", "(I)Z"⟩
abbrev cX5_readRowHead : ByteArray := prog_7_method_8_code
def yX5_readRowHead : MethodName := ⟨RX5, "readRowHead", "()Z"⟩
abbrev cX5_fitsHead : ByteArray := prog_7_method_9_code
def yX5_fitsHead : MethodName := ⟨RX5, "fitsHead", "(II)Z"⟩
abbrev cX5_readRowEnd : ByteArray := prog_7_method_10_code
def yX5_readRowEnd : MethodName := ⟨RX5, "readRowEnd", "(I)Z"⟩
abbrev cX5_openBlock : ByteArray := prog_7_method_11_code
def yX5_openBlock : MethodName := ⟨RX5, "openBlock", "(I)Z"⟩
abbrev cX5_readHead : ByteArray := prog_7_method_12_code
def yX5_readHead : MethodName := ⟨RX5, "readHead", "()Z"⟩
abbrev cX5_readMap : ByteArray := prog_7_method_13_code
def yX5_readMap : MethodName := ⟨RX5, "readMap", "()Z"⟩
abbrev cX5_readChoices : ByteArray := prog_7_method_14_code
def yX5_readChoices : MethodName := ⟨RX5, "readChoices", "(LSortPacks$Coding;)Z"⟩
abbrev cX5_readChoice : ByteArray := prog_7_method_15_code
def yX5_readChoice : MethodName := ⟨RX5, "readChoice", "(LSortPacks$Coding;I)Z"⟩
abbrev cX5_readLengths : ByteArray := prog_7_method_16_code
def yX5_readLengths : MethodName := ⟨RX5, "readLengths", "(LSortPacks$Coding;)Z"⟩
abbrev cX5_changedLength : ByteArray := prog_7_method_17_code
def yX5_changedLength : MethodName := ⟨RX5, "changedLength", "(I)I"⟩
abbrev cX5_isLength : ByteArray := prog_7_method_18_code
def yX5_isLength : MethodName := ⟨RX5, "isLength", "(I)Z"⟩
abbrev cX5_readNumbers : ByteArray := prog_7_method_19_code
def yX5_readNumbers : MethodName := ⟨RX5, "readNumbers", "(LSortPacks$Coding;I)Z"⟩
abbrev cX5_addLast : ByteArray := prog_7_method_20_code
def yX5_addLast : MethodName := ⟨RX5, "addLast", "(III)Z"⟩
abbrev cX5_turnBlockBack : ByteArray := prog_7_method_21_code
def yX5_turnBlockBack : MethodName := ⟨RX5, "turnBlockBack", "()Z"⟩
abbrev cX5_writeOut : ByteArray := prog_7_method_22_code
def yX5_writeOut : MethodName := ⟨RX5, "writeOut", "()Z"⟩
abbrev cX5_plainSize : ByteArray := prog_7_method_23_code
def yX5_plainSize : MethodName := ⟨RX5, "plainSize", "()I"⟩
abbrev cX5_lengthenRuns : ByteArray := prog_7_method_24_code
def yX5_lengthenRuns : MethodName := ⟨RX5, "lengthenRuns", "()I"⟩
def RX6 : String := "SortPacks$Packer"
def TX6 : u_T := fun k => match k with
  | 0 => ("SortPacks$Packer", "told", "LSortPacks$Told;", true)
  | 1 => ("SortPacks$Packer", "turns", "LSortPacks$Turns;", true)
  | 2 => ("SortPacks$Packer", "bits", "LSortPacks$BitWriter;", true)
  | 3 => ("SortPacks$Packer", "front", "LSortPacks$Front;", true)
  | 4 => ("SortPacks$Packer", "tableFront", "LSortPacks$Front;", true)
  | 5 => ("SortPacks$Packer", "maker", "LSortPacks$TableMaker;", true)
  | 6 => ("SortPacks$Packer", "codes", "[LSortPacks$Codes;", true)
  | 7 => ("SortPacks$Packer", "isThere", "[I", true)
  | 8 => ("SortPacks$Packer", "block", "[B", true)
  | 9 => ("SortPacks$Packer", "size", "I", false)
  | 10 => ("SortPacks$Packer", "numbers", "[I", true)
  | _ => ("SortPacks$Packer", "numbersSize", "I", false)
def tyX6 : Nat → FieldType := fun k => match k with
  | 0 => .object "SortPacks$Told"
  | 1 => .object "SortPacks$Turns"
  | 2 => .object "SortPacks$BitWriter"
  | 3 => .object "SortPacks$Front"
  | 4 => .object "SortPacks$Front"
  | 5 => .object "SortPacks$TableMaker"
  | 6 => .array (.object "SortPacks$Codes")
  | 7 => .array .int
  | 8 => .array .byte
  | 9 => .int
  | 10 => .array .int
  | _ => .int
abbrev wsX60 : List Cond := u_ws RX6 TX6 12
theorem nmX6 : ∀ a, a < 12 → ∀ b, b < 12 → a ≠ b → (TX6 a).2.1 ≠ (TX6 b).2.1 := by decide +kernel
theorem tyX6_ok : ∀ k, k < 12 → parseFieldDescriptor (TX6 k).2.2.1 = some (tyX6 k) := by decide +kernel
abbrev cX6_init : ByteArray := prog_8_method_1_code
def yX6_init : MethodName := ⟨RX6, "<init>", "(LSortPacks$Row;LSortPacks$Told;LSortPacks$Turns;)V"⟩
abbrev cX6_packAll : ByteArray := prog_8_method_2_code
def yX6_packAll : MethodName := ⟨RX6, "packAll", "(LSortPacks$Row;I)Z"⟩
abbrev cX6_sumBetween : ByteArray := prog_8_method_3_code
def yX6_sumBetween : MethodName := ⟨RX6, "sumBetween", "(LSortPacks$Row;II)I"⟩
abbrev cX6_shortenRuns : ByteArray := prog_8_method_4_code
def yX6_shortenRuns : MethodName := ⟨RX6, "shortenRuns", "(LSortPacks$Row;II)I"⟩
abbrev cX6_runFrom : ByteArray := prog_8_method_5_code
def yX6_runFrom : MethodName := ⟨RX6, "runFrom", "(LSortPacks$Row;I)I"⟩
abbrev cX6_packBlock : ByteArray := prog_8_method_6_code
def yX6_packBlock : MethodName := ⟨RX6, "packBlock", "(II)V"⟩
abbrev cX6_noteFacts : ByteArray := prog_8_method_7_code
def yX6_noteFacts : MethodName := ⟨RX6, "noteFacts", "(IILSortPacks$Coding;)V"⟩
abbrev cX6_findSigns : ByteArray := prog_8_method_8_code
def yX6_findSigns : MethodName := ⟨RX6, "findSigns", "()V"⟩
abbrev cX6_makeNumbers : ByteArray := prog_8_method_9_code
def yX6_makeNumbers : MethodName := ⟨RX6, "makeNumbers", "()V"⟩
abbrev cX6_addDigits : ByteArray := prog_8_method_10_code
def yX6_addDigits : MethodName := ⟨RX6, "addDigits", "(I)V"⟩
abbrev cX6_addNumber : ByteArray := prog_8_method_11_code
def yX6_addNumber : MethodName := ⟨RX6, "addNumber", "(I)V"⟩
abbrev cX6_writeHead : ByteArray := prog_8_method_12_code
def yX6_writeHead : MethodName := ⟨RX6, "writeHead", "(I)V"⟩
abbrev cX6_writeMap : ByteArray := prog_8_method_13_code
def yX6_writeMap : MethodName := ⟨RX6, "writeMap", "()V"⟩
abbrev cX6_sixteenFrom : ByteArray := prog_8_method_14_code
def yX6_sixteenFrom : MethodName := ⟨RX6, "sixteenFrom", "(I)I"⟩
abbrev cX6_writeChoices : ByteArray := prog_8_method_15_code
def yX6_writeChoices : MethodName := ⟨RX6, "writeChoices", "(LSortPacks$Coding;)V"⟩
abbrev cX6_writeLengths : ByteArray := prog_8_method_16_code
def yX6_writeLengths : MethodName := ⟨RX6, "writeLengths", "(LSortPacks$Coding;)V"⟩
abbrev cX6_writeCodes : ByteArray := prog_8_method_17_code
def yX6_writeCodes : MethodName := ⟨RX6, "writeCodes", "(LSortPacks$Coding;)V"⟩
def RX7 : String := "SortPacks$Row"
def TX7 : u_T := fun k => match k with
  | 0 => ("SortPacks$Row", "bytes", "[B", true)
  | _ => ("SortPacks$Row", "size", "I", false)
def tyX7 : Nat → FieldType := fun k => match k with
  | 0 => .array .byte
  | _ => .int
abbrev wsX70 : List Cond := u_ws RX7 TX7 2
theorem nmX7 : ∀ a, a < 2 → ∀ b, b < 2 → a ≠ b → (TX7 a).2.1 ≠ (TX7 b).2.1 := by decide +kernel
theorem tyX7_ok : ∀ k, k < 2 → parseFieldDescriptor (TX7 k).2.2.1 = some (tyX7 k) := by decide +kernel
abbrev cX7_init : ByteArray := prog_9_method_1_code
def yX7_init : MethodName := ⟨RX7, "<init>", "(I)V"⟩
abbrev cX7_hasRoom : ByteArray := prog_9_method_2_code
def yX7_hasRoom : MethodName := ⟨RX7, "hasRoom", "(I)Z"⟩
abbrev cX7_has : ByteArray := prog_9_method_3_code
def yX7_has : MethodName := ⟨RX7, "has", "(I)Z"⟩
abbrev cX7_at : ByteArray := prog_9_method_4_code
def yX7_at : MethodName := ⟨RX7, "at", "(I)I"⟩
abbrev cX7_set : ByteArray := prog_9_method_5_code
def yX7_set : MethodName := ⟨RX7, "set", "(II)V"⟩
abbrev cX7_add : ByteArray := prog_9_method_6_code
def yX7_add : MethodName := ⟨RX7, "add", "(I)V"⟩
abbrev cX7_addNumber : ByteArray := prog_9_method_7_code
def yX7_addNumber : MethodName := ⟨RX7, "addNumber", "(I)V"⟩
abbrev cX7_addAll : ByteArray := prog_9_method_8_code
def yX7_addAll : MethodName := ⟨RX7, "addAll", "(LSortPacks$Row;)V"⟩
abbrev cX7_cutTo : ByteArray := prog_9_method_9_code
def yX7_cutTo : MethodName := ⟨RX7, "cutTo", "(I)V"⟩
abbrev cX7_dropFirst : ByteArray := prog_9_method_10_code
def yX7_dropFirst : MethodName := ⟨RX7, "dropFirst", "(I)V"⟩
def RX8 : String := "SortPacks$TableMaker"
def TX8 : u_T := fun k => match k with
  | 0 => ("SortPacks$TableMaker", "often", "[[I", true)
  | 1 => ("SortPacks$TableMaker", "counts", "[I", true)
  | 2 => ("SortPacks$TableMaker", "byWeight", "[I", true)
  | 3 => ("SortPacks$TableMaker", "weight", "[I", true)
  | 4 => ("SortPacks$TableMaker", "parent", "[I", true)
  | 5 => ("SortPacks$TableMaker", "depth", "[I", true)
  | 6 => ("SortPacks$TableMaker", "leafAt", "I", false)
  | 7 => ("SortPacks$TableMaker", "joinedAt", "I", false)
  | _ => ("SortPacks$TableMaker", "made", "I", false)
def tyX8 : Nat → FieldType := fun k => match k with
  | 0 => .array (.array .int)
  | 1 => .array .int
  | 2 => .array .int
  | 3 => .array .int
  | 4 => .array .int
  | 5 => .array .int
  | 6 => .int
  | 7 => .int
  | _ => .int
abbrev wsX80 : List Cond := u_ws RX8 TX8 9
theorem nmX8 : ∀ a, a < 9 → ∀ b, b < 9 → a ≠ b → (TX8 a).2.1 ≠ (TX8 b).2.1 := by decide +kernel
theorem tyX8_ok : ∀ k, k < 9 → parseFieldDescriptor (TX8 k).2.2.1 = some (tyX8 k) := by decide +kernel
abbrev cX8_init : ByteArray := prog_10_method_1_code
def yX8_init : MethodName := ⟨RX8, "<init>", "()V"⟩
abbrev cX8_makeTables : ByteArray := prog_10_method_2_code
def yX8_makeTables : MethodName := ⟨RX8, "makeTables", "([IILSortPacks$Coding;)V"⟩
abbrev cX8_tablesFor : ByteArray := prog_10_method_3_code
def yX8_tablesFor : MethodName := ⟨RX8, "tablesFor", "(I)I"⟩
abbrev cX8_setFirstCosts : ByteArray := prog_10_method_4_code
def yX8_setFirstCosts : MethodName := ⟨RX8, "setFirstCosts", "([IILSortPacks$Coding;)V"⟩
abbrev cX8_chooseAll : ByteArray := prog_10_method_5_code
def yX8_chooseAll : MethodName := ⟨RX8, "chooseAll", "([IILSortPacks$Coding;)V"⟩
abbrev cX8_cheapest : ByteArray := prog_10_method_6_code
def yX8_cheapest : MethodName := ⟨RX8, "cheapest", "([IIILSortPacks$Coding;)I"⟩
abbrev cX8_makeLengths : ByteArray := prog_10_method_7_code
def yX8_makeLengths : MethodName := ⟨RX8, "makeLengths", "([II[I)V"⟩
abbrev cX8_joinAll : ByteArray := prog_10_method_8_code
def yX8_joinAll : MethodName := ⟨RX8, "joinAll", "(I)V"⟩
abbrev cX8_sortByWeight : ByteArray := prog_10_method_9_code
def yX8_sortByWeight : MethodName := ⟨RX8, "sortByWeight", "(I)V"⟩
abbrev cX8_takeLeast : ByteArray := prog_10_method_10_code
def yX8_takeLeast : MethodName := ⟨RX8, "takeLeast", "(I)I"⟩
abbrev cX8_setLengths : ByteArray := prog_10_method_11_code
def yX8_setLengths : MethodName := ⟨RX8, "setLengths", "(I[I)I"⟩
def RX9 : String := "SortPacks$Told"
def TX9 : u_T := fun k => match k with
  | 0 => ("SortPacks$Told", "facts", "[I", true)
  | 1 => ("SortPacks$Told", "sums", "[I", true)
  | 2 => ("SortPacks$Told", "draft", "[I", true)
  | 3 => ("SortPacks$Told", "draftSum", "I", false)
  | 4 => ("SortPacks$Told", "went", "I", false)
  | 5 => ("SortPacks$Told", "last", "LSortPacks$Coding;", false)
  | _ => ("SortPacks$Told", "spare", "LSortPacks$Coding;", false)
def tyX9 : Nat → FieldType := fun k => match k with
  | 0 => .array .int
  | 1 => .array .int
  | 2 => .array .int
  | 3 => .int
  | 4 => .int
  | 5 => .object "SortPacks$Coding"
  | _ => .object "SortPacks$Coding"
abbrev wsX90 : List Cond := u_ws RX9 TX9 7
theorem nmX9 : ∀ a, a < 7 → ∀ b, b < 7 → a ≠ b → (TX9 a).2.1 ≠ (TX9 b).2.1 := by decide +kernel
theorem tyX9_ok : ∀ k, k < 7 → parseFieldDescriptor (TX9 k).2.2.1 = some (tyX9 k) := by decide +kernel
abbrev cX9_init : ByteArray := prog_11_method_1_code
def yX9_init : MethodName := ⟨RX9, "<init>", "()V"⟩
abbrev cX9_forget : ByteArray := prog_11_method_2_code
def yX9_forget : MethodName := ⟨RX9, "forget", "()V"⟩
abbrev cX9_tells : ByteArray := prog_11_method_3_code
def yX9_tells : MethodName := ⟨RX9, "tells", "(I)Z"⟩
abbrev cX9_fact : ByteArray := prog_11_method_4_code
def yX9_fact : MethodName := ⟨RX9, "fact", "(II)I"⟩
abbrev cX9_sumOf : ByteArray := prog_11_method_5_code
def yX9_sumOf : MethodName := ⟨RX9, "sumOf", "(I)I"⟩
abbrev cX9_note : ByteArray := prog_11_method_6_code
def yX9_note : MethodName := ⟨RX9, "note", "(II)V"⟩
abbrev cX9_keepBlock : ByteArray := prog_11_method_7_code
def yX9_keepBlock : MethodName := ⟨RX9, "keepBlock", "()V"⟩
abbrev cX9_keepCoding : ByteArray := prog_11_method_8_code
def yX9_keepCoding : MethodName := ⟨RX9, "keepCoding", "()V"⟩
def RX10 : String := "SortPacks$Turns"
def TX10 : u_T := fun k => match k with
  | 0 => ("SortPacks$Turns", "order", "[I", true)
  | 1 => ("SortPacks$Turns", "rank", "[I", true)
  | 2 => ("SortPacks$Turns", "waiting", "[I", true)
  | _ => ("SortPacks$Turns", "tally", "[I", true)
def tyX10 : Nat → FieldType := fun k => match k with
  | 0 => .array .int
  | 1 => .array .int
  | 2 => .array .int
  | _ => .array .int
abbrev wsX100 : List Cond := u_ws RX10 TX10 4
theorem nmX10 : ∀ a, a < 4 → ∀ b, b < 4 → a ≠ b → (TX10 a).2.1 ≠ (TX10 b).2.1 := by decide +kernel
theorem tyX10_ok : ∀ k, k < 4 → parseFieldDescriptor (TX10 k).2.2.1 = some (tyX10 k) := by decide +kernel
abbrev cX10_init : ByteArray := prog_12_method_1_code
def yX10_init : MethodName := ⟨RX10, "<init>", "()V"⟩
abbrev cX10_sortTurns : ByteArray := prog_12_method_2_code
def yX10_sortTurns : MethodName := ⟨RX10, "sortTurns", "([BI)V"⟩
abbrev cX10_sortPlaces : ByteArray := prog_12_method_3_code
def yX10_sortPlaces : MethodName := ⟨RX10, "sortPlaces", "(I)V"⟩
abbrev cX10_sortWaiting : ByteArray := prog_12_method_4_code
def yX10_sortWaiting : MethodName := ⟨RX10, "sortWaiting", "(I)V"⟩
abbrev cX10_rankAnew : ByteArray := prog_12_method_5_code
def yX10_rankAnew : MethodName := ⟨RX10, "rankAnew", "(II)V"⟩
abbrev cX10_differ : ByteArray := prog_12_method_6_code
def yX10_differ : MethodName := ⟨RX10, "differ", "(IIII)Z"⟩
abbrev cX10_lastByte : ByteArray := prog_12_method_7_code
def yX10_lastByte : MethodName := ⟨RX10, "lastByte", "([BII)I"⟩
abbrev cX10_origin : ByteArray := prog_12_method_8_code
def yX10_origin : MethodName := ⟨RX10, "origin", "(I)I"⟩
abbrev cX10_turnBack : ByteArray := prog_12_method_9_code
def yX10_turnBack : MethodName := ⟨RX10, "turnBack", "([BII[B)V"⟩
def RX11 : String := "SortPacks"
def TX11 : u_T := fun k => match k with
  | 0 => ("SortPacks", "level", "I", true)
  | 1 => ("SortPacks", "input", "LSortPacks$Row;", true)
  | 2 => ("SortPacks", "out", "LSortPacks$Row;", true)
  | 3 => ("SortPacks", "had", "LSortPacks$Row;", true)
  | 4 => ("SortPacks", "told", "LSortPacks$Told;", true)
  | 5 => ("SortPacks", "packer", "LSortPacks$Packer;", true)
  | _ => ("SortPacks", "opener", "LSortPacks$Opener;", true)
def tyX11 : Nat → FieldType := fun k => match k with
  | 0 => .int
  | 1 => .object "SortPacks$Row"
  | 2 => .object "SortPacks$Row"
  | 3 => .object "SortPacks$Row"
  | 4 => .object "SortPacks$Told"
  | 5 => .object "SortPacks$Packer"
  | _ => .object "SortPacks$Opener"
abbrev wsX110 : List Cond := u_ws RX11 TX11 7
theorem nmX11 : ∀ a, a < 7 → ∀ b, b < 7 → a ≠ b → (TX11 a).2.1 ≠ (TX11 b).2.1 := by decide +kernel
theorem tyX11_ok : ∀ k, k < 7 → parseFieldDescriptor (TX11 k).2.2.1 = some (tyX11 k) := by decide +kernel
abbrev cX11_init : ByteArray := prog_1_method_1_code
def yX11_init : MethodName := ⟨RX11, "<init>", "(I)V"⟩
abbrev cX11_feed : ByteArray := prog_1_method_2_code
def yX11_feed : MethodName := ⟨RX11, "feed", "(IIIII)I"⟩
abbrev cX11_end : ByteArray := prog_1_method_3_code
def yX11_end : MethodName := ⟨RX11, "end", "(I)I"⟩
abbrev cX11_octets : ByteArray := prog_1_method_4_code
def yX11_octets : MethodName := ⟨RX11, "octets", "(II)I"⟩
abbrev cX11_pack : ByteArray := prog_1_method_5_code
def yX11_pack : MethodName := ⟨RX11, "pack", "()I"⟩
abbrev cX11_open : ByteArray := prog_1_method_6_code
def yX11_open : MethodName := ⟨RX11, "open", "()I"⟩
abbrev cX11_rule : ByteArray := prog_1_method_7_code
def yX11_rule : MethodName := ⟨RX11, "rule", "()I"⟩
abbrev cX11_pass : ByteArray := prog_1_method_8_code
def yX11_pass : MethodName := ⟨RX11, "pass", "()I"⟩
abbrev cX11_spoil : ByteArray := prog_1_method_9_code
def yX11_spoil : MethodName := ⟨RX11, "spoil", "(II)I"⟩
abbrev cX11_drop : ByteArray := prog_1_method_10_code
def yX11_drop : MethodName := ⟨RX11, "drop", "(I)I"⟩
abbrev cX11_out : ByteArray := prog_1_method_11_code
def yX11_out : MethodName := ⟨RX11, "out", "(I)I"⟩
abbrev cX11_count : ByteArray := prog_1_method_12_code
def yX11_count : MethodName := ⟨RX11, "count", "(I)I"⟩
abbrev cX11_block : ByteArray := prog_1_method_13_code
def yX11_block : MethodName := ⟨RX11, "block", "(II)I"⟩
abbrev cX11_sum : ByteArray := prog_1_method_14_code
def yX11_sum : MethodName := ⟨RX11, "sum", "(I)I"⟩
abbrev cX11_choice : ByteArray := prog_1_method_15_code
def yX11_choice : MethodName := ⟨RX11, "choice", "(I)I"⟩
abbrev cX11_length : ByteArray := prog_1_method_16_code
def yX11_length : MethodName := ⟨RX11, "length", "(II)I"⟩
abbrev cX11_mark : ByteArray := prog_1_method_17_code
def yX11_mark : MethodName := ⟨RX11, "mark", "(I)I"⟩
abbrev cX11_alone : ByteArray := prog_1_method_18_code
def yX11_alone : MethodName := ⟨RX11, "alone", "(I)I"⟩
abbrev cX11_findMark : ByteArray := prog_1_method_19_code
def yX11_findMark : MethodName := ⟨RX11, "findMark", "(I)I"⟩
abbrev cX11_stepSum : ByteArray := prog_1_method_20_code
def yX11_stepSum : MethodName := ⟨RX11, "stepSum", "(II)I"⟩
abbrev cX11_joinSums : ByteArray := prog_1_method_21_code
def yX11_joinSums : MethodName := ⟨RX11, "joinSums", "(II)I"⟩
def RX12 : String := "SortPacksModel$Broken"
def TX12 : u_T := fun k => match k with
  | 0 => ("java/lang/Throwable", "cause", "Ljava/lang/Throwable;", false)
  | 1 => ("java/lang/Throwable", "stackTrace", "[Ljava/lang/StackTraceElement;", false)
  | 2 => ("java/lang/Throwable", "suppressedExceptions", "Ljava/util/List;", false)
  | 3 => ("java/lang/Throwable", "detailMessage", "Ljava/lang/String;", false)
  | 4 => ("java/lang/Throwable", "backtrace", "Ljava/lang/Object;", false)
  | 5 => ("java/lang/Throwable", "depth", "I", false)
  | _ => ("SortPacksModel$Broken", "rule", "I", false)
def tyX12 : Nat → FieldType := fun k => match k with
  | 0 => .object "java/lang/Throwable"
  | 1 => .array (.object "java/lang/StackTraceElement")
  | 2 => .object "java/util/List"
  | 3 => .object "java/lang/String"
  | 4 => .object "java/lang/Object"
  | 5 => .int
  | _ => .int
abbrev wsX120 : List Cond := u_ws RX12 TX12 7
theorem nmX12 : ∀ a, a < 7 → ∀ b, b < 7 → a ≠ b → (TX12 a).2.1 ≠ (TX12 b).2.1 := by decide +kernel
theorem tyX12_ok : ∀ k, k < 7 → parseFieldDescriptor (TX12 k).2.2.1 = some (tyX12 k) := by decide +kernel
abbrev cX12_init : ByteArray := prog_15_method_1_code
def yX12_init : MethodName := ⟨RX12, "<init>", "()V"⟩
def RX13 : String := "SortPacksModel"
def TX13 : u_T := fun k => match k with
  | 0 => ("SortPacksModel", "thrown", "I", false)
  | 1 => ("SortPacksModel", "broken", "LSortPacksModel$Broken;", true)
  | 2 => ("SortPacksModel", "level", "I", true)
  | 3 => ("SortPacksModel", "input", "[B", true)
  | 4 => ("SortPacksModel", "inSize", "I", false)
  | 5 => ("SortPacksModel", "out", "[B", true)
  | 6 => ("SortPacksModel", "outSize", "I", false)
  | 7 => ("SortPacksModel", "had", "[B", true)
  | 8 => ("SortPacksModel", "hadSize", "I", false)
  | 9 => ("SortPacksModel", "lastRule", "I", false)
  | 10 => ("SortPacksModel", "blocks", "I", false)
  | 11 => ("SortPacksModel", "told", "[I", true)
  | 12 => ("SortPacksModel", "toldSum", "[I", true)
  | 13 => ("SortPacksModel", "lastChoice", "[I", true)
  | 14 => ("SortPacksModel", "lastChoices", "I", false)
  | 15 => ("SortPacksModel", "lastLength", "[I", true)
  | 16 => ("SortPacksModel", "lastTables", "I", false)
  | 17 => ("SortPacksModel", "lastAlphabet", "I", false)
  | 18 => ("SortPacksModel", "bitsOut", "I", false)
  | 19 => ("SortPacksModel", "isOver", "Z", false)
  | 20 => ("SortPacksModel", "block", "[B", true)
  | 21 => ("SortPacksModel", "blockSize", "I", false)
  | 22 => ("SortPacksModel", "turns", "[I", true)
  | 23 => ("SortPacksModel", "otherTurns", "[I", true)
  | 24 => ("SortPacksModel", "numbers", "[I", true)
  | 25 => ("SortPacksModel", "numberCount", "I", false)
  | 26 => ("SortPacksModel", "front", "[I", true)
  | 27 => ("SortPacksModel", "isThere", "[Z", true)
  | 28 => ("SortPacksModel", "signs", "I", false)
  | 29 => ("SortPacksModel", "lengths", "[I", true)
  | 30 => ("SortPacksModel", "costs", "[I", true)
  | 31 => ("SortPacksModel", "freq", "[I", true)
  | 32 => ("SortPacksModel", "choice", "[I", true)
  | 33 => ("SortPacksModel", "choices", "I", false)
  | 34 => ("SortPacksModel", "tables", "I", false)
  | 35 => ("SortPacksModel", "weight", "[J", true)
  | 36 => ("SortPacksModel", "parent", "[I", true)
  | 37 => ("SortPacksModel", "start", "[J", true)
  | 38 => ("SortPacksModel", "codeOf", "[I", true)
  | 39 => ("SortPacksModel", "firstOf", "[I", true)
  | 40 => ("SortPacksModel", "manyOf", "[I", true)
  | 41 => ("SortPacksModel", "tableRow", "[I", true)
  | 42 => ("SortPacksModel", "at", "I", false)
  | 43 => ("SortPacksModel", "below", "[I", true)
  | 44 => ("SortPacksModel", "turned", "[B", true)
  | 45 => ("SortPacksModel", "opened", "[B", true)
  | _ => ("SortPacksModel", "openedSize", "I", false)
def tyX13 : Nat → FieldType := fun k => match k with
  | 0 => .int
  | 1 => .object "SortPacksModel$Broken"
  | 2 => .int
  | 3 => .array .byte
  | 4 => .int
  | 5 => .array .byte
  | 6 => .int
  | 7 => .array .byte
  | 8 => .int
  | 9 => .int
  | 10 => .int
  | 11 => .array .int
  | 12 => .array .int
  | 13 => .array .int
  | 14 => .int
  | 15 => .array .int
  | 16 => .int
  | 17 => .int
  | 18 => .int
  | 19 => .boolean
  | 20 => .array .byte
  | 21 => .int
  | 22 => .array .int
  | 23 => .array .int
  | 24 => .array .int
  | 25 => .int
  | 26 => .array .int
  | 27 => .array .boolean
  | 28 => .int
  | 29 => .array .int
  | 30 => .array .int
  | 31 => .array .int
  | 32 => .array .int
  | 33 => .int
  | 34 => .int
  | 35 => .array .long
  | 36 => .array .int
  | 37 => .array .long
  | 38 => .array .int
  | 39 => .array .int
  | 40 => .array .int
  | 41 => .array .int
  | 42 => .int
  | 43 => .array .int
  | 44 => .array .byte
  | 45 => .array .byte
  | _ => .int
abbrev wsX130 : List Cond := u_ws RX13 TX13 47
theorem nmX13 : ∀ a, a < 47 → ∀ b, b < 47 → a ≠ b → (TX13 a).2.1 ≠ (TX13 b).2.1 := by decide +kernel
theorem tyX13_ok : ∀ k, k < 47 → parseFieldDescriptor (TX13 k).2.2.1 = some (tyX13 k) := by decide +kernel
abbrev cX13_thrown : ByteArray := prog_14_method_1_code
def yX13_thrown : MethodName := ⟨RX13, "thrown", "()I"⟩
abbrev cX13_in : ByteArray := prog_14_method_2_code
def yX13_in : MethodName := ⟨RX13, "in", "(JJJ)Z"⟩
abbrev cX13_init : ByteArray := prog_14_method_3_code
def yX13_init : MethodName := ⟨RX13, "<init>", "(I)V"⟩
abbrev cX13_feed : ByteArray := prog_14_method_4_code
def yX13_feed : MethodName := ⟨RX13, "feed", "(IIIII)I"⟩
abbrev cX13_end : ByteArray := prog_14_method_5_code
def yX13_end : MethodName := ⟨RX13, "end", "(I)I"⟩
abbrev cX13_octets : ByteArray := prog_14_method_6_code
def yX13_octets : MethodName := ⟨RX13, "octets", "(II)I"⟩
abbrev cX13_rule : ByteArray := prog_14_method_7_code
def yX13_rule : MethodName := ⟨RX13, "rule", "()I"⟩
abbrev cX13_pass : ByteArray := prog_14_method_8_code
def yX13_pass : MethodName := ⟨RX13, "pass", "()I"⟩
abbrev cX13_spoil : ByteArray := prog_14_method_9_code
def yX13_spoil : MethodName := ⟨RX13, "spoil", "(II)I"⟩
abbrev cX13_drop : ByteArray := prog_14_method_10_code
def yX13_drop : MethodName := ⟨RX13, "drop", "(I)I"⟩
abbrev cX13_out : ByteArray := prog_14_method_11_code
def yX13_out : MethodName := ⟨RX13, "out", "(I)I"⟩
abbrev cX13_count : ByteArray := prog_14_method_12_code
def yX13_count : MethodName := ⟨RX13, "count", "(I)I"⟩
abbrev cX13_note : ByteArray := prog_14_method_13_code
def yX13_note : MethodName := ⟨RX13, "note", "(IIIIIIIIII)V"⟩
abbrev cX13_toldBlocks : ByteArray := prog_14_method_14_code
def yX13_toldBlocks : MethodName := ⟨RX13, "toldBlocks", "()I"⟩
abbrev cX13_block : ByteArray := prog_14_method_15_code
def yX13_block : MethodName := ⟨RX13, "block", "(II)I"⟩
abbrev cX13_sum : ByteArray := prog_14_method_16_code
def yX13_sum : MethodName := ⟨RX13, "sum", "(I)I"⟩
abbrev cX13_keepTables : ByteArray := prog_14_method_17_code
def yX13_keepTables : MethodName := ⟨RX13, "keepTables", "(III)V"⟩
abbrev cX13_choice : ByteArray := prog_14_method_18_code
def yX13_choice : MethodName := ⟨RX13, "choice", "(I)I"⟩
abbrev cX13_length : ByteArray := prog_14_method_19_code
def yX13_length : MethodName := ⟨RX13, "length", "(II)I"⟩
abbrev cX13_sumOf : ByteArray := prog_14_method_20_code
def yX13_sumOf : MethodName := ⟨RX13, "sumOf", "([BII)I"⟩
abbrev cX13_joined : ByteArray := prog_14_method_21_code
def yX13_joined : MethodName := ⟨RX13, "joined", "(II)I"⟩
abbrev cX13_putBit : ByteArray := prog_14_method_22_code
def yX13_putBit : MethodName := ⟨RX13, "putBit", "(I)V"⟩
abbrev cX13_put : ByteArray := prog_14_method_23_code
def yX13_put : MethodName := ⟨RX13, "put", "(JI)V"⟩
abbrev cX13_isAhead : ByteArray := prog_14_method_24_code
def yX13_isAhead : MethodName := ⟨RX13, "isAhead", "(II)Z"⟩
abbrev cX13_sortTurns : ByteArray := prog_14_method_25_code
def yX13_sortTurns : MethodName := ⟨RX13, "sortTurns", "()V"⟩
abbrev cX13_findSigns : ByteArray := prog_14_method_26_code
def yX13_findSigns : MethodName := ⟨RX13, "findSigns", "()V"⟩
abbrev cX13_takeSigns : ByteArray := prog_14_method_27_code
def yX13_takeSigns : MethodName := ⟨RX13, "takeSigns", "()V"⟩
abbrev cX13_number : ByteArray := prog_14_method_28_code
def yX13_number : MethodName := ⟨RX13, "number", "(I)V"⟩
abbrev cX13_digits : ByteArray := prog_14_method_29_code
def yX13_digits : MethodName := ⟨RX13, "digits", "(I)V"⟩
abbrev cX13_makeNumbers : ByteArray := prog_14_method_30_code
def yX13_makeNumbers : MethodName := ⟨RX13, "makeNumbers", "()V"⟩
abbrev cX13_makeLengths : ByteArray := prog_14_method_31_code
def yX13_makeLengths : MethodName := ⟨RX13, "makeLengths", "(II)V"⟩
abbrev cX13_leastOne : ByteArray := prog_14_method_32_code
def yX13_leastOne : MethodName := ⟨RX13, "leastOne", "(II)I"⟩
abbrev cX13_firstCosts : ByteArray := prog_14_method_33_code
def yX13_firstCosts : MethodName := ⟨RX13, "firstCosts", "(I)V"⟩
abbrev cX13_chooseTables : ByteArray := prog_14_method_34_code
def yX13_chooseTables : MethodName := ⟨RX13, "chooseTables", "(I)V"⟩
abbrev cX13_makeCodes : ByteArray := prog_14_method_35_code
def yX13_makeCodes : MethodName := ⟨RX13, "makeCodes", "(II)V"⟩
abbrev cX13_putMap : ByteArray := prog_14_method_36_code
def yX13_putMap : MethodName := ⟨RX13, "putMap", "()V"⟩
abbrev cX13_putChoices : ByteArray := prog_14_method_37_code
def yX13_putChoices : MethodName := ⟨RX13, "putChoices", "()V"⟩
abbrev cX13_putLengths : ByteArray := prog_14_method_38_code
def yX13_putLengths : MethodName := ⟨RX13, "putLengths", "(II)V"⟩
abbrev cX13_packBlock : ByteArray := prog_14_method_39_code
def yX13_packBlock : MethodName := ⟨RX13, "packBlock", "(II)I"⟩
abbrev cX13_pack : ByteArray := prog_14_method_40_code
def yX13_pack : MethodName := ⟨RX13, "pack", "()I"⟩
abbrev cX13_fail : ByteArray := prog_14_method_41_code
def yX13_fail : MethodName := ⟨RX13, "fail", "(I)V"⟩
abbrev cX13_bit : ByteArray := prog_14_method_42_code
def yX13_bit : MethodName := ⟨RX13, "bit", "()I"⟩
abbrev cX13_bits : ByteArray := prog_14_method_43_code
def yX13_bits : MethodName := ⟨RX13, "bits", "(I)J"⟩
abbrev cX13_readMap : ByteArray := prog_14_method_44_code
def yX13_readMap : MethodName := ⟨RX13, "readMap", "()V"⟩
abbrev cX13_readChoices : ByteArray := prog_14_method_45_code
def yX13_readChoices : MethodName := ⟨RX13, "readChoices", "()V"⟩
abbrev cX13_readLengths : ByteArray := prog_14_method_46_code
def yX13_readLengths : MethodName := ⟨RX13, "readLengths", "(II)V"⟩
abbrev cX13_mustBeLength : ByteArray := prog_14_method_47_code
def yX13_mustBeLength : MethodName := ⟨RX13, "mustBeLength", "(I)V"⟩
abbrev cX13_readCode : ByteArray := prog_14_method_48_code
def yX13_readCode : MethodName := ⟨RX13, "readCode", "(II)I"⟩
abbrev cX13_addBytes : ByteArray := prog_14_method_49_code
def yX13_addBytes : MethodName := ⟨RX13, "addBytes", "(II)V"⟩
abbrev cX13_readNumbers : ByteArray := prog_14_method_50_code
def yX13_readNumbers : MethodName := ⟨RX13, "readNumbers", "(II)V"⟩
abbrev cX13_turnBack : ByteArray := prog_14_method_51_code
def yX13_turnBack : MethodName := ⟨RX13, "turnBack", "(I)V"⟩
abbrev cX13_runSize : ByteArray := prog_14_method_52_code
def yX13_runSize : MethodName := ⟨RX13, "runSize", "(Z)I"⟩
abbrev cX13_readBlock : ByteArray := prog_14_method_53_code
def yX13_readBlock : MethodName := ⟨RX13, "readBlock", "(IIIIZ)I"⟩
abbrev cX13_readRow : ByteArray := prog_14_method_54_code
def yX13_readRow : MethodName := ⟨RX13, "readRow", "(I)V"⟩
abbrev cX13_open : ByteArray := prog_14_method_55_code
def yX13_open : MethodName := ⟨RX13, "open", "()I"⟩
abbrev cX13_markAt : ByteArray := prog_14_method_56_code
def yX13_markAt : MethodName := ⟨RX13, "markAt", "(I)I"⟩
abbrev cX13_mark : ByteArray := prog_14_method_57_code
def yX13_mark : MethodName := ⟨RX13, "mark", "(I)I"⟩
abbrev cX13_alone : ByteArray := prog_14_method_58_code
def yX13_alone : MethodName := ⟨RX13, "alone", "(I)I"⟩
def RJx00060 : String := "java/lang/ArrayIndexOutOfBoundsException"
def TJx00060 : u_T := fun k => match k with
  | 0 => ("java/lang/Throwable", "cause", "Ljava/lang/Throwable;", false)
  | 1 => ("java/lang/Throwable", "stackTrace", "[Ljava/lang/StackTraceElement;", false)
  | 2 => ("java/lang/Throwable", "suppressedExceptions", "Ljava/util/List;", false)
  | 3 => ("java/lang/Throwable", "detailMessage", "Ljava/lang/String;", false)
  | 4 => ("java/lang/Throwable", "backtrace", "Ljava/lang/Object;", false)
  | _ => ("java/lang/Throwable", "depth", "I", false)
def tyJx00060 : Nat → FieldType := fun k => match k with
  | 0 => .object "java/lang/Throwable"
  | 1 => .array (.object "java/lang/StackTraceElement")
  | 2 => .object "java/util/List"
  | 3 => .object "java/lang/String"
  | 4 => .object "java/lang/Object"
  | _ => .int
theorem nmJx00060 : ∀ a, a < 6 → ∀ b, b < 6 → a ≠ b → (TJx00060 a).2.1 ≠ (TJx00060 b).2.1 := by decide +kernel
theorem tyJx00060_ok : ∀ k, k < 6 → parseFieldDescriptor (TJx00060 k).2.2.1 = some (tyJx00060 k) := by decide +kernel
abbrev cJx00060_init_a7421 : ByteArray := prog_16_method_2_code
def yJx00060_init_a7421 : MethodName := ⟨RJx00060, "<init>", "(Ljava/lang/String;)V"⟩
def RJ9 : String := "java/lang/Math"
def TJ9 : u_T := fun k => match k with
  | _ => ("", "", "", false)
def tyJ9 : Nat → FieldType := fun k => match k with
  | _ => .int
abbrev wsJ90 : List Cond := u_ws RJ9 TJ9 0
theorem nmJ9 : ∀ a, a < 0 → ∀ b, b < 0 → a ≠ b → (TJ9 a).2.1 ≠ (TJ9 b).2.1 := by decide +kernel
theorem tyJ9_ok : ∀ k, k < 0 → parseFieldDescriptor (TJ9 k).2.2.1 = some (tyJ9 k) := by decide +kernel
abbrev cJ9_max_7cf53 : ByteArray := prog_19_method_65_code
def yJ9_max_7cf53 : MethodName := ⟨RJ9, "max", "(II)I"⟩
abbrev cJ9_min_7cf53 : ByteArray := prog_19_method_69_code
def yJ9_min_7cf53 : MethodName := ⟨RJ9, "min", "(II)I"⟩
def RJ0 : String := "java/lang/String"
def TJ0 : u_T := fun k => match k with
  | _ => ("", "", "", false)
def tyJ0 : Nat → FieldType := fun k => match k with
  | _ => .int
abbrev wsJ00 : List Cond := u_ws RJ0 TJ0 0
theorem nmJ0 : ∀ a, a < 0 → ∀ b, b < 0 → a ≠ b → (TJ0 a).2.1 ≠ (TJ0 b).2.1 := by decide +kernel
theorem tyJ0_ok : ∀ k, k < 0 → parseFieldDescriptor (TJ0 k).2.2.1 = some (tyJ0 k) := by decide +kernel
def RJ10 : String := "java/lang/System"
def TJ10 : u_T := fun k => match k with
  | _ => ("", "", "", false)
def tyJ10 : Nat → FieldType := fun k => match k with
  | _ => .int
abbrev wsJ100 : List Cond := u_ws RJ10 TJ10 0
theorem nmJ10 : ∀ a, a < 0 → ∀ b, b < 0 → a ≠ b → (TJ10 a).2.1 ≠ (TJ10 b).2.1 := by decide +kernel
theorem tyJ10_ok : ∀ k, k < 0 → parseFieldDescriptor (TJ10 k).2.2.1 = some (tyJ10 k) := by decide +kernel
def RJ7 : String := "java/util/Arrays"
def TJ7 : u_T := fun k => match k with
  | _ => ("", "", "", false)
def tyJ7 : Nat → FieldType := fun k => match k with
  | _ => .int
abbrev wsJ70 : List Cond := u_ws RJ7 TJ7 0
theorem nmJ7 : ∀ a, a < 0 → ∀ b, b < 0 → a ≠ b → (TJ7 a).2.1 ≠ (TJ7 b).2.1 := by decide +kernel
theorem tyJ7_ok : ∀ k, k < 0 → parseFieldDescriptor (TJ7 k).2.2.1 = some (tyJ7 k) := by decide +kernel
abbrev cJ7_fill_53178 : ByteArray := prog_24_method_103_code
def yJ7_fill_53178 : MethodName := ⟨RJ7, "fill", "([II)V"⟩
def RL : String := "SortPacksLaw"
abbrev cL_cell : ByteArray := method_2_code
def yL_cell : MethodName := ⟨RL, "cell", "([II)I"⟩
abbrev cL_out : ByteArray := method_3_code
def yL_out : MethodName := ⟨RL, "out", "(LSortPacks;I[J)I"⟩
abbrev cL_law : ByteArray := code
def yL_law : MethodName := ⟨RL, "law", "([I)Z"⟩
abbrev vwCl : List vw_C := [(RJx00060, TJx00060, 6), (RX0, TX0, 2), (RX1, TX1, 3), (RX2, TX2, 5), (RX3, TX3, 5), (RX4, TX4, 2), (RX5, TX5, 13), (RX6, TX6, 12), (RX7, TX7, 2), (RX8, TX8, 9), (RX9, TX9, 7), (RX10, TX10, 4), (RX11, TX11, 7), (RX12, TX12, 7), (RX13, TX13, 47)]
