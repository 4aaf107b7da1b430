section
-- ===== PART A: goes FIRST, ahead of the names: the tables' words, and 'selects' of the private methods out of them =====
/-- a private method of a class that the tables say can be made, by its rows of tables_1 -/
def lw_okq (q : MethodName × Nat) : Prop := (q.1.cls ≠ "java/lang/invoke/MethodHandle" ∧ q.1.cls ≠ "java/lang/invoke/VarHandle") ∧ Cond.instantiable q.1.cls q.2 ∈ tables_1 ∧ Cond.privateMethod q.1 ∈ tables_1 ∧ Cond.instanceMethod q.1 ∈ tables_1
theorem lw_p0 : lw_okq (⟨"CharacterSums", "enter", "(III)V"⟩, 13) := ⟨⟨by decide +kernel, by decide +kernel⟩, List.mem_of_getElem? (i := 22) (by decide +kernel), List.mem_of_getElem? (i := 295) (by decide +kernel), List.mem_of_getElem? (i := 296) (by decide +kernel)⟩
theorem lw_p1 : lw_okq (⟨"CharacterSums$Field", "fillSums", "()V"⟩, 13) := ⟨⟨by decide +kernel, by decide +kernel⟩, List.mem_of_getElem? (i := 30) (by decide +kernel), List.mem_of_getElem? (i := 303) (by decide +kernel), List.mem_of_getElem? (i := 304) (by decide +kernel)⟩
theorem lw_p2 : lw_okq (⟨"CharacterSums$Field", "addedDigits", "(II)I"⟩, 13) := ⟨⟨by decide +kernel, by decide +kernel⟩, List.mem_of_getElem? (i := 30) (by decide +kernel), List.mem_of_getElem? (i := 307) (by decide +kernel), List.mem_of_getElem? (i := 308) (by decide +kernel)⟩
theorem lw_p3 : lw_okq (⟨"CharacterSums$Field", "findModulus", "()V"⟩, 13) := ⟨⟨by decide +kernel, by decide +kernel⟩, List.mem_of_getElem? (i := 30) (by decide +kernel), List.mem_of_getElem? (i := 311) (by decide +kernel), List.mem_of_getElem? (i := 312) (by decide +kernel)⟩
theorem lw_p4 : lw_okq (⟨"CharacterSums$Field", "fillShifts", "()V"⟩, 13) := ⟨⟨by decide +kernel, by decide +kernel⟩, List.mem_of_getElem? (i := 30) (by decide +kernel), List.mem_of_getElem? (i := 315) (by decide +kernel), List.mem_of_getElem? (i := 316) (by decide +kernel)⟩
theorem lw_p5 : lw_okq (⟨"CharacterSums$Field", "isProduct", "()Z"⟩, 13) := ⟨⟨by decide +kernel, by decide +kernel⟩, List.mem_of_getElem? (i := 30) (by decide +kernel), List.mem_of_getElem? (i := 327) (by decide +kernel), List.mem_of_getElem? (i := 328) (by decide +kernel)⟩
theorem lw_p6 : lw_okq (⟨"CharacterSums$Field", "multiplied", "(II)I"⟩, 13) := ⟨⟨by decide +kernel, by decide +kernel⟩, List.mem_of_getElem? (i := 30) (by decide +kernel), List.mem_of_getElem? (i := 331) (by decide +kernel), List.mem_of_getElem? (i := 332) (by decide +kernel)⟩
theorem lw_p7 : lw_okq (⟨"CharacterSums$Field", "fillProducts", "()V"⟩, 13) := ⟨⟨by decide +kernel, by decide +kernel⟩, List.mem_of_getElem? (i := 30) (by decide +kernel), List.mem_of_getElem? (i := 335) (by decide +kernel), List.mem_of_getElem? (i := 336) (by decide +kernel)⟩
theorem lw_p8 : lw_okq (⟨"CharacterSums$Field", "findGenerator", "()V"⟩, 13) := ⟨⟨by decide +kernel, by decide +kernel⟩, List.mem_of_getElem? (i := 30) (by decide +kernel), List.mem_of_getElem? (i := 339) (by decide +kernel), List.mem_of_getElem? (i := 340) (by decide +kernel)⟩
theorem lw_p9 : lw_okq (⟨"CharacterSums$Field", "walkPowers", "()Z"⟩, 13) := ⟨⟨by decide +kernel, by decide +kernel⟩, List.mem_of_getElem? (i := 30) (by decide +kernel), List.mem_of_getElem? (i := 343) (by decide +kernel), List.mem_of_getElem? (i := 344) (by decide +kernel)⟩
theorem lw_p10 : lw_okq (⟨"CharacterSums$Field", "fillTraces", "()V"⟩, 13) := ⟨⟨by decide +kernel, by decide +kernel⟩, List.mem_of_getElem? (i := 30) (by decide +kernel), List.mem_of_getElem? (i := 351) (by decide +kernel), List.mem_of_getElem? (i := 352) (by decide +kernel)⟩
theorem lw_p11 : lw_okq (⟨"CharacterSums$Ring", "findMovings", "()V"⟩, 8) := ⟨⟨by decide +kernel, by decide +kernel⟩, List.mem_of_getElem? (i := 87) (by decide +kernel), List.mem_of_getElem? (i := 363) (by decide +kernel), List.mem_of_getElem? (i := 364) (by decide +kernel)⟩
theorem lw_p12 : lw_okq (⟨"CharacterSums$Ring", "gatherCyclotomic", "()V"⟩, 8) := ⟨⟨by decide +kernel, by decide +kernel⟩, List.mem_of_getElem? (i := 87) (by decide +kernel), List.mem_of_getElem? (i := 367) (by decide +kernel), List.mem_of_getElem? (i := 368) (by decide +kernel)⟩
theorem lw_p13 : lw_okq (⟨"CharacterSums$Ring", "keepTerms", "()V"⟩, 8) := ⟨⟨by decide +kernel, by decide +kernel⟩, List.mem_of_getElem? (i := 87) (by decide +kernel), List.mem_of_getElem? (i := 381) (by decide +kernel), List.mem_of_getElem? (i := 382) (by decide +kernel)⟩
theorem lw_p14 : lw_okq (⟨"CharacterSums", "append", "(I)V"⟩, 13) := ⟨⟨by decide +kernel, by decide +kernel⟩, List.mem_of_getElem? (i := 22) (by decide +kernel), List.mem_of_getElem? (i := 441) (by decide +kernel), List.mem_of_getElem? (i := 442) (by decide +kernel)⟩
theorem lw_p15 : lw_okq (⟨"CharacterSums", "isPlace", "(I)Z"⟩, 13) := ⟨⟨by decide +kernel, by decide +kernel⟩, List.mem_of_getElem? (i := 22) (by decide +kernel), List.mem_of_getElem? (i := 453) (by decide +kernel), List.mem_of_getElem? (i := 454) (by decide +kernel)⟩
def lw_privs_1 : List (MethodName × Nat) := [(⟨"CharacterSums", "enter", "(III)V"⟩, 13), (⟨"CharacterSums$Field", "fillSums", "()V"⟩, 13), (⟨"CharacterSums$Field", "addedDigits", "(II)I"⟩, 13), (⟨"CharacterSums$Field", "findModulus", "()V"⟩, 13), (⟨"CharacterSums$Field", "fillShifts", "()V"⟩, 13), (⟨"CharacterSums$Field", "isProduct", "()Z"⟩, 13), (⟨"CharacterSums$Field", "multiplied", "(II)I"⟩, 13), (⟨"CharacterSums$Field", "fillProducts", "()V"⟩, 13), (⟨"CharacterSums$Field", "findGenerator", "()V"⟩, 13), (⟨"CharacterSums$Field", "walkPowers", "()Z"⟩, 13), (⟨"CharacterSums$Field", "fillTraces", "()V"⟩, 13), (⟨"CharacterSums$Ring", "findMovings", "()V"⟩, 8), (⟨"CharacterSums$Ring", "gatherCyclotomic", "()V"⟩, 8), (⟨"CharacterSums$Ring", "keepTerms", "()V"⟩, 8), (⟨"CharacterSums", "append", "(I)V"⟩, 13), (⟨"CharacterSums", "isPlace", "(I)Z"⟩, 13)]
theorem lw_r1 : ∀ q ∈ lw_privs_1, lw_okq q := List.forall_mem_cons.mpr ⟨lw_p0, List.forall_mem_cons.mpr ⟨lw_p1, List.forall_mem_cons.mpr ⟨lw_p2, List.forall_mem_cons.mpr ⟨lw_p3, List.forall_mem_cons.mpr ⟨lw_p4, List.forall_mem_cons.mpr ⟨lw_p5, List.forall_mem_cons.mpr ⟨lw_p6, List.forall_mem_cons.mpr ⟨lw_p7, List.forall_mem_cons.mpr ⟨lw_p8, List.forall_mem_cons.mpr ⟨lw_p9, List.forall_mem_cons.mpr ⟨lw_p10, List.forall_mem_cons.mpr ⟨lw_p11, List.forall_mem_cons.mpr ⟨lw_p12, List.forall_mem_cons.mpr ⟨lw_p13, List.forall_mem_cons.mpr ⟨lw_p14, List.forall_mem_cons.mpr ⟨lw_p15, fun _ h => absurd h List.not_mem_nil⟩⟩⟩⟩⟩⟩⟩⟩⟩⟩⟩⟩⟩⟩⟩⟩
theorem lw_p16 : lw_okq (⟨"CharacterSums", "canMake", "(IIII)Z"⟩, 13) := ⟨⟨by decide +kernel, by decide +kernel⟩, List.mem_of_getElem? (i := 22) (by decide +kernel), List.mem_of_getElem? (i := 457) (by decide +kernel), List.mem_of_getElem? (i := 458) (by decide +kernel)⟩
theorem lw_p17 : lw_okq (⟨"CharacterSums$Sums", "waveAt", "(I)I"⟩, 3) := ⟨⟨by decide +kernel, by decide +kernel⟩, List.mem_of_getElem? (i := 127) (by decide +kernel), List.mem_of_getElem? (i := 495) (by decide +kernel), List.mem_of_getElem? (i := 496) (by decide +kernel)⟩
theorem lw_p18 : lw_okq (⟨"CharacterSums$Sums", "addBoth", "(III)V"⟩, 3) := ⟨⟨by decide +kernel, by decide +kernel⟩, List.mem_of_getElem? (i := 127) (by decide +kernel), List.mem_of_getElem? (i := 503) (by decide +kernel), List.mem_of_getElem? (i := 504) (by decide +kernel)⟩
theorem lw_p19 : lw_okq (⟨"CharacterSums$Ring", "addMoved", "([II)V"⟩, 8) := ⟨⟨by decide +kernel, by decide +kernel⟩, List.mem_of_getElem? (i := 87) (by decide +kernel), List.mem_of_getElem? (i := 537) (by decide +kernel), List.mem_of_getElem? (i := 538) (by decide +kernel)⟩
theorem lw_p20 : lw_okq (⟨"CharacterSums$Ring", "reduce", "()V"⟩, 8) := ⟨⟨by decide +kernel, by decide +kernel⟩, List.mem_of_getElem? (i := 87) (by decide +kernel), List.mem_of_getElem? (i := 558) (by decide +kernel), List.mem_of_getElem? (i := 559) (by decide +kernel)⟩
theorem lw_p21 : lw_okq (⟨"java/lang/Throwable", "fillInStackTrace", "(I)Ljava/lang/Throwable;"⟩, 6) := ⟨⟨by decide +kernel, by decide +kernel⟩, List.mem_of_getElem? (i := 625) (by decide +kernel), List.mem_of_getElem? (i := 623) (by decide +kernel), List.mem_of_getElem? (i := 624) (by decide +kernel)⟩
theorem lw_p22 : lw_okq (⟨"CharacterSums$Reader", "advance", "()V"⟩, 12) := ⟨⟨by decide +kernel, by decide +kernel⟩, List.mem_of_getElem? (i := 184) (by decide +kernel), List.mem_of_getElem? (i := 661) (by decide +kernel), List.mem_of_getElem? (i := 662) (by decide +kernel)⟩
theorem lw_p23 : lw_okq (⟨"CharacterSums$Reader", "readSum", "()V"⟩, 12) := ⟨⟨by decide +kernel, by decide +kernel⟩, List.mem_of_getElem? (i := 184) (by decide +kernel), List.mem_of_getElem? (i := 668) (by decide +kernel), List.mem_of_getElem? (i := 669) (by decide +kernel)⟩
theorem lw_p24 : lw_okq (⟨"CharacterSums$Reader", "readProduct", "()V"⟩, 12) := ⟨⟨by decide +kernel, by decide +kernel⟩, List.mem_of_getElem? (i := 184) (by decide +kernel), List.mem_of_getElem? (i := 672) (by decide +kernel), List.mem_of_getElem? (i := 673) (by decide +kernel)⟩
theorem lw_p25 : lw_okq (⟨"CharacterSums$Reader", "readFactor", "()V"⟩, 12) := ⟨⟨by decide +kernel, by decide +kernel⟩, List.mem_of_getElem? (i := 184) (by decide +kernel), List.mem_of_getElem? (i := 676) (by decide +kernel), List.mem_of_getElem? (i := 677) (by decide +kernel)⟩
theorem lw_p26 : lw_okq (⟨"CharacterSums$Reader", "readAtom", "()V"⟩, 12) := ⟨⟨by decide +kernel, by decide +kernel⟩, List.mem_of_getElem? (i := 184) (by decide +kernel), List.mem_of_getElem? (i := 680) (by decide +kernel), List.mem_of_getElem? (i := 681) (by decide +kernel)⟩
theorem lw_p27 : lw_okq (⟨"CharacterSums$Reader", "readWhole", "()V"⟩, 12) := ⟨⟨by decide +kernel, by decide +kernel⟩, List.mem_of_getElem? (i := 184) (by decide +kernel), List.mem_of_getElem? (i := 684) (by decide +kernel), List.mem_of_getElem? (i := 685) (by decide +kernel)⟩
theorem lw_p28 : lw_okq (⟨"CharacterSums$Reader", "readNumber", "(Z)I"⟩, 12) := ⟨⟨by decide +kernel, by decide +kernel⟩, List.mem_of_getElem? (i := 184) (by decide +kernel), List.mem_of_getElem? (i := 688) (by decide +kernel), List.mem_of_getElem? (i := 689) (by decide +kernel)⟩
theorem lw_p29 : lw_okq (⟨"CharacterSums$Reader", "refuse", "(I)V"⟩, 12) := ⟨⟨by decide +kernel, by decide +kernel⟩, List.mem_of_getElem? (i := 184) (by decide +kernel), List.mem_of_getElem? (i := 692) (by decide +kernel), List.mem_of_getElem? (i := 693) (by decide +kernel)⟩
theorem lw_p30 : lw_okq (⟨"CharacterSums$Reader", "readRoot", "()V"⟩, 12) := ⟨⟨by decide +kernel, by decide +kernel⟩, List.mem_of_getElem? (i := 184) (by decide +kernel), List.mem_of_getElem? (i := 700) (by decide +kernel), List.mem_of_getElem? (i := 701) (by decide +kernel)⟩
theorem lw_p31 : lw_okq (⟨"CharacterSums$Reader", "readGauss", "()V"⟩, 12) := ⟨⟨by decide +kernel, by decide +kernel⟩, List.mem_of_getElem? (i := 184) (by decide +kernel), List.mem_of_getElem? (i := 704) (by decide +kernel), List.mem_of_getElem? (i := 705) (by decide +kernel)⟩
def lw_privs_2 : List (MethodName × Nat) := [(⟨"CharacterSums", "canMake", "(IIII)Z"⟩, 13), (⟨"CharacterSums$Sums", "waveAt", "(I)I"⟩, 3), (⟨"CharacterSums$Sums", "addBoth", "(III)V"⟩, 3), (⟨"CharacterSums$Ring", "addMoved", "([II)V"⟩, 8), (⟨"CharacterSums$Ring", "reduce", "()V"⟩, 8), (⟨"java/lang/Throwable", "fillInStackTrace", "(I)Ljava/lang/Throwable;"⟩, 6), (⟨"CharacterSums$Reader", "advance", "()V"⟩, 12), (⟨"CharacterSums$Reader", "readSum", "()V"⟩, 12), (⟨"CharacterSums$Reader", "readProduct", "()V"⟩, 12), (⟨"CharacterSums$Reader", "readFactor", "()V"⟩, 12), (⟨"CharacterSums$Reader", "readAtom", "()V"⟩, 12), (⟨"CharacterSums$Reader", "readWhole", "()V"⟩, 12), (⟨"CharacterSums$Reader", "readNumber", "(Z)I"⟩, 12), (⟨"CharacterSums$Reader", "refuse", "(I)V"⟩, 12), (⟨"CharacterSums$Reader", "readRoot", "()V"⟩, 12), (⟨"CharacterSums$Reader", "readGauss", "()V"⟩, 12)]
theorem lw_r2 : ∀ q ∈ lw_privs_2, lw_okq q := List.forall_mem_cons.mpr ⟨lw_p16, List.forall_mem_cons.mpr ⟨lw_p17, List.forall_mem_cons.mpr ⟨lw_p18, List.forall_mem_cons.mpr ⟨lw_p19, List.forall_mem_cons.mpr ⟨lw_p20, List.forall_mem_cons.mpr ⟨lw_p21, List.forall_mem_cons.mpr ⟨lw_p22, List.forall_mem_cons.mpr ⟨lw_p23, List.forall_mem_cons.mpr ⟨lw_p24, List.forall_mem_cons.mpr ⟨lw_p25, List.forall_mem_cons.mpr ⟨lw_p26, List.forall_mem_cons.mpr ⟨lw_p27, List.forall_mem_cons.mpr ⟨lw_p28, List.forall_mem_cons.mpr ⟨lw_p29, List.forall_mem_cons.mpr ⟨lw_p30, List.forall_mem_cons.mpr ⟨lw_p31, fun _ h => absurd h List.not_mem_nil⟩⟩⟩⟩⟩⟩⟩⟩⟩⟩⟩⟩⟩⟩⟩⟩
theorem lw_p32 : lw_okq (⟨"CharacterSums$Reader", "skip", "(I)V"⟩, 12) := ⟨⟨by decide +kernel, by decide +kernel⟩, List.mem_of_getElem? (i := 184) (by decide +kernel), List.mem_of_getElem? (i := 708) (by decide +kernel), List.mem_of_getElem? (i := 709) (by decide +kernel)⟩
theorem lw_p33 : lw_okq (⟨"CharacterSums$Reader", "readJacobi", "()V"⟩, 12) := ⟨⟨by decide +kernel, by decide +kernel⟩, List.mem_of_getElem? (i := 184) (by decide +kernel), List.mem_of_getElem? (i := 712) (by decide +kernel), List.mem_of_getElem? (i := 713) (by decide +kernel)⟩
theorem lw_p34 : lw_okq (⟨"CharacterSums$Reader", "readKloosterman", "()V"⟩, 12) := ⟨⟨by decide +kernel, by decide +kernel⟩, List.mem_of_getElem? (i := 184) (by decide +kernel), List.mem_of_getElem? (i := 716) (by decide +kernel), List.mem_of_getElem? (i := 717) (by decide +kernel)⟩
theorem lw_p35 : lw_okq (⟨"CharacterSums$Reader", "readPeriod", "()V"⟩, 12) := ⟨⟨by decide +kernel, by decide +kernel⟩, List.mem_of_getElem? (i := 184) (by decide +kernel), List.mem_of_getElem? (i := 720) (by decide +kernel), List.mem_of_getElem? (i := 721) (by decide +kernel)⟩
theorem lw_p36 : lw_okq (⟨"CharacterSums$Reader", "readPlace", "()V"⟩, 12) := ⟨⟨by decide +kernel, by decide +kernel⟩, List.mem_of_getElem? (i := 184) (by decide +kernel), List.mem_of_getElem? (i := 725) (by decide +kernel), List.mem_of_getElem? (i := 726) (by decide +kernel)⟩
theorem lw_p37 : lw_okq (⟨"CharacterSums$Reader", "readOpening", "()V"⟩, 12) := ⟨⟨by decide +kernel, by decide +kernel⟩, List.mem_of_getElem? (i := 184) (by decide +kernel), List.mem_of_getElem? (i := 729) (by decide +kernel), List.mem_of_getElem? (i := 730) (by decide +kernel)⟩
theorem lw_p38 : lw_okq (⟨"CharacterSums$Worker", "work", "(LCharacterSums$Program;I)Z"⟩, 5) := ⟨⟨by decide +kernel, by decide +kernel⟩, List.mem_of_getElem? (i := 258) (by decide +kernel), List.mem_of_getElem? (i := 738) (by decide +kernel), List.mem_of_getElem? (i := 739) (by decide +kernel)⟩
theorem lw_p39 : lw_okq (⟨"CharacterSums$Worker", "negate", "()Z"⟩, 5) := ⟨⟨by decide +kernel, by decide +kernel⟩, List.mem_of_getElem? (i := 258) (by decide +kernel), List.mem_of_getElem? (i := 742) (by decide +kernel), List.mem_of_getElem? (i := 743) (by decide +kernel)⟩
theorem lw_p40 : lw_okq (⟨"CharacterSums$Worker", "gather", "([II)V"⟩, 5) := ⟨⟨by decide +kernel, by decide +kernel⟩, List.mem_of_getElem? (i := 258) (by decide +kernel), List.mem_of_getElem? (i := 746) (by decide +kernel), List.mem_of_getElem? (i := 747) (by decide +kernel)⟩
theorem lw_p41 : lw_okq (⟨"CharacterSums$Worker", "move", "(I)Z"⟩, 5) := ⟨⟨by decide +kernel, by decide +kernel⟩, List.mem_of_getElem? (i := 258) (by decide +kernel), List.mem_of_getElem? (i := 756) (by decide +kernel), List.mem_of_getElem? (i := 757) (by decide +kernel)⟩
theorem lw_p42 : lw_okq (⟨"CharacterSums$Worker", "join", "(I)Z"⟩, 5) := ⟨⟨by decide +kernel, by decide +kernel⟩, List.mem_of_getElem? (i := 258) (by decide +kernel), List.mem_of_getElem? (i := 761) (by decide +kernel), List.mem_of_getElem? (i := 762) (by decide +kernel)⟩
theorem lw_p43 : lw_okq (⟨"CharacterSums$Worker", "multiply", "()Z"⟩, 5) := ⟨⟨by decide +kernel, by decide +kernel⟩, List.mem_of_getElem? (i := 258) (by decide +kernel), List.mem_of_getElem? (i := 765) (by decide +kernel), List.mem_of_getElem? (i := 766) (by decide +kernel)⟩
theorem lw_p44 : lw_okq (⟨"CharacterSums$Ring", "addShifted", "([IJI)V"⟩, 8) := ⟨⟨by decide +kernel, by decide +kernel⟩, List.mem_of_getElem? (i := 87) (by decide +kernel), List.mem_of_getElem? (i := 773) (by decide +kernel), List.mem_of_getElem? (i := 774) (by decide +kernel)⟩
theorem lw_p45 : lw_okq (⟨"CharacterSums$Worker", "raise", "(I)Z"⟩, 5) := ⟨⟨by decide +kernel, by decide +kernel⟩, List.mem_of_getElem? (i := 258) (by decide +kernel), List.mem_of_getElem? (i := 777) (by decide +kernel), List.mem_of_getElem? (i := 778) (by decide +kernel)⟩
theorem lw_p46 : lw_okq (⟨"CharacterSums$Worker", "gatherRoot", "(II)V"⟩, 5) := ⟨⟨by decide +kernel, by decide +kernel⟩, List.mem_of_getElem? (i := 258) (by decide +kernel), List.mem_of_getElem? (i := 781) (by decide +kernel), List.mem_of_getElem? (i := 782) (by decide +kernel)⟩
theorem lw_p47 : lw_okq (⟨"CharacterSums$Worker", "push", "(LCharacterSums$Program;I)Z"⟩, 5) := ⟨⟨by decide +kernel, by decide +kernel⟩, List.mem_of_getElem? (i := 258) (by decide +kernel), List.mem_of_getElem? (i := 789) (by decide +kernel), List.mem_of_getElem? (i := 790) (by decide +kernel)⟩
def lw_privs_3 : List (MethodName × Nat) := [(⟨"CharacterSums$Reader", "skip", "(I)V"⟩, 12), (⟨"CharacterSums$Reader", "readJacobi", "()V"⟩, 12), (⟨"CharacterSums$Reader", "readKloosterman", "()V"⟩, 12), (⟨"CharacterSums$Reader", "readPeriod", "()V"⟩, 12), (⟨"CharacterSums$Reader", "readPlace", "()V"⟩, 12), (⟨"CharacterSums$Reader", "readOpening", "()V"⟩, 12), (⟨"CharacterSums$Worker", "work", "(LCharacterSums$Program;I)Z"⟩, 5), (⟨"CharacterSums$Worker", "negate", "()Z"⟩, 5), (⟨"CharacterSums$Worker", "gather", "([II)V"⟩, 5), (⟨"CharacterSums$Worker", "move", "(I)Z"⟩, 5), (⟨"CharacterSums$Worker", "join", "(I)Z"⟩, 5), (⟨"CharacterSums$Worker", "multiply", "()Z"⟩, 5), (⟨"CharacterSums$Ring", "addShifted", "([IJI)V"⟩, 8), (⟨"CharacterSums$Worker", "raise", "(I)Z"⟩, 5), (⟨"CharacterSums$Worker", "gatherRoot", "(II)V"⟩, 5), (⟨"CharacterSums$Worker", "push", "(LCharacterSums$Program;I)Z"⟩, 5)]
theorem lw_r3 : ∀ q ∈ lw_privs_3, lw_okq q := List.forall_mem_cons.mpr ⟨lw_p32, List.forall_mem_cons.mpr ⟨lw_p33, List.forall_mem_cons.mpr ⟨lw_p34, List.forall_mem_cons.mpr ⟨lw_p35, List.forall_mem_cons.mpr ⟨lw_p36, List.forall_mem_cons.mpr ⟨lw_p37, List.forall_mem_cons.mpr ⟨lw_p38, List.forall_mem_cons.mpr ⟨lw_p39, List.forall_mem_cons.mpr ⟨lw_p40, List.forall_mem_cons.mpr ⟨lw_p41, List.forall_mem_cons.mpr ⟨lw_p42, List.forall_mem_cons.mpr ⟨lw_p43, List.forall_mem_cons.mpr ⟨lw_p44, List.forall_mem_cons.mpr ⟨lw_p45, List.forall_mem_cons.mpr ⟨lw_p46, List.forall_mem_cons.mpr ⟨lw_p47, fun _ h => absurd h List.not_mem_nil⟩⟩⟩⟩⟩⟩⟩⟩⟩⟩⟩⟩⟩⟩⟩⟩
theorem lw_p48 : lw_okq (⟨"CharacterSums", "needElement", "(I)V"⟩, 13) := ⟨⟨by decide +kernel, by decide +kernel⟩, List.mem_of_getElem? (i := 22) (by decide +kernel), List.mem_of_getElem? (i := 833) (by decide +kernel), List.mem_of_getElem? (i := 834) (by decide +kernel)⟩
theorem lw_p49 : lw_okq (⟨"CharacterSums", "needCharacter", "(I)V"⟩, 13) := ⟨⟨by decide +kernel, by decide +kernel⟩, List.mem_of_getElem? (i := 22) (by decide +kernel), List.mem_of_getElem? (i := 867) (by decide +kernel), List.mem_of_getElem? (i := 868) (by decide +kernel)⟩
theorem lw_p50 : lw_okq (⟨"CharacterSums", "needPlace", "(I)V"⟩, 13) := ⟨⟨by decide +kernel, by decide +kernel⟩, List.mem_of_getElem? (i := 22) (by decide +kernel), List.mem_of_getElem? (i := 887) (by decide +kernel), List.mem_of_getElem? (i := 888) (by decide +kernel)⟩
theorem lw_p51 : lw_okq (⟨"CharacterSums", "needExponent", "(I)V"⟩, 13) := ⟨⟨by decide +kernel, by decide +kernel⟩, List.mem_of_getElem? (i := 22) (by decide +kernel), List.mem_of_getElem? (i := 942) (by decide +kernel), List.mem_of_getElem? (i := 943) (by decide +kernel)⟩
theorem lw_p52 : lw_okq (⟨"CharacterSums$Tower", "fillLogs", "()V"⟩, 5) := ⟨⟨by decide +kernel, by decide +kernel⟩, List.mem_of_getElem? (i := 162) (by decide +kernel), List.mem_of_getElem? (i := 995) (by decide +kernel), List.mem_of_getElem? (i := 996) (by decide +kernel)⟩
theorem lw_p53 : lw_okq (⟨"CharacterSums$Tower", "walkPowers", "(I)Z"⟩, 5) := ⟨⟨by decide +kernel, by decide +kernel⟩, List.mem_of_getElem? (i := 162) (by decide +kernel), List.mem_of_getElem? (i := 999) (by decide +kernel), List.mem_of_getElem? (i := 1000) (by decide +kernel)⟩
theorem lw_p54 : lw_okq (⟨"CharacterSums$Tower", "timesT", "(II)I"⟩, 5) := ⟨⟨by decide +kernel, by decide +kernel⟩, List.mem_of_getElem? (i := 162) (by decide +kernel), List.mem_of_getElem? (i := 1003) (by decide +kernel), List.mem_of_getElem? (i := 1004) (by decide +kernel)⟩
theorem lw_p55 : lw_okq (⟨"CharacterSums$Tower", "roots", "(II)I"⟩, 5) := ⟨⟨by decide +kernel, by decide +kernel⟩, List.mem_of_getElem? (i := 162) (by decide +kernel), List.mem_of_getElem? (i := 1009) (by decide +kernel), List.mem_of_getElem? (i := 1010) (by decide +kernel)⟩
theorem lw_p56 : lw_okq (⟨"CharacterSums$Tower", "oneLess", "(I)I"⟩, 5) := ⟨⟨by decide +kernel, by decide +kernel⟩, List.mem_of_getElem? (i := 162) (by decide +kernel), List.mem_of_getElem? (i := 1013) (by decide +kernel), List.mem_of_getElem? (i := 1014) (by decide +kernel)⟩
theorem lw_p57 : lw_okq (⟨"CharacterSums", "needSet", "(I)V"⟩, 13) := ⟨⟨by decide +kernel, by decide +kernel⟩, List.mem_of_getElem? (i := 22) (by decide +kernel), List.mem_of_getElem? (i := 1072) (by decide +kernel), List.mem_of_getElem? (i := 1073) (by decide +kernel)⟩
theorem lw_p58 : lw_okq (⟨"CharacterSums$Speech", "putTerm", "(II)V"⟩, 2) := ⟨⟨by decide +kernel, by decide +kernel⟩, List.mem_of_getElem? (i := 281) (by decide +kernel), List.mem_of_getElem? (i := 1120) (by decide +kernel), List.mem_of_getElem? (i := 1121) (by decide +kernel)⟩
theorem lw_p59 : lw_okq (⟨"CharacterSums$Speech", "put", "(I)V"⟩, 2) := ⟨⟨by decide +kernel, by decide +kernel⟩, List.mem_of_getElem? (i := 281) (by decide +kernel), List.mem_of_getElem? (i := 1124) (by decide +kernel), List.mem_of_getElem? (i := 1125) (by decide +kernel)⟩
theorem lw_p60 : lw_okq (⟨"CharacterSums$Speech", "putNumber", "(I)V"⟩, 2) := ⟨⟨by decide +kernel, by decide +kernel⟩, List.mem_of_getElem? (i := 281) (by decide +kernel), List.mem_of_getElem? (i := 1131) (by decide +kernel), List.mem_of_getElem? (i := 1132) (by decide +kernel)⟩
theorem lw_p61 : lw_okq (⟨"CharacterSumsModel", "begin", "(II)I"⟩, 53) := ⟨⟨by decide +kernel, by decide +kernel⟩, List.mem_of_getElem? (i := 1136) (by decide +kernel), List.mem_of_getElem? (i := 1143) (by decide +kernel), List.mem_of_getElem? (i := 1144) (by decide +kernel)⟩
theorem lw_p62 : lw_okq (⟨"CharacterSumsModel", "isPrime", "(I)Z"⟩, 53) := ⟨⟨by decide +kernel, by decide +kernel⟩, List.mem_of_getElem? (i := 1136) (by decide +kernel), List.mem_of_getElem? (i := 1150) (by decide +kernel), List.mem_of_getElem? (i := 1151) (by decide +kernel)⟩
theorem lw_p63 : lw_okq (⟨"CharacterSumsModel", "multiplyBy", "(III)I"⟩, 53) := ⟨⟨by decide +kernel, by decide +kernel⟩, List.mem_of_getElem? (i := 1136) (by decide +kernel), List.mem_of_getElem? (i := 1154) (by decide +kernel), List.mem_of_getElem? (i := 1155) (by decide +kernel)⟩
def lw_privs_4 : List (MethodName × Nat) := [(⟨"CharacterSums", "needElement", "(I)V"⟩, 13), (⟨"CharacterSums", "needCharacter", "(I)V"⟩, 13), (⟨"CharacterSums", "needPlace", "(I)V"⟩, 13), (⟨"CharacterSums", "needExponent", "(I)V"⟩, 13), (⟨"CharacterSums$Tower", "fillLogs", "()V"⟩, 5), (⟨"CharacterSums$Tower", "walkPowers", "(I)Z"⟩, 5), (⟨"CharacterSums$Tower", "timesT", "(II)I"⟩, 5), (⟨"CharacterSums$Tower", "roots", "(II)I"⟩, 5), (⟨"CharacterSums$Tower", "oneLess", "(I)I"⟩, 5), (⟨"CharacterSums", "needSet", "(I)V"⟩, 13), (⟨"CharacterSums$Speech", "putTerm", "(II)V"⟩, 2), (⟨"CharacterSums$Speech", "put", "(I)V"⟩, 2), (⟨"CharacterSums$Speech", "putNumber", "(I)V"⟩, 2), (⟨"CharacterSumsModel", "begin", "(II)I"⟩, 53), (⟨"CharacterSumsModel", "isPrime", "(I)Z"⟩, 53), (⟨"CharacterSumsModel", "multiplyBy", "(III)I"⟩, 53)]
theorem lw_r4 : ∀ q ∈ lw_privs_4, lw_okq q := List.forall_mem_cons.mpr ⟨lw_p48, List.forall_mem_cons.mpr ⟨lw_p49, List.forall_mem_cons.mpr ⟨lw_p50, List.forall_mem_cons.mpr ⟨lw_p51, List.forall_mem_cons.mpr ⟨lw_p52, List.forall_mem_cons.mpr ⟨lw_p53, List.forall_mem_cons.mpr ⟨lw_p54, List.forall_mem_cons.mpr ⟨lw_p55, List.forall_mem_cons.mpr ⟨lw_p56, List.forall_mem_cons.mpr ⟨lw_p57, List.forall_mem_cons.mpr ⟨lw_p58, List.forall_mem_cons.mpr ⟨lw_p59, List.forall_mem_cons.mpr ⟨lw_p60, List.forall_mem_cons.mpr ⟨lw_p61, List.forall_mem_cons.mpr ⟨lw_p62, List.forall_mem_cons.mpr ⟨lw_p63, fun _ h => absurd h List.not_mem_nil⟩⟩⟩⟩⟩⟩⟩⟩⟩⟩⟩⟩⟩⟩⟩⟩
theorem lw_p64 : lw_okq (⟨"CharacterSumsModel", "digit", "(II)I"⟩, 53) := ⟨⟨by decide +kernel, by decide +kernel⟩, List.mem_of_getElem? (i := 1136) (by decide +kernel), List.mem_of_getElem? (i := 1158) (by decide +kernel), List.mem_of_getElem? (i := 1159) (by decide +kernel)⟩
theorem lw_p65 : lw_okq (⟨"CharacterSumsModel", "addDigits", "(II)I"⟩, 53) := ⟨⟨by decide +kernel, by decide +kernel⟩, List.mem_of_getElem? (i := 1136) (by decide +kernel), List.mem_of_getElem? (i := 1162) (by decide +kernel), List.mem_of_getElem? (i := 1163) (by decide +kernel)⟩
theorem lw_p66 : lw_okq (⟨"CharacterSumsModel", "sumOf", "(II)I"⟩, 53) := ⟨⟨by decide +kernel, by decide +kernel⟩, List.mem_of_getElem? (i := 1136) (by decide +kernel), List.mem_of_getElem? (i := 1166) (by decide +kernel), List.mem_of_getElem? (i := 1167) (by decide +kernel)⟩
theorem lw_p67 : lw_okq (⟨"CharacterSumsModel", "orderOf", "(I)I"⟩, 53) := ⟨⟨by decide +kernel, by decide +kernel⟩, List.mem_of_getElem? (i := 1136) (by decide +kernel), List.mem_of_getElem? (i := 1170) (by decide +kernel), List.mem_of_getElem? (i := 1171) (by decide +kernel)⟩
theorem lw_p68 : lw_okq (⟨"CharacterSumsModel", "productOf", "(II)I"⟩, 53) := ⟨⟨by decide +kernel, by decide +kernel⟩, List.mem_of_getElem? (i := 1136) (by decide +kernel), List.mem_of_getElem? (i := 1174) (by decide +kernel), List.mem_of_getElem? (i := 1175) (by decide +kernel)⟩
theorem lw_p69 : lw_okq (⟨"CharacterSumsModel", "traceOf", "(I)I"⟩, 53) := ⟨⟨by decide +kernel, by decide +kernel⟩, List.mem_of_getElem? (i := 1136) (by decide +kernel), List.mem_of_getElem? (i := 1178) (by decide +kernel), List.mem_of_getElem? (i := 1179) (by decide +kernel)⟩
theorem lw_p70 : lw_okq (⟨"CharacterSumsModel", "raise", "(II)I"⟩, 53) := ⟨⟨by decide +kernel, by decide +kernel⟩, List.mem_of_getElem? (i := 1136) (by decide +kernel), List.mem_of_getElem? (i := 1182) (by decide +kernel), List.mem_of_getElem? (i := 1183) (by decide +kernel)⟩
theorem lw_p71 : lw_okq (⟨"CharacterSumsModel", "layRoot", "()V"⟩, 53) := ⟨⟨by decide +kernel, by decide +kernel⟩, List.mem_of_getElem? (i := 1136) (by decide +kernel), List.mem_of_getElem? (i := 1186) (by decide +kernel), List.mem_of_getElem? (i := 1187) (by decide +kernel)⟩
theorem lw_p72 : lw_okq (⟨"CharacterSumsModel", "divide", "([JII)V"⟩, 53) := ⟨⟨by decide +kernel, by decide +kernel⟩, List.mem_of_getElem? (i := 1136) (by decide +kernel), List.mem_of_getElem? (i := 1191) (by decide +kernel), List.mem_of_getElem? (i := 1192) (by decide +kernel)⟩
theorem lw_p73 : lw_okq (⟨"CharacterSumsModel", "clear", "(I)V"⟩, 53) := ⟨⟨by decide +kernel, by decide +kernel⟩, List.mem_of_getElem? (i := 1136) (by decide +kernel), List.mem_of_getElem? (i := 1195) (by decide +kernel), List.mem_of_getElem? (i := 1196) (by decide +kernel)⟩
theorem lw_p74 : lw_okq (⟨"CharacterSumsModel", "fail", "(I)I"⟩, 53) := ⟨⟨by decide +kernel, by decide +kernel⟩, List.mem_of_getElem? (i := 1136) (by decide +kernel), List.mem_of_getElem? (i := 1381) (by decide +kernel), List.mem_of_getElem? (i := 1382) (by decide +kernel)⟩
theorem lw_p75 : lw_okq (⟨"CharacterSumsModel", "readAll", "(IZ)I"⟩, 53) := ⟨⟨by decide +kernel, by decide +kernel⟩, List.mem_of_getElem? (i := 1136) (by decide +kernel), List.mem_of_getElem? (i := 1385) (by decide +kernel), List.mem_of_getElem? (i := 1386) (by decide +kernel)⟩
theorem lw_p76 : lw_okq (⟨"CharacterSumsModel", "step", "()V"⟩, 53) := ⟨⟨by decide +kernel, by decide +kernel⟩, List.mem_of_getElem? (i := 1136) (by decide +kernel), List.mem_of_getElem? (i := 1389) (by decide +kernel), List.mem_of_getElem? (i := 1390) (by decide +kernel)⟩
theorem lw_p77 : lw_okq (⟨"CharacterSumsModel", "byteAt", "(I)I"⟩, 53) := ⟨⟨by decide +kernel, by decide +kernel⟩, List.mem_of_getElem? (i := 1136) (by decide +kernel), List.mem_of_getElem? (i := 1393) (by decide +kernel), List.mem_of_getElem? (i := 1394) (by decide +kernel)⟩
theorem lw_p78 : lw_okq (⟨"CharacterSumsModel", "readRow", "()I"⟩, 53) := ⟨⟨by decide +kernel, by decide +kernel⟩, List.mem_of_getElem? (i := 1136) (by decide +kernel), List.mem_of_getElem? (i := 1401) (by decide +kernel), List.mem_of_getElem? (i := 1402) (by decide +kernel)⟩
theorem lw_p79 : lw_okq (⟨"CharacterSumsModel", "readTerm", "()I"⟩, 53) := ⟨⟨by decide +kernel, by decide +kernel⟩, List.mem_of_getElem? (i := 1136) (by decide +kernel), List.mem_of_getElem? (i := 1405) (by decide +kernel), List.mem_of_getElem? (i := 1406) (by decide +kernel)⟩
def lw_privs_5 : List (MethodName × Nat) := [(⟨"CharacterSumsModel", "digit", "(II)I"⟩, 53), (⟨"CharacterSumsModel", "addDigits", "(II)I"⟩, 53), (⟨"CharacterSumsModel", "sumOf", "(II)I"⟩, 53), (⟨"CharacterSumsModel", "orderOf", "(I)I"⟩, 53), (⟨"CharacterSumsModel", "productOf", "(II)I"⟩, 53), (⟨"CharacterSumsModel", "traceOf", "(I)I"⟩, 53), (⟨"CharacterSumsModel", "raise", "(II)I"⟩, 53), (⟨"CharacterSumsModel", "layRoot", "()V"⟩, 53), (⟨"CharacterSumsModel", "divide", "([JII)V"⟩, 53), (⟨"CharacterSumsModel", "clear", "(I)V"⟩, 53), (⟨"CharacterSumsModel", "fail", "(I)I"⟩, 53), (⟨"CharacterSumsModel", "readAll", "(IZ)I"⟩, 53), (⟨"CharacterSumsModel", "step", "()V"⟩, 53), (⟨"CharacterSumsModel", "byteAt", "(I)I"⟩, 53), (⟨"CharacterSumsModel", "readRow", "()I"⟩, 53), (⟨"CharacterSumsModel", "readTerm", "()I"⟩, 53)]
theorem lw_r5 : ∀ q ∈ lw_privs_5, lw_okq q := List.forall_mem_cons.mpr ⟨lw_p64, List.forall_mem_cons.mpr ⟨lw_p65, List.forall_mem_cons.mpr ⟨lw_p66, List.forall_mem_cons.mpr ⟨lw_p67, List.forall_mem_cons.mpr ⟨lw_p68, List.forall_mem_cons.mpr ⟨lw_p69, List.forall_mem_cons.mpr ⟨lw_p70, List.forall_mem_cons.mpr ⟨lw_p71, List.forall_mem_cons.mpr ⟨lw_p72, List.forall_mem_cons.mpr ⟨lw_p73, List.forall_mem_cons.mpr ⟨lw_p74, List.forall_mem_cons.mpr ⟨lw_p75, List.forall_mem_cons.mpr ⟨lw_p76, List.forall_mem_cons.mpr ⟨lw_p77, List.forall_mem_cons.mpr ⟨lw_p78, List.forall_mem_cons.mpr ⟨lw_p79, fun _ h => absurd h List.not_mem_nil⟩⟩⟩⟩⟩⟩⟩⟩⟩⟩⟩⟩⟩⟩⟩⟩
theorem lw_p80 : lw_okq (⟨"CharacterSumsModel", "readFactor", "()I"⟩, 53) := ⟨⟨by decide +kernel, by decide +kernel⟩, List.mem_of_getElem? (i := 1136) (by decide +kernel), List.mem_of_getElem? (i := 1409) (by decide +kernel), List.mem_of_getElem? (i := 1410) (by decide +kernel)⟩
theorem lw_p81 : lw_okq (⟨"CharacterSumsModel", "readAtom", "()I"⟩, 53) := ⟨⟨by decide +kernel, by decide +kernel⟩, List.mem_of_getElem? (i := 1136) (by decide +kernel), List.mem_of_getElem? (i := 1413) (by decide +kernel), List.mem_of_getElem? (i := 1414) (by decide +kernel)⟩
theorem lw_p82 : lw_okq (⟨"CharacterSumsModel", "opens", "()V"⟩, 53) := ⟨⟨by decide +kernel, by decide +kernel⟩, List.mem_of_getElem? (i := 1136) (by decide +kernel), List.mem_of_getElem? (i := 1417) (by decide +kernel), List.mem_of_getElem? (i := 1418) (by decide +kernel)⟩
theorem lw_p83 : lw_okq (⟨"CharacterSumsModel", "wrong", "(I)V"⟩, 53) := ⟨⟨by decide +kernel, by decide +kernel⟩, List.mem_of_getElem? (i := 1136) (by decide +kernel), List.mem_of_getElem? (i := 1421) (by decide +kernel), List.mem_of_getElem? (i := 1422) (by decide +kernel)⟩
theorem lw_p84 : lw_okq (⟨"CharacterSumsModel", "pass", "()V"⟩, 53) := ⟨⟨by decide +kernel, by decide +kernel⟩, List.mem_of_getElem? (i := 1136) (by decide +kernel), List.mem_of_getElem? (i := 1425) (by decide +kernel), List.mem_of_getElem? (i := 1426) (by decide +kernel)⟩
theorem lw_p85 : lw_okq (⟨"CharacterSumsModel", "must", "(I)V"⟩, 53) := ⟨⟨by decide +kernel, by decide +kernel⟩, List.mem_of_getElem? (i := 1136) (by decide +kernel), List.mem_of_getElem? (i := 1429) (by decide +kernel), List.mem_of_getElem? (i := 1430) (by decide +kernel)⟩
theorem lw_p86 : lw_okq (⟨"CharacterSumsModel", "isGoing", "()Z"⟩, 53) := ⟨⟨by decide +kernel, by decide +kernel⟩, List.mem_of_getElem? (i := 1136) (by decide +kernel), List.mem_of_getElem? (i := 1433) (by decide +kernel), List.mem_of_getElem? (i := 1434) (by decide +kernel)⟩
theorem lw_p87 : lw_okq (⟨"CharacterSumsModel", "zero", "()I"⟩, 53) := ⟨⟨by decide +kernel, by decide +kernel⟩, List.mem_of_getElem? (i := 1136) (by decide +kernel), List.mem_of_getElem? (i := 1437) (by decide +kernel), List.mem_of_getElem? (i := 1438) (by decide +kernel)⟩
theorem lw_p88 : lw_okq (⟨"CharacterSumsModel", "sum", "(IIIJ)Z"⟩, 53) := ⟨⟨by decide +kernel, by decide +kernel⟩, List.mem_of_getElem? (i := 1136) (by decide +kernel), List.mem_of_getElem? (i := 1441) (by decide +kernel), List.mem_of_getElem? (i := 1442) (by decide +kernel)⟩
theorem lw_p89 : lw_okq (⟨"CharacterSumsModel", "forget", "()V"⟩, 53) := ⟨⟨by decide +kernel, by decide +kernel⟩, List.mem_of_getElem? (i := 1136) (by decide +kernel), List.mem_of_getElem? (i := 1445) (by decide +kernel), List.mem_of_getElem? (i := 1446) (by decide +kernel)⟩
theorem lw_p90 : lw_okq (⟨"CharacterSumsModel", "take", "(I)Z"⟩, 53) := ⟨⟨by decide +kernel, by decide +kernel⟩, List.mem_of_getElem? (i := 1136) (by decide +kernel), List.mem_of_getElem? (i := 1449) (by decide +kernel), List.mem_of_getElem? (i := 1450) (by decide +kernel)⟩
theorem lw_p91 : lw_okq (⟨"CharacterSumsModel", "comes", "(Z)V"⟩, 53) := ⟨⟨by decide +kernel, by decide +kernel⟩, List.mem_of_getElem? (i := 1136) (by decide +kernel), List.mem_of_getElem? (i := 1455) (by decide +kernel), List.mem_of_getElem? (i := 1456) (by decide +kernel)⟩
theorem lw_p92 : lw_okq (⟨"CharacterSumsModel", "moveHere", "(II)V"⟩, 53) := ⟨⟨by decide +kernel, by decide +kernel⟩, List.mem_of_getElem? (i := 1136) (by decide +kernel), List.mem_of_getElem? (i := 1459) (by decide +kernel), List.mem_of_getElem? (i := 1460) (by decide +kernel)⟩
theorem lw_p93 : lw_okq (⟨"CharacterSumsModel", "move", "(III)Z"⟩, 53) := ⟨⟨by decide +kernel, by decide +kernel⟩, List.mem_of_getElem? (i := 1136) (by decide +kernel), List.mem_of_getElem? (i := 1463) (by decide +kernel), List.mem_of_getElem? (i := 1464) (by decide +kernel)⟩
theorem lw_p94 : lw_okq (⟨"CharacterSumsModel", "counts", "(JJ)V"⟩, 53) := ⟨⟨by decide +kernel, by decide +kernel⟩, List.mem_of_getElem? (i := 1136) (by decide +kernel), List.mem_of_getElem? (i := 1467) (by decide +kernel), List.mem_of_getElem? (i := 1468) (by decide +kernel)⟩
theorem lw_p95 : lw_okq (⟨"CharacterSumsModel", "copy", "(II)V"⟩, 53) := ⟨⟨by decide +kernel, by decide +kernel⟩, List.mem_of_getElem? (i := 1136) (by decide +kernel), List.mem_of_getElem? (i := 1471) (by decide +kernel), List.mem_of_getElem? (i := 1472) (by decide +kernel)⟩
def lw_privs_6 : List (MethodName × Nat) := [(⟨"CharacterSumsModel", "readFactor", "()I"⟩, 53), (⟨"CharacterSumsModel", "readAtom", "()I"⟩, 53), (⟨"CharacterSumsModel", "opens", "()V"⟩, 53), (⟨"CharacterSumsModel", "wrong", "(I)V"⟩, 53), (⟨"CharacterSumsModel", "pass", "()V"⟩, 53), (⟨"CharacterSumsModel", "must", "(I)V"⟩, 53), (⟨"CharacterSumsModel", "isGoing", "()Z"⟩, 53), (⟨"CharacterSumsModel", "zero", "()I"⟩, 53), (⟨"CharacterSumsModel", "sum", "(IIIJ)Z"⟩, 53), (⟨"CharacterSumsModel", "forget", "()V"⟩, 53), (⟨"CharacterSumsModel", "take", "(I)Z"⟩, 53), (⟨"CharacterSumsModel", "comes", "(Z)V"⟩, 53), (⟨"CharacterSumsModel", "moveHere", "(II)V"⟩, 53), (⟨"CharacterSumsModel", "move", "(III)Z"⟩, 53), (⟨"CharacterSumsModel", "counts", "(JJ)V"⟩, 53), (⟨"CharacterSumsModel", "copy", "(II)V"⟩, 53)]
theorem lw_r6 : ∀ q ∈ lw_privs_6, lw_okq q := List.forall_mem_cons.mpr ⟨lw_p80, List.forall_mem_cons.mpr ⟨lw_p81, List.forall_mem_cons.mpr ⟨lw_p82, List.forall_mem_cons.mpr ⟨lw_p83, List.forall_mem_cons.mpr ⟨lw_p84, List.forall_mem_cons.mpr ⟨lw_p85, List.forall_mem_cons.mpr ⟨lw_p86, List.forall_mem_cons.mpr ⟨lw_p87, List.forall_mem_cons.mpr ⟨lw_p88, List.forall_mem_cons.mpr ⟨lw_p89, List.forall_mem_cons.mpr ⟨lw_p90, List.forall_mem_cons.mpr ⟨lw_p91, List.forall_mem_cons.mpr ⟨lw_p92, List.forall_mem_cons.mpr ⟨lw_p93, List.forall_mem_cons.mpr ⟨lw_p94, List.forall_mem_cons.mpr ⟨lw_p95, fun _ h => absurd h List.not_mem_nil⟩⟩⟩⟩⟩⟩⟩⟩⟩⟩⟩⟩⟩⟩⟩⟩
theorem lw_p96 : lw_okq (⟨"CharacterSumsModel", "readMoving", "()I"⟩, 53) := ⟨⟨by decide +kernel, by decide +kernel⟩, List.mem_of_getElem? (i := 1136) (by decide +kernel), List.mem_of_getElem? (i := 1475) (by decide +kernel), List.mem_of_getElem? (i := 1476) (by decide +kernel)⟩
theorem lw_p97 : lw_okq (⟨"CharacterSumsModel", "isMoving", "(I)Z"⟩, 53) := ⟨⟨by decide +kernel, by decide +kernel⟩, List.mem_of_getElem? (i := 1136) (by decide +kernel), List.mem_of_getElem? (i := 1479) (by decide +kernel), List.mem_of_getElem? (i := 1480) (by decide +kernel)⟩
theorem lw_p98 : lw_okq (⟨"CharacterSumsModel", "readNumber", "(I)I"⟩, 53) := ⟨⟨by decide +kernel, by decide +kernel⟩, List.mem_of_getElem? (i := 1136) (by decide +kernel), List.mem_of_getElem? (i := 1486) (by decide +kernel), List.mem_of_getElem? (i := 1487) (by decide +kernel)⟩
theorem lw_p99 : lw_okq (⟨"CharacterSumsModel", "readPlain", "(I)V"⟩, 53) := ⟨⟨by decide +kernel, by decide +kernel⟩, List.mem_of_getElem? (i := 1136) (by decide +kernel), List.mem_of_getElem? (i := 1490) (by decide +kernel), List.mem_of_getElem? (i := 1491) (by decide +kernel)⟩
theorem lw_p100 : lw_okq (⟨"CharacterSumsModel", "whole", "(IJ)Z"⟩, 53) := ⟨⟨by decide +kernel, by decide +kernel⟩, List.mem_of_getElem? (i := 1136) (by decide +kernel), List.mem_of_getElem? (i := 1494) (by decide +kernel), List.mem_of_getElem? (i := 1495) (by decide +kernel)⟩
theorem lw_p101 : lw_okq (⟨"CharacterSumsModel", "readRoot", "(I)V"⟩, 53) := ⟨⟨by decide +kernel, by decide +kernel⟩, List.mem_of_getElem? (i := 1136) (by decide +kernel), List.mem_of_getElem? (i := 1498) (by decide +kernel), List.mem_of_getElem? (i := 1499) (by decide +kernel)⟩
theorem lw_p102 : lw_okq (⟨"CharacterSumsModel", "readPlace", "(I)V"⟩, 53) := ⟨⟨by decide +kernel, by decide +kernel⟩, List.mem_of_getElem? (i := 1136) (by decide +kernel), List.mem_of_getElem? (i := 1502) (by decide +kernel), List.mem_of_getElem? (i := 1503) (by decide +kernel)⟩
theorem lw_p103 : lw_okq (⟨"CharacterSumsModel", "readPeriod", "(I)V"⟩, 53) := ⟨⟨by decide +kernel, by decide +kernel⟩, List.mem_of_getElem? (i := 1136) (by decide +kernel), List.mem_of_getElem? (i := 1506) (by decide +kernel), List.mem_of_getElem? (i := 1507) (by decide +kernel)⟩
theorem lw_p104 : lw_okq (⟨"CharacterSumsModel", "isClass", "(II)Z"⟩, 53) := ⟨⟨by decide +kernel, by decide +kernel⟩, List.mem_of_getElem? (i := 1136) (by decide +kernel), List.mem_of_getElem? (i := 1510) (by decide +kernel), List.mem_of_getElem? (i := 1511) (by decide +kernel)⟩
theorem lw_p105 : lw_okq (⟨"CharacterSumsModel", "period", "(III)Z"⟩, 53) := ⟨⟨by decide +kernel, by decide +kernel⟩, List.mem_of_getElem? (i := 1136) (by decide +kernel), List.mem_of_getElem? (i := 1514) (by decide +kernel), List.mem_of_getElem? (i := 1515) (by decide +kernel)⟩
theorem lw_p106 : lw_okq (⟨"CharacterSumsModel", "waveOf", "(I)I"⟩, 53) := ⟨⟨by decide +kernel, by decide +kernel⟩, List.mem_of_getElem? (i := 1136) (by decide +kernel), List.mem_of_getElem? (i := 1518) (by decide +kernel), List.mem_of_getElem? (i := 1519) (by decide +kernel)⟩
theorem lw_p107 : lw_okq (⟨"CharacterSumsModel", "readSum", "(II)V"⟩, 53) := ⟨⟨by decide +kernel, by decide +kernel⟩, List.mem_of_getElem? (i := 1136) (by decide +kernel), List.mem_of_getElem? (i := 1522) (by decide +kernel), List.mem_of_getElem? (i := 1523) (by decide +kernel)⟩
theorem lw_p108 : lw_okq (⟨"CharacterSumsModel", "readElement", "()I"⟩, 53) := ⟨⟨by decide +kernel, by decide +kernel⟩, List.mem_of_getElem? (i := 1136) (by decide +kernel), List.mem_of_getElem? (i := 1526) (by decide +kernel), List.mem_of_getElem? (i := 1527) (by decide +kernel)⟩
theorem lw_p109 : lw_okq (⟨"CharacterSumsModel", "readCharacter", "()I"⟩, 53) := ⟨⟨by decide +kernel, by decide +kernel⟩, List.mem_of_getElem? (i := 1136) (by decide +kernel), List.mem_of_getElem? (i := 1530) (by decide +kernel), List.mem_of_getElem? (i := 1531) (by decide +kernel)⟩
theorem lw_p110 : lw_okq (⟨"CharacterSumsModel", "gauss", "(III)Z"⟩, 53) := ⟨⟨by decide +kernel, by decide +kernel⟩, List.mem_of_getElem? (i := 1136) (by decide +kernel), List.mem_of_getElem? (i := 1534) (by decide +kernel), List.mem_of_getElem? (i := 1535) (by decide +kernel)⟩
theorem lw_p111 : lw_okq (⟨"CharacterSumsModel", "characterOf", "(II)I"⟩, 53) := ⟨⟨by decide +kernel, by decide +kernel⟩, List.mem_of_getElem? (i := 1136) (by decide +kernel), List.mem_of_getElem? (i := 1538) (by decide +kernel), List.mem_of_getElem? (i := 1539) (by decide +kernel)⟩
def lw_privs_7 : List (MethodName × Nat) := [(⟨"CharacterSumsModel", "readMoving", "()I"⟩, 53), (⟨"CharacterSumsModel", "isMoving", "(I)Z"⟩, 53), (⟨"CharacterSumsModel", "readNumber", "(I)I"⟩, 53), (⟨"CharacterSumsModel", "readPlain", "(I)V"⟩, 53), (⟨"CharacterSumsModel", "whole", "(IJ)Z"⟩, 53), (⟨"CharacterSumsModel", "readRoot", "(I)V"⟩, 53), (⟨"CharacterSumsModel", "readPlace", "(I)V"⟩, 53), (⟨"CharacterSumsModel", "readPeriod", "(I)V"⟩, 53), (⟨"CharacterSumsModel", "isClass", "(II)Z"⟩, 53), (⟨"CharacterSumsModel", "period", "(III)Z"⟩, 53), (⟨"CharacterSumsModel", "waveOf", "(I)I"⟩, 53), (⟨"CharacterSumsModel", "readSum", "(II)V"⟩, 53), (⟨"CharacterSumsModel", "readElement", "()I"⟩, 53), (⟨"CharacterSumsModel", "readCharacter", "()I"⟩, 53), (⟨"CharacterSumsModel", "gauss", "(III)Z"⟩, 53), (⟨"CharacterSumsModel", "characterOf", "(II)I"⟩, 53)]
theorem lw_r7 : ∀ q ∈ lw_privs_7, lw_okq q := List.forall_mem_cons.mpr ⟨lw_p96, List.forall_mem_cons.mpr ⟨lw_p97, List.forall_mem_cons.mpr ⟨lw_p98, List.forall_mem_cons.mpr ⟨lw_p99, List.forall_mem_cons.mpr ⟨lw_p100, List.forall_mem_cons.mpr ⟨lw_p101, List.forall_mem_cons.mpr ⟨lw_p102, List.forall_mem_cons.mpr ⟨lw_p103, List.forall_mem_cons.mpr ⟨lw_p104, List.forall_mem_cons.mpr ⟨lw_p105, List.forall_mem_cons.mpr ⟨lw_p106, List.forall_mem_cons.mpr ⟨lw_p107, List.forall_mem_cons.mpr ⟨lw_p108, List.forall_mem_cons.mpr ⟨lw_p109, List.forall_mem_cons.mpr ⟨lw_p110, List.forall_mem_cons.mpr ⟨lw_p111, fun _ h => absurd h List.not_mem_nil⟩⟩⟩⟩⟩⟩⟩⟩⟩⟩⟩⟩⟩⟩⟩⟩
theorem lw_p112 : lw_okq (⟨"CharacterSumsModel", "kloosterman", "(III)Z"⟩, 53) := ⟨⟨by decide +kernel, by decide +kernel⟩, List.mem_of_getElem? (i := 1136) (by decide +kernel), List.mem_of_getElem? (i := 1542) (by decide +kernel), List.mem_of_getElem? (i := 1543) (by decide +kernel)⟩
theorem lw_p113 : lw_okq (⟨"CharacterSumsModel", "quotientOf", "(II)I"⟩, 53) := ⟨⟨by decide +kernel, by decide +kernel⟩, List.mem_of_getElem? (i := 1136) (by decide +kernel), List.mem_of_getElem? (i := 1546) (by decide +kernel), List.mem_of_getElem? (i := 1547) (by decide +kernel)⟩
theorem lw_p114 : lw_okq (⟨"CharacterSumsModel", "jacobi", "(IIII)Z"⟩, 53) := ⟨⟨by decide +kernel, by decide +kernel⟩, List.mem_of_getElem? (i := 1136) (by decide +kernel), List.mem_of_getElem? (i := 1550) (by decide +kernel), List.mem_of_getElem? (i := 1551) (by decide +kernel)⟩
theorem lw_p115 : lw_okq (⟨"CharacterSumsModel", "raiseValue", "(II)V"⟩, 53) := ⟨⟨by decide +kernel, by decide +kernel⟩, List.mem_of_getElem? (i := 1136) (by decide +kernel), List.mem_of_getElem? (i := 1554) (by decide +kernel), List.mem_of_getElem? (i := 1555) (by decide +kernel)⟩
theorem lw_p116 : lw_okq (⟨"CharacterSumsModel", "product", "(III)Z"⟩, 53) := ⟨⟨by decide +kernel, by decide +kernel⟩, List.mem_of_getElem? (i := 1136) (by decide +kernel), List.mem_of_getElem? (i := 1558) (by decide +kernel), List.mem_of_getElem? (i := 1559) (by decide +kernel)⟩
theorem lw_p117 : lw_okq (⟨"CharacterSumsModel", "filled", "(I)I"⟩, 53) := ⟨⟨by decide +kernel, by decide +kernel⟩, List.mem_of_getElem? (i := 1136) (by decide +kernel), List.mem_of_getElem? (i := 1562) (by decide +kernel), List.mem_of_getElem? (i := 1563) (by decide +kernel)⟩
theorem lw_p118 : lw_okq (⟨"CharacterSumsModel", "isElement", "(I)Z"⟩, 53) := ⟨⟨by decide +kernel, by decide +kernel⟩, List.mem_of_getElem? (i := 1136) (by decide +kernel), List.mem_of_getElem? (i := 1584) (by decide +kernel), List.mem_of_getElem? (i := 1585) (by decide +kernel)⟩
theorem lw_p119 : lw_okq (⟨"CharacterSumsModel", "differenceOf", "(II)I"⟩, 53) := ⟨⟨by decide +kernel, by decide +kernel⟩, List.mem_of_getElem? (i := 1136) (by decide +kernel), List.mem_of_getElem? (i := 1588) (by decide +kernel), List.mem_of_getElem? (i := 1589) (by decide +kernel)⟩
theorem lw_p120 : lw_okq (⟨"CharacterSumsModel", "isCharacter", "(I)Z"⟩, 53) := ⟨⟨by decide +kernel, by decide +kernel⟩, List.mem_of_getElem? (i := 1136) (by decide +kernel), List.mem_of_getElem? (i := 1604) (by decide +kernel), List.mem_of_getElem? (i := 1605) (by decide +kernel)⟩
theorem lw_p121 : lw_okq (⟨"CharacterSumsModel", "isWhole", "(I)Z"⟩, 53) := ⟨⟨by decide +kernel, by decide +kernel⟩, List.mem_of_getElem? (i := 1136) (by decide +kernel), List.mem_of_getElem? (i := 1621) (by decide +kernel), List.mem_of_getElem? (i := 1622) (by decide +kernel)⟩
theorem lw_p122 : lw_okq (⟨"CharacterSumsModel", "staysBy", "(II)Z"⟩, 53) := ⟨⟨by decide +kernel, by decide +kernel⟩, List.mem_of_getElem? (i := 1136) (by decide +kernel), List.mem_of_getElem? (i := 1625) (by decide +kernel), List.mem_of_getElem? (i := 1626) (by decide +kernel)⟩
theorem lw_p123 : lw_okq (⟨"CharacterSumsModel", "isSame", "(II)Z"⟩, 53) := ⟨⟨by decide +kernel, by decide +kernel⟩, List.mem_of_getElem? (i := 1136) (by decide +kernel), List.mem_of_getElem? (i := 1629) (by decide +kernel), List.mem_of_getElem? (i := 1630) (by decide +kernel)⟩
theorem lw_p124 : lw_okq (⟨"CharacterSumsModel", "unlike", "(I)I"⟩, 53) := ⟨⟨by decide +kernel, by decide +kernel⟩, List.mem_of_getElem? (i := 1136) (by decide +kernel), List.mem_of_getElem? (i := 1633) (by decide +kernel), List.mem_of_getElem? (i := 1634) (by decide +kernel)⟩
theorem lw_p125 : lw_okq (⟨"CharacterSumsModel", "allMoved", "(I)J"⟩, 53) := ⟨⟨by decide +kernel, by decide +kernel⟩, List.mem_of_getElem? (i := 1136) (by decide +kernel), List.mem_of_getElem? (i := 1637) (by decide +kernel), List.mem_of_getElem? (i := 1638) (by decide +kernel)⟩
theorem lw_p126 : lw_okq (⟨"CharacterSumsModel", "leastMoving", "(I)I"⟩, 53) := ⟨⟨by decide +kernel, by decide +kernel⟩, List.mem_of_getElem? (i := 1136) (by decide +kernel), List.mem_of_getElem? (i := 1641) (by decide +kernel), List.mem_of_getElem? (i := 1642) (by decide +kernel)⟩
theorem lw_p127 : lw_okq (⟨"CharacterSumsModel", "canMake", "(IIII)Z"⟩, 53) := ⟨⟨by decide +kernel, by decide +kernel⟩, List.mem_of_getElem? (i := 1136) (by decide +kernel), List.mem_of_getElem? (i := 1653) (by decide +kernel), List.mem_of_getElem? (i := 1654) (by decide +kernel)⟩
def lw_privs_8 : List (MethodName × Nat) := [(⟨"CharacterSumsModel", "kloosterman", "(III)Z"⟩, 53), (⟨"CharacterSumsModel", "quotientOf", "(II)I"⟩, 53), (⟨"CharacterSumsModel", "jacobi", "(IIII)Z"⟩, 53), (⟨"CharacterSumsModel", "raiseValue", "(II)V"⟩, 53), (⟨"CharacterSumsModel", "product", "(III)Z"⟩, 53), (⟨"CharacterSumsModel", "filled", "(I)I"⟩, 53), (⟨"CharacterSumsModel", "isElement", "(I)Z"⟩, 53), (⟨"CharacterSumsModel", "differenceOf", "(II)I"⟩, 53), (⟨"CharacterSumsModel", "isCharacter", "(I)Z"⟩, 53), (⟨"CharacterSumsModel", "isWhole", "(I)Z"⟩, 53), (⟨"CharacterSumsModel", "staysBy", "(II)Z"⟩, 53), (⟨"CharacterSumsModel", "isSame", "(II)Z"⟩, 53), (⟨"CharacterSumsModel", "unlike", "(I)I"⟩, 53), (⟨"CharacterSumsModel", "allMoved", "(I)J"⟩, 53), (⟨"CharacterSumsModel", "leastMoving", "(I)I"⟩, 53), (⟨"CharacterSumsModel", "canMake", "(IIII)Z"⟩, 53)]
theorem lw_r8 : ∀ q ∈ lw_privs_8, lw_okq q := List.forall_mem_cons.mpr ⟨lw_p112, List.forall_mem_cons.mpr ⟨lw_p113, List.forall_mem_cons.mpr ⟨lw_p114, List.forall_mem_cons.mpr ⟨lw_p115, List.forall_mem_cons.mpr ⟨lw_p116, List.forall_mem_cons.mpr ⟨lw_p117, List.forall_mem_cons.mpr ⟨lw_p118, List.forall_mem_cons.mpr ⟨lw_p119, List.forall_mem_cons.mpr ⟨lw_p120, List.forall_mem_cons.mpr ⟨lw_p121, List.forall_mem_cons.mpr ⟨lw_p122, List.forall_mem_cons.mpr ⟨lw_p123, List.forall_mem_cons.mpr ⟨lw_p124, List.forall_mem_cons.mpr ⟨lw_p125, List.forall_mem_cons.mpr ⟨lw_p126, List.forall_mem_cons.mpr ⟨lw_p127, fun _ h => absurd h List.not_mem_nil⟩⟩⟩⟩⟩⟩⟩⟩⟩⟩⟩⟩⟩⟩⟩⟩
theorem lw_p128 : lw_okq (⟨"CharacterSumsModel", "does", "(IIII)Z"⟩, 53) := ⟨⟨by decide +kernel, by decide +kernel⟩, List.mem_of_getElem? (i := 1136) (by decide +kernel), List.mem_of_getElem? (i := 1657) (by decide +kernel), List.mem_of_getElem? (i := 1658) (by decide +kernel)⟩
theorem lw_p129 : lw_okq (⟨"CharacterSumsModel", "spectrum", "(II)Z"⟩, 53) := ⟨⟨by decide +kernel, by decide +kernel⟩, List.mem_of_getElem? (i := 1136) (by decide +kernel), List.mem_of_getElem? (i := 1661) (by decide +kernel), List.mem_of_getElem? (i := 1662) (by decide +kernel)⟩
theorem lw_p130 : lw_okq (⟨"CharacterSumsModel", "mellin", "(II)Z"⟩, 53) := ⟨⟨by decide +kernel, by decide +kernel⟩, List.mem_of_getElem? (i := 1136) (by decide +kernel), List.mem_of_getElem? (i := 1665) (by decide +kernel), List.mem_of_getElem? (i := 1666) (by decide +kernel)⟩
theorem lw_p131 : lw_okq (⟨"CharacterSumsModel", "movings", "(II)Z"⟩, 53) := ⟨⟨by decide +kernel, by decide +kernel⟩, List.mem_of_getElem? (i := 1136) (by decide +kernel), List.mem_of_getElem? (i := 1669) (by decide +kernel), List.mem_of_getElem? (i := 1670) (by decide +kernel)⟩
theorem lw_p132 : lw_okq (⟨"CharacterSumsModel", "layPowers", "(I)V"⟩, 53) := ⟨⟨by decide +kernel, by decide +kernel⟩, List.mem_of_getElem? (i := 1136) (by decide +kernel), List.mem_of_getElem? (i := 1686) (by decide +kernel), List.mem_of_getElem? (i := 1687) (by decide +kernel)⟩
theorem lw_p133 : lw_okq (⟨"CharacterSumsModel", "joins", "(I)V"⟩, 53) := ⟨⟨by decide +kernel, by decide +kernel⟩, List.mem_of_getElem? (i := 1136) (by decide +kernel), List.mem_of_getElem? (i := 1695) (by decide +kernel), List.mem_of_getElem? (i := 1696) (by decide +kernel)⟩
theorem lw_p134 : lw_okq (⟨"CharacterSumsModel", "makesAll", "(I)Z"⟩, 53) := ⟨⟨by decide +kernel, by decide +kernel⟩, List.mem_of_getElem? (i := 1136) (by decide +kernel), List.mem_of_getElem? (i := 1708) (by decide +kernel), List.mem_of_getElem? (i := 1709) (by decide +kernel)⟩
theorem lw_p135 : lw_okq (⟨"CharacterSumsModel", "onByOne", "(II)I"⟩, 53) := ⟨⟨by decide +kernel, by decide +kernel⟩, List.mem_of_getElem? (i := 1136) (by decide +kernel), List.mem_of_getElem? (i := 1712) (by decide +kernel), List.mem_of_getElem? (i := 1713) (by decide +kernel)⟩
theorem lw_p136 : lw_okq (⟨"CharacterSumsModel", "lessLarge", "(I)I"⟩, 53) := ⟨⟨by decide +kernel, by decide +kernel⟩, List.mem_of_getElem? (i := 1136) (by decide +kernel), List.mem_of_getElem? (i := 1716) (by decide +kernel), List.mem_of_getElem? (i := 1717) (by decide +kernel)⟩
theorem lw_p137 : lw_okq (⟨"CharacterSumsModel", "normOf", "(I)I"⟩, 53) := ⟨⟨by decide +kernel, by decide +kernel⟩, List.mem_of_getElem? (i := 1136) (by decide +kernel), List.mem_of_getElem? (i := 1724) (by decide +kernel), List.mem_of_getElem? (i := 1725) (by decide +kernel)⟩
theorem lw_p138 : lw_okq (⟨"CharacterSumsModel", "layLeast", "(I)I"⟩, 53) := ⟨⟨by decide +kernel, by decide +kernel⟩, List.mem_of_getElem? (i := 1136) (by decide +kernel), List.mem_of_getElem? (i := 1728) (by decide +kernel), List.mem_of_getElem? (i := 1729) (by decide +kernel)⟩
theorem lw_p139 : lw_okq (⟨"CharacterSumsModel", "isSet", "(I)Z"⟩, 53) := ⟨⟨by decide +kernel, by decide +kernel⟩, List.mem_of_getElem? (i := 1136) (by decide +kernel), List.mem_of_getElem? (i := 1746) (by decide +kernel), List.mem_of_getElem? (i := 1747) (by decide +kernel)⟩
theorem lw_p140 : lw_okq (⟨"CharacterSumsModel", "pairsBy", "(II)I"⟩, 53) := ⟨⟨by decide +kernel, by decide +kernel⟩, List.mem_of_getElem? (i := 1136) (by decide +kernel), List.mem_of_getElem? (i := 1757) (by decide +kernel), List.mem_of_getElem? (i := 1758) (by decide +kernel)⟩
theorem lw_p141 : lw_okq (⟨"CharacterSumsModel", "writePart", "(JI)V"⟩, 53) := ⟨⟨by decide +kernel, by decide +kernel⟩, List.mem_of_getElem? (i := 1136) (by decide +kernel), List.mem_of_getElem? (i := 1769) (by decide +kernel), List.mem_of_getElem? (i := 1770) (by decide +kernel)⟩
theorem lw_p142 : lw_okq (⟨"CharacterSumsModel", "write", "(I)V"⟩, 53) := ⟨⟨by decide +kernel, by decide +kernel⟩, List.mem_of_getElem? (i := 1136) (by decide +kernel), List.mem_of_getElem? (i := 1773) (by decide +kernel), List.mem_of_getElem? (i := 1774) (by decide +kernel)⟩
theorem lw_p143 : lw_okq (⟨"CharacterSumsModel", "writeNumber", "(J)V"⟩, 53) := ⟨⟨by decide +kernel, by decide +kernel⟩, List.mem_of_getElem? (i := 1136) (by decide +kernel), List.mem_of_getElem? (i := 1780) (by decide +kernel), List.mem_of_getElem? (i := 1781) (by decide +kernel)⟩
def lw_privs_9 : List (MethodName × Nat) := [(⟨"CharacterSumsModel", "does", "(IIII)Z"⟩, 53), (⟨"CharacterSumsModel", "spectrum", "(II)Z"⟩, 53), (⟨"CharacterSumsModel", "mellin", "(II)Z"⟩, 53), (⟨"CharacterSumsModel", "movings", "(II)Z"⟩, 53), (⟨"CharacterSumsModel", "layPowers", "(I)V"⟩, 53), (⟨"CharacterSumsModel", "joins", "(I)V"⟩, 53), (⟨"CharacterSumsModel", "makesAll", "(I)Z"⟩, 53), (⟨"CharacterSumsModel", "onByOne", "(II)I"⟩, 53), (⟨"CharacterSumsModel", "lessLarge", "(I)I"⟩, 53), (⟨"CharacterSumsModel", "normOf", "(I)I"⟩, 53), (⟨"CharacterSumsModel", "layLeast", "(I)I"⟩, 53), (⟨"CharacterSumsModel", "isSet", "(I)Z"⟩, 53), (⟨"CharacterSumsModel", "pairsBy", "(II)I"⟩, 53), (⟨"CharacterSumsModel", "writePart", "(JI)V"⟩, 53), (⟨"CharacterSumsModel", "write", "(I)V"⟩, 53), (⟨"CharacterSumsModel", "writeNumber", "(J)V"⟩, 53)]
theorem lw_r9 : ∀ q ∈ lw_privs_9, lw_okq q := List.forall_mem_cons.mpr ⟨lw_p128, List.forall_mem_cons.mpr ⟨lw_p129, List.forall_mem_cons.mpr ⟨lw_p130, List.forall_mem_cons.mpr ⟨lw_p131, List.forall_mem_cons.mpr ⟨lw_p132, List.forall_mem_cons.mpr ⟨lw_p133, List.forall_mem_cons.mpr ⟨lw_p134, List.forall_mem_cons.mpr ⟨lw_p135, List.forall_mem_cons.mpr ⟨lw_p136, List.forall_mem_cons.mpr ⟨lw_p137, List.forall_mem_cons.mpr ⟨lw_p138, List.forall_mem_cons.mpr ⟨lw_p139, List.forall_mem_cons.mpr ⟨lw_p140, List.forall_mem_cons.mpr ⟨lw_p141, List.forall_mem_cons.mpr ⟨lw_p142, List.forall_mem_cons.mpr ⟨lw_p143, fun _ h => absurd h List.not_mem_nil⟩⟩⟩⟩⟩⟩⟩⟩⟩⟩⟩⟩⟩⟩⟩⟩
def lw_privs : List (MethodName × Nat) := lw_privs_1 ++ (lw_privs_2 ++ (lw_privs_3 ++ (lw_privs_4 ++ (lw_privs_5 ++ (lw_privs_6 ++ (lw_privs_7 ++ (lw_privs_8 ++ (lw_privs_9))))))))
def lw_tbl : List Cond := k2_sels lw_privs ++ tables_1
theorem lw_privs_ok : ∀ q ∈ lw_privs, lw_okq q := by
  show ∀ q ∈ lw_privs_1 ++ (lw_privs_2 ++ (lw_privs_3 ++ (lw_privs_4 ++ (lw_privs_5 ++ (lw_privs_6 ++ (lw_privs_7 ++ (lw_privs_8 ++ (lw_privs_9)))))))), lw_okq q
  exact List.forall_mem_append.mpr ⟨lw_r1, List.forall_mem_append.mpr ⟨lw_r2, List.forall_mem_append.mpr ⟨lw_r3, List.forall_mem_append.mpr ⟨lw_r4, List.forall_mem_append.mpr ⟨lw_r5, List.forall_mem_append.mpr ⟨lw_r6, List.forall_mem_append.mpr ⟨lw_r7, List.forall_mem_append.mpr ⟨lw_r8, lw_r9⟩⟩⟩⟩⟩⟩⟩⟩
end
section
/-- the tables hold the class of arrays over arrays of t (a name that the printed rows use and do not define) -/
def va_AOA (t : FieldType) (U : State) : Prop := (Cond.arrayOver (.array t)).before #[] U = true
theorem va_AOA.use {t : FieldType} {A : Array Value} {U : State} (h : va_AOA t U) : (Cond.arrayOver (.array t)).before A U = true := h
/-! ===== BEGIN words of one list among another's, by their places ===== -/
theorem goodIn_r {big : List Cond} (ws : List Cond) (ps : List Nat) (hp : ws = ps.filterMap (fun i => big[i]?)) (h : ws.all goodWord = true) : GoodIn big ws := by
  intro w hw
  have h1 := List.all_eq_true.mp h w hw
  rw [hp] at hw
  obtain ⟨i, -, hi⟩ := List.mem_filterMap.mp hw
  have hm : w ∈ big := by first | exact List.mem_of_getElem? hi | exact List.getElem?_mem hi
  exact ⟨hm, good_of_word h1⟩
theorem goodIn_app {big a b : List Cond} (ha : GoodIn big a) (hb : GoodIn big b) : GoodIn big (a ++ b) := fun w h => (List.mem_append.mp h).elim (ha w) (hb w)
theorem goodIn_ca {big a b : List Cond} {c : Cond} (ha : GoodIn big (c :: a)) (hb : GoodIn big b) : GoodIn big (c :: (a ++ b)) := fun w h => (List.mem_cons.mp h).elim (fun e => ha w (List.mem_cons.mpr (Or.inl e))) (fun h => (List.mem_append.mp h).elim (fun h => ha w (List.mem_cons.mpr (Or.inr h))) (hb w))
theorem goodIn_sub {big ws : List Cond} (hm : ∀ w ∈ ws, w ∈ big) (h : ws.all goodWord = true) : GoodIn big ws := fun w hw => ⟨hm w hw, good_of_word (List.all_eq_true.mp h w hw)⟩
/-! ===== END ===== -/


/-! ===== BEGIN exceptions that leave a method, and their catching by the caller (launches without stack traces) ===== -/
section VXA
/-! The laws vx_back, vx_callV, vx_callS, vx_callSW, vx_throw0, vx_throwS follow proofs of the library, with one case more: JvmDerived/Free/Laws.lean (Back.of_free), Shelf42/LK1.lean (callV, callS), Shelf/KitTraced.lean (throwNew0V, throwNewS). -/
/-- where a method has thrown q: the class by its name, the cell, what was written, the world -/
def vx_T (XC : String → State → State → Prop) (st : State) (q : Addr) (t : State) (mc ms : Nat) (free : Addr → Prop) : Prop :=
  ∃ (E : String) (ce : Cell) (L : List Loc), XC E st t ∧ t.heap[q]? = some ce ∧ ce.vm = .none ∧ st.vm.findClass E = some ce.cls ∧ st.WarmedH t.vm ∧ st.sameButNew ({ t with vm := st.vm } : State) L mc ms ∧ ∀ z ∈ L, free z.base
def vx_Q (Qc : Array Value → State → Outcome → State → Prop) (XC : String → State → State → Prop) (mc ms : Nat) (free : Addr → Prop) : Array Value → State → Outcome → State → Prop := fun a st o t =>
  (Qc a st o t ∧ ∃ L, FrameEnd st o t L mc ms ∧ ∀ q ∈ L, free q.base) ∨ ∃ q, o = .threw q ∧ vx_T XC st q t mc ms free
/-- a callee that returns or throws -/
def vx_Met (l : Launch) (y : MethodName) (ws : List Cond) (rm : Room) (Pc : Array Value → State → Prop) (Qc : Array Value → State → Outcome → State → Prop) (XC : String → State → State → Prop) (mc ms : Nat) (free : Addr → Prop) : Prop :=
  MetFree l y (headSpec ws rm) Pc (fun _ _ _ _ _ => True) (vx_Q Qc XC mc ms free)
def vx_Post (XC : String → State → State → Prop) (mc ms : Nat) (free : Addr → Prop) : Pt → Array Value → Addr → Pt → Prop := fun A a q B =>
  ∃ (g : JFrame) (mk : MethodId) (t : State) (L : List Loc) (E : String) (ce : Cell), B.U.heap = t.heap ∧ B.U.vm = t.vm ∧ XC E (A.U.calling g mk a) t ∧ t.heap[q]? = some ce ∧ ce.vm = .none ∧ A.U.vm.findClass E = some ce.cls ∧ B.locs = A.locs ++ L ∧ (∀ z ∈ L, free z.base) ∧ B.cells = A.cells + mc ∧ B.slots = A.slots + ms
def vx_Back (l : Launch) (R : Room) (p : Program) (e : Env) (below : List Frame) (s : State) (sargs : Array Value) (y : MethodName) (len W9 : Nat)
    (Pre : Pt → Array Value → Prop) (Post : Pt → Array Value → Option Value → Pt → Prop) (PostX : Pt → Array Value → Addr → Pt → Prop) : Prop :=
  ∀ (m : MethodId) (meth : Method) (c : Code) (A : Pt) (g : JFrame) (ig : Instr) (mk : MethodId) (a : Array Value),
    Stand p l e R s m sargs below meth c A.U A.locs A.cells A.slots → g.method = m → g.locals.size = c.maxLocals → decode c.code g.pc = .ok (ig, len) →
    2 * g.monitorRoom + (g.stack.map fun v => v.category).sum ≤ W9 → A.U.methodNamed? y = some mk → Pre A a →
    (∃ (v : Option Value) (B : Pt), Stand p l e R s m sargs below meth c B.U B.locs B.cells B.slots ∧ Post A a v B ∧
      Steps p.tables e below (doInvoke e (A.U.setTop g) [] mk a).1 (B.U.setTop { g with pc := g.pc + len, stack := v.toList ++ g.stack })) ∨
    (∃ (q : Addr) (B : Pt), Stand p l e R s m sargs below meth c B.U B.locs B.cells B.slots ∧ PostX A a q B ∧
      Steps p.tables e below (doInvoke e (A.U.setTop g) [] mk a).1 ((B.U.setTop g).pushFrame (.throwing q)))
section Payer
variable {l : Launch} {R : Room} {p : Program} {e : Env} {below : List Frame} {s : State} {sargs : Array Value} {y : MethodName} {len W9 : Nat}
theorem vx_back {ws : List Cond} {rm : Room} {Pc : Array Value → State → Prop} {Qc : Array Value → State → Outcome → State → Prop} {XC : String → State → State → Prop} {mc ms : Nat} {free : Addr → Prop} {bytes : ByteArray} {maxL : Nat} {ret : Option FieldType}
    (hM : vx_Met l y ws rm Pc Qc XC mc ms free) (hblind : FrameBlind Pc) (hrc : rm.cells = mc) (hrs : rm.slots = ms)
    (hframes : rm.frames + 1 ≤ R.frames) (hlocals : W9 + (maxL + 11) + rm.locals ≤ R.locals)
    (hws : ∀ w ∈ ws, ∀ a' U, s.WarmedH U.vm → w.before a' U = true) (hcode : Cond.code y bytes maxL ret ∈ ws) (hinit : ∀ a' U, s.WarmedH U.vm → (Cond.initialized y.cls).before a' U = true) :
    vx_Back l R p e below s sargs y len W9 (PreOf R mc ms Pc) (PostOf Qc mc ms free) (vx_Post XC mc ms free) := by
  intro m meth c A g ig mk a X hg hsize hdg hW hn hp
  have h1 : (headSpec ws rm).pre.before a A.U = true := atoms_intro fun w hw => hws w hw _ _ X.warmed
  have h2 : (Cond.code y bytes maxL ret).before a A.U = true := hws _ hcode _ _ X.warmed
  have h3 : (Cond.initialized y.cls).before a A.U = true := hinit _ _ X.warmed
  have h4 : A.cells + (headSpec ws rm).room.cells ≤ R.cells := by rw [show (headSpec ws rm).room.cells = mc from hrc]; exact hp.1
  have h5 : A.slots + (headSpec ws rm).room.slots ≤ R.slots := by rw [show (headSpec ws rm).room.slots = ms from hrs]; exact hp.2.1
  have hPc : Pc a (A.U.calling g mk a) := hblind _ _ _ _ hp.2.2
  obtain ⟨U, Ls, c0, s0⟩ := A
  dsimp only [Pt.U, Pt.locs, Pt.cells, Pt.slots] at h1 h2 h3 h4 h5 X hn hPc ⊢
  obtain ⟨methY, cY, hmY, hcY, -, hlY, -, -, -, -⟩ := Cond.code_spec hn h2
  obtain ⟨kY, hkY, -⟩ := className_of_methodNamed hn
  have hinitY : kY.init = .initialized := Cond.initialized_spec (findClass_of_methodNamed hn) hkY h3
  have h : At U g.method c below := by rw [hg]; exact X.here
  have hlocals9 : W9 + (maxL + 11) + (headSpec ws rm).room.locals ≤ R.locals := hlocals
  have happ : (headSpec ws rm).appliesLoose y e.platform (U.calling g mk a) = true :=
    Spec.appliesLoose_calling (g := g) h hdg hn hkY hinitY
      (X.room_calling (g := g) (R' := (headSpec ws rm).room) hsize hmY hcY hframes (by rw [hlY]; omega) h4 h5) h1
  obtain ⟨mid, hmid⟩ := h.above
  have hfr : (U.setTop g).frames = (.java g :: mid) ++ below := by rw [State.frames_setTop' g h.top, hmid]; rfl
  obtain ⟨o, s₂, hsteps, -, hend, hq⟩ := Steps.callFree hM p X.admits X.cas X.clock (acts := []) hfr happ hPc trivial
  have hq' : vx_Q Qc XC mc ms free a (U.calling g mk a) o s₂ := hq
  rw [State.frames_setTop' g h.top] at hend
  obtain ⟨g₀, hg0⟩ := Option.isSome_iff_exists.mp h.top
  obtain ⟨r, hr⟩ := State.topJava?_eq_some.mp hg0
  have hr' : (({ U with heap := s₂.heap, slotsUsed := s₂.slotsUsed } : State).setVm s₂.vm).frames = .java g₀ :: r := hr
  rcases hq' with ⟨hqc, L, hfe, hL⟩ | ⟨q, rfl, E, ce, L, hx, hce, hcv, hcl, hW₂, hsm, hL⟩
  · obtain ⟨⟨v, rfl⟩, hW₂, e2, q2, q3, q4, q5, q6⟩ := id hfe
    have e3 : s₂ = ({ (U.calling g mk a).setFrames s₂.frames with heap := s₂.heap, slotsUsed := s₂.slotsUsed } : State).setVm s₂.vm := by
      have : s₂ = ({ s₂ with vm := (U.calling g mk a).vm } : State).setVm s₂.vm := rfl
      rw [e2] at this
      exact this
    obtain ⟨c₂, i₂, len₂, hc₂, hd₂, hf₂⟩ := hend
    have hW' : U.WarmedH s₂.vm := hW₂
    have hcc : c₂ = c := by
      have h1 : s₂.code? g.method = U.code? g.method := by
        rw [State.code?_eq, State.code?_eq, hW'.alike.method?]
      exact Option.some.inj (hc₂.symm.trans (h1.trans h.code))
    subst hcc
    have hlen : len₂ = len := by rw [hdg] at hd₂; cases hd₂; rfl
    subst hlen
    have hs₂ : s₂ = (({ U with heap := s₂.heap, slotsUsed := s₂.slotsUsed } : State).setVm s₂.vm).setTop { g with pc := g.pc + len₂, stack := v.toList ++ g.stack } := by
      refine e3.trans ?_
      rw [hf₂, State.calling_eq h.top, State.setFrames_setFrames, State.setTop_of_frames _ hr', hr]
      rfl
    have hsame : U.sameButNew ({ U with heap := s₂.heap, slotsUsed := s₂.slotsUsed } : State) L mc ms := by
      refine ⟨?_, q2, q3, q4, q5, q6⟩
      obtain ⟨t, ht, -⟩ := State.frames_cons hr
      show ({ U with heap := s₂.heap, slotsUsed := s₂.slotsUsed } : State) = { U.setFrames U.frames with heap := s₂.heap, slotsUsed := s₂.slotsUsed }
      rw [State.setFrames_self ht]
    subst hg
    refine Or.inl ⟨v, ⟨(({ U with heap := s₂.heap, slotsUsed := s₂.slotsUsed } : State).setVm s₂.vm), Ls ++ L, c0 + mc, s0 + ms⟩,
      ⟨X.admits, X.cas, X.clock, X.frames, X.room, X.hears, X.method, X.code, (X.here.setHeapUsed s₂.heap s₂.slotsUsed).setVm hW'.alike, X.tail, State.WarmedH.trans X.warmed hW', X.limits, X.bytes, X.same.trans (hsame.setVm s.vm)⟩,
      ⟨g, mk, s₂, L, rfl, rfl, hqc, rfl, hL, rfl, rfl⟩, ?_⟩
    show Steps p.tables e below _ ((({ U with heap := s₂.heap, slotsUsed := s₂.slotsUsed } : State).setVm s₂.vm).setTop { g with pc := g.pc + len₂, stack := v.toList ++ g.stack })
    rw [← hs₂]
    exact hsteps
  · obtain ⟨e2, q2, q3, q4, q5, q6⟩ := id hsm
    have e3 : s₂ = ({ (U.calling g mk a).setFrames s₂.frames with heap := s₂.heap, slotsUsed := s₂.slotsUsed } : State).setVm s₂.vm := by
      have : s₂ = ({ s₂ with vm := (U.calling g mk a).vm } : State).setVm s₂.vm := rfl
      rw [e2] at this
      exact this
    have hf₂ : s₂.frames = .throwing q :: .java g :: U.frames.tail := hend
    have hW' : U.WarmedH s₂.vm := hW₂
    have hs₂ : s₂ = ((({ U with heap := s₂.heap, slotsUsed := s₂.slotsUsed } : State).setVm s₂.vm).setTop g).pushFrame (.throwing q) := by
      refine e3.trans ?_
      rw [hf₂, State.calling_eq h.top, State.setFrames_setFrames, State.pushFrame, State.frames_setTop _ hr', State.setTop_of_frames _ hr', State.setFrames_setFrames, hr]
      rfl
    have hsame : U.sameButNew ({ U with heap := s₂.heap, slotsUsed := s₂.slotsUsed } : State) L mc ms := by
      refine ⟨?_, q2, q3, q4, q5, q6⟩
      obtain ⟨t, ht, -⟩ := State.frames_cons hr
      show ({ U with heap := s₂.heap, slotsUsed := s₂.slotsUsed } : State) = { U.setFrames U.frames with heap := s₂.heap, slotsUsed := s₂.slotsUsed }
      rw [State.setFrames_self ht]
    subst hg
    refine Or.inr ⟨q, ⟨(({ U with heap := s₂.heap, slotsUsed := s₂.slotsUsed } : State).setVm s₂.vm), Ls ++ L, c0 + mc, s0 + ms⟩,
      ⟨X.admits, X.cas, X.clock, X.frames, X.room, X.hears, X.method, X.code, (X.here.setHeapUsed s₂.heap s₂.slotsUsed).setVm hW'.alike, X.tail, State.WarmedH.trans X.warmed hW', X.limits, X.bytes, X.same.trans (hsame.setVm s.vm)⟩,
      ⟨g, mk, s₂, L, E, ce, rfl, rfl, hx, hce, hcv, hcl, rfl, hL, rfl, rfl⟩, ?_⟩
    show Steps p.tables e below _ (((({ U with heap := s₂.heap, slotsUsed := s₂.slotsUsed } : State).setVm s₂.vm).setTop g).pushFrame (.throwing q))
    rw [← hs₂]
    exact hsteps
end Payer
section Calls
variable {p : Program} {l : Launch} {e : Env} {R : Room} {s : State} {m : MethodId} {args : Array Value} {below : List Frame} {meth : Method} {c : Code} {T : State} {locs : List Loc} {cells slots : Nat}
theorem vx_callV (X : Stand p l e R s m args below meth c T locs cells slots) (hexec : p.tables.exec = Jvm.exec) {own C : String} {index : Nat} {y : MethodName} {bytes : ByteArray} {maxL : Nat} {ret : Option FieldType}
    (hown : s.vm.findClass own = some m.cls) (hlink : (Cond.methodLink own index y).before args s = true) (hinst : (Cond.instanceMethod y).before args s = true) (hsel : (Cond.selects C y y).before args s = true)
    (hcode : (Cond.code y bytes maxL ret).before args s = true) (hy : y.cls ≠ "java/lang/invoke/MethodHandle" ∧ y.cls ≠ "java/lang/invoke/VarHandle")
    {W9 : Nat} {Pre : Pt → Array Value → Prop} {Post : Pt → Array Value → Option Value → Pt → Prop} {PostX : Pt → Array Value → Addr → Pt → Prop} (hK : vx_Back l R p e below s args y 3 W9 Pre Post PostX)
    {b : Addr} {cellB : Cell} (hcell : T.heap[b]? = some cellB) (hobj : cellB.vm.isStatics = false) (hcls : s.vm.findClass C = some cellB.cls)
    {g : JFrame} (hg : g.method = m) (hsize : g.locals.size = c.maxLocals) {argsL rest : List Value} (hlen : ∀ sig, parseMethodDescriptor y.desc = some sig → argsL.length = sig.parameters.length)
    (hstack : g.stack = argsL.reverse ++ .ref b :: rest) (hW : 2 * g.monitorRoom + (rest.map fun v => v.category).sum ≤ W9) (hdg : decode c.code g.pc = .ok (.invokevirtual index, 3))
    (hpre : ∀ vm₁, s.WarmedH vm₁ → Pre ⟨T.setVm vm₁, locs, cells, slots⟩ (Value.ref b :: argsL).toArray) :
    (∃ (v : Option Value) (vm₁ : Vm) (B : Pt), s.WarmedH vm₁ ∧ Stand p l e R s m args below meth c B.U B.locs B.cells B.slots ∧ Post ⟨T.setVm vm₁, locs, cells, slots⟩ (Value.ref b :: argsL).toArray v B ∧
      ∀ target, Steps p.tables e below (B.U.setTop { g with pc := g.pc + 3, stack := v.toList ++ rest }) target → Steps p.tables e below (T.setTop g) target) ∨
    (∃ (q : Addr) (vm₁ : Vm) (B : Pt), s.WarmedH vm₁ ∧ Stand p l e R s m args below meth c B.U B.locs B.cells B.slots ∧ PostX ⟨T.setVm vm₁, locs, cells, slots⟩ (Value.ref b :: argsL).toArray q B ∧
      Steps p.tables e below (T.setTop g) ((B.U.setTop { g with stack := rest }).pushFrame (.throwing q))) := by
  obtain ⟨mk, methM, hnamed, hmethM, hstM, habM⟩ := Cond.instanceMethod_spec hinst
  obtain ⟨methM', cM, hmethM', -, -, -, -, -, -, hsigM⟩ := Cond.code_spec hnamed hcode
  cases hmethM.symm.trans hmethM'
  obtain ⟨c2, r2, m2, q1, q2, q3, q4, kP, hkP, hkPi⟩ := Cond.selects_spec hsel
  cases hcls.symm.trans q1
  cases (State.methodFound?_of_named hnamed hy).symm.trans q2
  cases hnamed.symm.trans q3
  have hselP : selectMethod e.platform s.vm cellB.cls mk = .method mk := by rw [Launch.admits_selectMethod X.admits]; exact q4
  obtain ⟨vm₁, X₁, hstep₁⟩ := X.invokevirtual hexec hown hlink hnamed hmethM hstM hkP hkPi hy (a := b) (cell := cellB) hcell
    (fun z h => by rw [h] at hobj; cases hobj) hselP hmethM habM hkP hkPi (g := g) hg (argsL := argsL) (rest := rest) (hlen _ hsigM) hstack hdg
  rcases hK m meth c ⟨T.setVm vm₁, locs, cells, slots⟩ { g with stack := rest } (.invokevirtual index) mk (Value.ref b :: argsL).toArray X₁ hg hsize hdg hW (X₁.named hnamed) (hpre vm₁ X₁.warmed) with ⟨v, B, X', hpost, hsteps⟩ | ⟨q, B, X', hpost, hsteps⟩
  · exact Or.inl ⟨v, vm₁, B, X₁.warmed, X', hpost, fun target h => hstep₁ _ fun acts => by rw [doInvoke_state]; exact hsteps.trans h⟩
  · exact Or.inr ⟨q, vm₁, B, X₁.warmed, X', hpost, hstep₁ _ fun acts => by rw [doInvoke_state]; exact hsteps⟩
theorem vx_callS (X : Stand p l e R s m args below meth c T locs cells slots) (hexec : p.tables.exec = Jvm.exec) {own : String} {index : Nat} {y : MethodName} {bytes : ByteArray} {maxL : Nat} {ret : Option FieldType}
    (hown : s.vm.findClass own = some m.cls) (hlink : (Cond.methodLink own index y).before args s = true) (hstat : (Cond.static y).before args s = true) (hinit : (Cond.initialized y.cls).before args s = true)
    (hcode : (Cond.code y bytes maxL ret).before args s = true) (hy : y.cls ≠ "java/lang/invoke/MethodHandle" ∧ y.cls ≠ "java/lang/invoke/VarHandle")
    {W9 : Nat} {Pre : Pt → Array Value → Prop} {Post : Pt → Array Value → Option Value → Pt → Prop} {PostX : Pt → Array Value → Addr → Pt → Prop} (hK : vx_Back l R p e below s args y 3 W9 Pre Post PostX)
    {g : JFrame} (hg : g.method = m) (hsize : g.locals.size = c.maxLocals) {argsL rest : List Value} (hlen : ∀ sig, parseMethodDescriptor y.desc = some sig → argsL.length = sig.parameters.length)
    (hstack : g.stack = argsL.reverse ++ rest) (hW : 2 * g.monitorRoom + (rest.map fun v => v.category).sum ≤ W9) (hdg : decode c.code g.pc = .ok (.invokestatic index, 3))
    (hpre : ∀ vm₁, s.WarmedH vm₁ → Pre ⟨T.setVm vm₁, locs, cells, slots⟩ argsL.toArray) :
    (∃ (v : Option Value) (vm₁ : Vm) (B : Pt), s.WarmedH vm₁ ∧ Stand p l e R s m args below meth c B.U B.locs B.cells B.slots ∧ Post ⟨T.setVm vm₁, locs, cells, slots⟩ argsL.toArray v B ∧
      ∀ target, Steps p.tables e below (B.U.setTop { g with pc := g.pc + 3, stack := v.toList ++ rest }) target → Steps p.tables e below (T.setTop g) target) ∨
    (∃ (q : Addr) (vm₁ : Vm) (B : Pt), s.WarmedH vm₁ ∧ Stand p l e R s m args below meth c B.U B.locs B.cells B.slots ∧ PostX ⟨T.setVm vm₁, locs, cells, slots⟩ argsL.toArray q B ∧
      Steps p.tables e below (T.setTop g) ((B.U.setTop { g with stack := rest }).pushFrame (.throwing q))) := by
  obtain ⟨mk, hnamed⟩ := Cond.code_named hcode
  obtain ⟨methM, cM, hmethM, -, -, -, -, -, -, hsigM⟩ := Cond.code_spec hnamed hcode
  have hstatic : methM.isStatic = true := Cond.static_spec hnamed hmethM hstat
  obtain ⟨kP, hkP, -⟩ := className_of_methodNamed hnamed
  have hinitP : kP.init = .initialized := Cond.initialized_spec (findClass_of_methodNamed hnamed) hkP hinit
  obtain ⟨vm₁, X₁, hstep₁⟩ := X.invokestatic hexec hown hlink hnamed hmethM hstatic hkP hinitP hy (g := g) hg (argsL := argsL) (rest := rest) (hlen _ hsigM) hstack hdg
  rcases hK m meth c ⟨T.setVm vm₁, locs, cells, slots⟩ { g with stack := rest } (.invokestatic index) mk argsL.toArray X₁ hg hsize hdg hW (X₁.named hnamed) (hpre vm₁ X₁.warmed) with ⟨v, B, X', hpost, hsteps⟩ | ⟨q, B, X', hpost, hsteps⟩
  · exact Or.inl ⟨v, vm₁, B, X₁.warmed, X', hpost, fun target h => hstep₁ _ fun acts => by rw [doInvoke_state]; exact hsteps.trans h⟩
  · exact Or.inr ⟨q, vm₁, B, X₁.warmed, X', hpost, hstep₁ _ fun acts => by rw [doInvoke_state]; exact hsteps⟩
end Calls
theorem vx_cls {s : State} {T : State} {vm₁ : Vm} {E : String} {k : ClassId} (hW : s.WarmedH vm₁) (h : (T.setVm vm₁).vm.findClass E = some k) : s.vm.findClass E = some k := by
  have h1 : vm₁.findClass E = some k := h
  rw [hW.alike.findClass] at h1
  exact h1
/-- the method's frame g, with q thrown over it -/
def vx_W (p : Program) (l : Launch) (e : Env) (R : Room) (s : State) (m : MethodId) (args : Array Value) (below : List Frame) (meth : Method) (c : Code) (H : Heap) (locs : List Loc) (cells slots : Nat) (Q : State → Prop) (g : JFrame) (q : Addr) : Prop :=
  ∀ T : State, T.heap = H → Stand p l e R s m args below meth c T locs cells slots → ∃ t, Steps p.tables e below ((T.setTop g).pushFrame (.throwing q)) t ∧ Q t
def vx_Run (p : Program) (l : Launch) (e : Env) (R : Room) (s : State) (m : MethodId) (args : Array Value) (below : List Frame) (meth : Method) (c : Code) (H : Heap) (locs : List Loc) (cells slots mc ms : Nat) (g : JFrame) (rest : List Value) (Qa : State → Outcome → State → Prop) (XC : String → State → State → Prop) (free : Addr → Prop) : Prop :=
  ∀ T : State, T.heap = H → Stand p l e R s m args below meth c T locs cells slots →
    (∃ (v : Option Value) (st₀ t T' : State) (L : List Loc), st₀.heap = H ∧ Stand p l e R s m args below meth c T' (locs ++ L) (cells + mc) (slots + ms) ∧ (∀ q ∈ L, free q.base) ∧ T'.heap = t.heap ∧ T'.vm = t.vm ∧ Qa st₀ (.returned v) t ∧
      Goes p e below T g T' { g with pc := g.pc + 3, stack := v.toList ++ rest }) ∨
    (∃ (q : Addr) (st₀ t T' : State) (L : List Loc) (E : String) (ce : Cell), st₀.heap = H ∧ Stand p l e R s m args below meth c T' (locs ++ L) (cells + mc) (slots + ms) ∧ (∀ z ∈ L, free z.base) ∧ T'.heap = t.heap ∧ T'.vm = t.vm ∧ XC E st₀ t ∧ t.heap[q]? = some ce ∧ ce.vm = .none ∧ s.vm.findClass E = some ce.cls ∧
      Steps p.tables e below (T.setTop g) ((T'.setTop { g with stack := rest }).pushFrame (.throwing q)))
def vx_X {S : Type} (px : S → Prop) (B : String → S → State → Prop) (A : Nat → Prop) : String → State → State → Prop := fun E st t => ∃ u : S, px u ∧ B E u t ∧ va_F A st t
section Runs
variable {p : Program} {l : Launch} {e : Env} {R : Room} {s : State} {m : MethodId} {args : Array Value} {below : List Frame} {meth : Method} {c : Code} {H : Heap} {locs : List Loc} {cells slots : Nat}
variable {y : MethodName} {bytes cc : ByteArray} {maxL nL mc ms n index : Nat} {ret : Option FieldType} {ws : List Cond} {rm : Room} {Pc : Array Value → State → Prop} {Qc : Array Value → State → Outcome → State → Prop} {XC : String → State → State → Prop} {free : Addr → Prop} {Ts : List Cond} {own C : String} {b : Addr} {As rest : List Value} {g : JFrame}
theorem vx_callBack (cb : CallB R s args own index y bytes maxL ret ws rm mc ms n) (hM : vx_Met l y ws rm Pc Qc XC mc ms free) (hbl : FrameBlind Pc) : vx_Back l R p e below s args y 3 8 (PreOf R mc ms Pc) (PostOf Qc mc ms free) (vx_Post XC mc ms free) := by
  obtain ⟨hrc, hrs, hfr, hlo, hws, hcw, -, hini, -⟩ := cb
  exact vx_back (bytes := bytes) (maxL := maxL) (ret := ret) hM hbl hrc hrs hfr hlo hws hcw (fun a' U hW => word_at hW (Or.inl (by first | rfl | simp [Cond.onTables, Cond.keeps, Cond.steady])) hini)
theorem vx_runV (S : CallFix p m c cc nL s args Ts own) (hM : vx_Met l y ws rm Pc Qc XC mc ms free) (cw : CallW R s args own C index y bytes maxL ret ws rm mc ms n) (hp : PreV s H C b Pc As)
    (hg : g.method = m) (hn : As.length = n) (hsize : g.locals.size = nL) (hstack : g.stack = As.reverse ++ .ref b :: rest) (hW : 2 * g.monitorRoom + (rest.map fun v => v.category).sum ≤ 8) (hdg : decode cc g.pc = .ok (.invokevirtual index, 3)) (hf : cells + mc ≤ R.cells ∧ slots + ms ≤ R.slots) :
    vx_Run p l e R s m args below meth c H locs cells slots mc ms g rest (Qc (Value.ref b :: As).toArray) XC free := by
  have hK : vx_Back l R p e below s args y 3 8 (PreOf R mc ms Pc) (PostOf Qc mc ms free) (vx_Post XC mc ms free) := vx_callBack cw.1 hM hp.1
  obtain ⟨⟨-, -, -, -, -, -, hcode, -, hy, hlen, hl⟩, hin, hse⟩ := cw
  obtain ⟨hx, hb, hml, ho, -⟩ := S
  obtain ⟨-, ⟨cellB, hcB, hoB, hclB⟩, hPc⟩ := hp
  intro T hT X
  rcases vx_callV X hx (C := C) (bytes := bytes) (maxL := maxL) (ret := ret) ho hl hin hse hcode hy hK (by rw [hT]; exact hcB) hoB hclB hg (hsize.trans hml.symm) (argsL := As) (rest := rest) (fun sig h => hn.trans (hlen sig h)) hstack hW (by rw [hb]; exact hdg)
    (fun vm₁ hW₁ => ⟨hf.1, hf.2, hPc (T.setVm vm₁) hT hW₁⟩) with ⟨v, vm₁, ⟨U', l2, c2, s2⟩, hW₁, X', ⟨g', mk, t, L, e1, e2, hq, h1, hL, h2, h3⟩, st⟩ | ⟨q, vm₁, ⟨U', l2, c2, s2⟩, hW₁, X', ⟨g', mk, t, L, E, ce, e1, e2, hq, hce, hcv, hcl, h1, hL, h2, h3⟩, st⟩
  · dsimp only [Pt.U, Pt.locs, Pt.cells, Pt.slots] at X' e1 e2 h1 h2 h3 st
    subst h1; subst h2; subst h3
    exact Or.inl ⟨v, (T.setVm vm₁).calling g' mk (Value.ref b :: As).toArray, t, U', L, hT, X', hL, e1, e2, hq, st⟩
  · dsimp only [Pt.U, Pt.locs, Pt.cells, Pt.slots] at X' e1 e2 h1 h2 h3 st hcl
    subst h1; subst h2; subst h3
    exact Or.inr ⟨q, (T.setVm vm₁).calling g' mk (Value.ref b :: As).toArray, t, U', L, E, ce, hT, X', hL, e1, e2, hq, hce, hcv, vx_cls hW₁ hcl, st⟩
theorem vx_runS (S : CallFix p m c cc nL s args Ts own) (hM : vx_Met l y ws rm Pc Qc XC mc ms free) (cw : CallB R s args own index y bytes maxL ret ws rm mc ms n ∧ (Cond.static y).before args s = true) (hp : PreS s H Pc As)
    (hg : g.method = m) (hn : As.length = n) (hsize : g.locals.size = nL) (hstack : g.stack = As.reverse ++ rest) (hW : 2 * g.monitorRoom + (rest.map fun v => v.category).sum ≤ 8) (hdg : decode cc g.pc = .ok (.invokestatic index, 3)) (hf : cells + mc ≤ R.cells ∧ slots + ms ≤ R.slots) :
    vx_Run p l e R s m args below meth c H locs cells slots mc ms g rest (Qc As.toArray) XC free := by
  have hK : vx_Back l R p e below s args y 3 8 (PreOf R mc ms Pc) (PostOf Qc mc ms free) (vx_Post XC mc ms free) := vx_callBack cw.1 hM hp.1
  obtain ⟨⟨-, -, -, -, -, -, hcode, hini, hy, hlen, hl⟩, hstt⟩ := cw
  obtain ⟨hx, hb, hml, ho, -⟩ := S
  intro T hT X
  rcases vx_callS X hx (bytes := bytes) (maxL := maxL) (ret := ret) ho hl hstt hini hcode hy hK hg (hsize.trans hml.symm) (argsL := As) (rest := rest) (fun sig h => hn.trans (hlen sig h)) hstack hW (by rw [hb]; exact hdg)
    (fun vm₁ hW₁ => ⟨hf.1, hf.2, hp.2 (T.setVm vm₁) hT hW₁⟩) with ⟨v, vm₁, ⟨U', l2, c2, s2⟩, hW₁, X', ⟨g', mk, t, L, e1, e2, hq, h1, hL, h2, h3⟩, st⟩ | ⟨q, vm₁, ⟨U', l2, c2, s2⟩, hW₁, X', ⟨g', mk, t, L, E, ce, e1, e2, hq, hce, hcv, hcl, h1, hL, h2, h3⟩, st⟩
  · dsimp only [Pt.U, Pt.locs, Pt.cells, Pt.slots] at X' e1 e2 h1 h2 h3 st
    subst h1; subst h2; subst h3
    exact Or.inl ⟨v, (T.setVm vm₁).calling g' mk As.toArray, t, U', L, hT, X', hL, e1, e2, hq, st⟩
  · dsimp only [Pt.U, Pt.locs, Pt.cells, Pt.slots] at X' e1 e2 h1 h2 h3 st hcl
    subst h1; subst h2; subst h3
    exact Or.inr ⟨q, (T.setVm vm₁).calling g' mk As.toArray, t, U', L, E, ce, hT, X', hL, e1, e2, hq, hce, hcv, vx_cls hW₁ hcl, st⟩
end Runs
section Rows
variable {p : Program} {l : Launch} {e : Env} {R : Room} {s : State} {m : MethodId} {args : Array Value} {below : List Frame} {meth : Method} {c : Code} {H : Heap} {locs : List Loc} {cells slots : Nat} {Q : State → Prop}
variable {mc ms : Nat} {free : Addr → Prop} {A0 A1 : Nat → Prop} {H0 : Heap} {a : Array Value} {pc : Nat} {ls : Array Slot} {st0 rest : List Value}
theorem vx_keep {st₀ t T' : State} {L : List Loc} (h0 : st₀.heap = H) (e1 : T'.heap = t.heap) (hS : va_S A0 H0 H locs) (hA : ∀ q, q < H.size → A1 q → A0 q) (hf : ∀ q, free q → A0 q) (hL : ∀ q ∈ L, free q.base) (hF : va_F A1 st₀ t) :
    H.size ≤ T'.heap.size ∧ (∀ q : Nat, q < H.size → ¬ A1 q → T'.heap[q]? = H[q]?) ∧ va_S A0 H0 T'.heap (locs ++ L) := by
  obtain ⟨hz, hk⟩ := hF
  rw [h0] at hz hk
  exact ⟨by rw [e1]; exact hz, fun q h1 h2 => by rw [e1]; exact hk q h1 h2,
    ⟨Nat.le_trans hS.1 (by rw [e1]; exact hz), fun q h1 h2 => by rw [e1, hk q (Nat.lt_of_lt_of_le h1 hS.1) (fun z => h2 (hA q (Nat.lt_of_lt_of_le h1 hS.1) z))]; exact hS.2.1 q h1 h2, fun q hq => by
      rcases List.mem_append.mp hq with h | h
      · exact hS.2.2 q h
      · exact hf _ (hL q h)⟩⟩
theorem vx_calli {S SX : Type} {post : Int32 → S → Prop} {px : SX → Prop} {B : S → State → Prop} {BX : String → SX → State → Prop} {AX : Nat → Prop} (hr : vx_Run p l e R s m args below meth c H locs cells slots mc ms (F0 m pc ls st0) rest (va_Qi post B A1 a) (vx_X px BX AX) free) (hS : va_S A0 H0 H locs) (hA : ∀ q, q < H.size → A1 q → A0 q) (hf : ∀ q, free q → A0 q) (hAX : ∀ q, q < H.size → AX q → A0 q)
    (kx : ∀ (E : String) (ce : Cell) (q9 : Addr) (u : SX) (t : State) (H1 : Heap) (locs1 : List Loc), t.heap = H1 → s.vm.Alike t.vm → px u → BX E u t → H.size ≤ H1.size → (∀ q : Nat, q < H.size → ¬ AX q → H1[q]? = H[q]?) → va_S A0 H0 H1 locs1 → H1[q9]? = some ce → ce.vm = .none → s.vm.findClass E = some ce.cls → vx_W p l e R s m args below meth c H1 locs1 (cells + mc) (slots + ms) Q (F0 m pc ls rest) q9)
    (kk : ∀ (r : Int32) (u : S) (t : State) (H1 : Heap) (locs1 : List Loc), t.heap = H1 → s.vm.Alike t.vm → post r u → B u t → H.size ≤ H1.size → (∀ q : Nat, q < H.size → ¬ A1 q → H1[q]? = H[q]?) → va_S A0 H0 H1 locs1 → W p l e R s m args below meth c H1 locs1 (cells + mc) (slots + ms) Q (F0 m (pc + 3) ls (.int r :: rest))) : W p l e R s m args below meth c H locs cells slots Q (F0 m pc ls st0) := by
  intro T hT X
  rcases hr T hT X with ⟨v, st₀, t, T', L, h0, X', hL, e1, e2, ⟨⟨r, u, hv, hp, hb⟩, hF⟩, st⟩ | ⟨q, st₀, t, T', L, E, ce, h0, X', hL, e1, e2, ⟨u, hp, hb, hF⟩, hce, hcv, hcl, st⟩
  · cases hv
    obtain ⟨k1, k2, k3⟩ := vx_keep h0 e1 hS hA hf hL hF
    obtain ⟨t2, a1, b1⟩ := kk r u t T'.heap (locs ++ L) e1.symm (by rw [← e2]; exact X'.warmed.alike) hp hb k1 k2 k3 T' rfl X'
    exact ⟨t2, st t2 a1, b1⟩
  · obtain ⟨k1, k2, k3⟩ := vx_keep h0 e1 hS hAX hf hL hF
    obtain ⟨t2, a1, b1⟩ := kx E ce q u t T'.heap (locs ++ L) e1.symm (by rw [← e2]; exact X'.warmed.alike) hp hb k1 k2 k3 (by rw [e1]; exact hce) hcv hcl T' rfl X'
    exact ⟨t2, st.trans a1, b1⟩
theorem vx_calll {S SX : Type} {post : Int64 → S → Prop} {px : SX → Prop} {B : S → State → Prop} {BX : String → SX → State → Prop} {AX : Nat → Prop} (hr : vx_Run p l e R s m args below meth c H locs cells slots mc ms (F0 m pc ls st0) rest (va_Ql post B A1 a) (vx_X px BX AX) free) (hS : va_S A0 H0 H locs) (hA : ∀ q, q < H.size → A1 q → A0 q) (hf : ∀ q, free q → A0 q) (hAX : ∀ q, q < H.size → AX q → A0 q)
    (kx : ∀ (E : String) (ce : Cell) (q9 : Addr) (u : SX) (t : State) (H1 : Heap) (locs1 : List Loc), t.heap = H1 → s.vm.Alike t.vm → px u → BX E u t → H.size ≤ H1.size → (∀ q : Nat, q < H.size → ¬ AX q → H1[q]? = H[q]?) → va_S A0 H0 H1 locs1 → H1[q9]? = some ce → ce.vm = .none → s.vm.findClass E = some ce.cls → vx_W p l e R s m args below meth c H1 locs1 (cells + mc) (slots + ms) Q (F0 m pc ls rest) q9)
    (kk : ∀ (r : Int64) (u : S) (t : State) (H1 : Heap) (locs1 : List Loc), t.heap = H1 → s.vm.Alike t.vm → post r u → B u t → H.size ≤ H1.size → (∀ q : Nat, q < H.size → ¬ A1 q → H1[q]? = H[q]?) → va_S A0 H0 H1 locs1 → W p l e R s m args below meth c H1 locs1 (cells + mc) (slots + ms) Q (F0 m (pc + 3) ls (.long r :: rest))) : W p l e R s m args below meth c H locs cells slots Q (F0 m pc ls st0) := by
  intro T hT X
  rcases hr T hT X with ⟨v, st₀, t, T', L, h0, X', hL, e1, e2, ⟨⟨r, u, hv, hp, hb⟩, hF⟩, st⟩ | ⟨q, st₀, t, T', L, E, ce, h0, X', hL, e1, e2, ⟨u, hp, hb, hF⟩, hce, hcv, hcl, st⟩
  · cases hv
    obtain ⟨k1, k2, k3⟩ := vx_keep h0 e1 hS hA hf hL hF
    obtain ⟨t2, a1, b1⟩ := kk r u t T'.heap (locs ++ L) e1.symm (by rw [← e2]; exact X'.warmed.alike) hp hb k1 k2 k3 T' rfl X'
    exact ⟨t2, st t2 a1, b1⟩
  · obtain ⟨k1, k2, k3⟩ := vx_keep h0 e1 hS hAX hf hL hF
    obtain ⟨t2, a1, b1⟩ := kx E ce q u t T'.heap (locs ++ L) e1.symm (by rw [← e2]; exact X'.warmed.alike) hp hb k1 k2 k3 (by rw [e1]; exact hce) hcv hcl T' rfl X'
    exact ⟨t2, st.trans a1, b1⟩
theorem vx_callf {S SX : Type} {post : UInt32 → S → Prop} {px : SX → Prop} {B : S → State → Prop} {BX : String → SX → State → Prop} {AX : Nat → Prop} (hr : vx_Run p l e R s m args below meth c H locs cells slots mc ms (F0 m pc ls st0) rest (va_Qf post B A1 a) (vx_X px BX AX) free) (hS : va_S A0 H0 H locs) (hA : ∀ q, q < H.size → A1 q → A0 q) (hf : ∀ q, free q → A0 q) (hAX : ∀ q, q < H.size → AX q → A0 q)
    (kx : ∀ (E : String) (ce : Cell) (q9 : Addr) (u : SX) (t : State) (H1 : Heap) (locs1 : List Loc), t.heap = H1 → s.vm.Alike t.vm → px u → BX E u t → H.size ≤ H1.size → (∀ q : Nat, q < H.size → ¬ AX q → H1[q]? = H[q]?) → va_S A0 H0 H1 locs1 → H1[q9]? = some ce → ce.vm = .none → s.vm.findClass E = some ce.cls → vx_W p l e R s m args below meth c H1 locs1 (cells + mc) (slots + ms) Q (F0 m pc ls rest) q9)
    (kk : ∀ (r : UInt32) (u : S) (t : State) (H1 : Heap) (locs1 : List Loc), t.heap = H1 → s.vm.Alike t.vm → post r u → B u t → H.size ≤ H1.size → (∀ q : Nat, q < H.size → ¬ A1 q → H1[q]? = H[q]?) → va_S A0 H0 H1 locs1 → W p l e R s m args below meth c H1 locs1 (cells + mc) (slots + ms) Q (F0 m (pc + 3) ls (.float r :: rest))) : W p l e R s m args below meth c H locs cells slots Q (F0 m pc ls st0) := by
  intro T hT X
  rcases hr T hT X with ⟨v, st₀, t, T', L, h0, X', hL, e1, e2, ⟨⟨r, u, hv, hp, hb⟩, hF⟩, st⟩ | ⟨q, st₀, t, T', L, E, ce, h0, X', hL, e1, e2, ⟨u, hp, hb, hF⟩, hce, hcv, hcl, st⟩
  · cases hv
    obtain ⟨k1, k2, k3⟩ := vx_keep h0 e1 hS hA hf hL hF
    obtain ⟨t2, a1, b1⟩ := kk r u t T'.heap (locs ++ L) e1.symm (by rw [← e2]; exact X'.warmed.alike) hp hb k1 k2 k3 T' rfl X'
    exact ⟨t2, st t2 a1, b1⟩
  · obtain ⟨k1, k2, k3⟩ := vx_keep h0 e1 hS hAX hf hL hF
    obtain ⟨t2, a1, b1⟩ := kx E ce q u t T'.heap (locs ++ L) e1.symm (by rw [← e2]; exact X'.warmed.alike) hp hb k1 k2 k3 (by rw [e1]; exact hce) hcv hcl T' rfl X'
    exact ⟨t2, st.trans a1, b1⟩
theorem vx_calld {S SX : Type} {post : UInt64 → S → Prop} {px : SX → Prop} {B : S → State → Prop} {BX : String → SX → State → Prop} {AX : Nat → Prop} (hr : vx_Run p l e R s m args below meth c H locs cells slots mc ms (F0 m pc ls st0) rest (va_Qd post B A1 a) (vx_X px BX AX) free) (hS : va_S A0 H0 H locs) (hA : ∀ q, q < H.size → A1 q → A0 q) (hf : ∀ q, free q → A0 q) (hAX : ∀ q, q < H.size → AX q → A0 q)
    (kx : ∀ (E : String) (ce : Cell) (q9 : Addr) (u : SX) (t : State) (H1 : Heap) (locs1 : List Loc), t.heap = H1 → s.vm.Alike t.vm → px u → BX E u t → H.size ≤ H1.size → (∀ q : Nat, q < H.size → ¬ AX q → H1[q]? = H[q]?) → va_S A0 H0 H1 locs1 → H1[q9]? = some ce → ce.vm = .none → s.vm.findClass E = some ce.cls → vx_W p l e R s m args below meth c H1 locs1 (cells + mc) (slots + ms) Q (F0 m pc ls rest) q9)
    (kk : ∀ (r : UInt64) (u : S) (t : State) (H1 : Heap) (locs1 : List Loc), t.heap = H1 → s.vm.Alike t.vm → post r u → B u t → H.size ≤ H1.size → (∀ q : Nat, q < H.size → ¬ A1 q → H1[q]? = H[q]?) → va_S A0 H0 H1 locs1 → W p l e R s m args below meth c H1 locs1 (cells + mc) (slots + ms) Q (F0 m (pc + 3) ls (.double r :: rest))) : W p l e R s m args below meth c H locs cells slots Q (F0 m pc ls st0) := by
  intro T hT X
  rcases hr T hT X with ⟨v, st₀, t, T', L, h0, X', hL, e1, e2, ⟨⟨r, u, hv, hp, hb⟩, hF⟩, st⟩ | ⟨q, st₀, t, T', L, E, ce, h0, X', hL, e1, e2, ⟨u, hp, hb, hF⟩, hce, hcv, hcl, st⟩
  · cases hv
    obtain ⟨k1, k2, k3⟩ := vx_keep h0 e1 hS hA hf hL hF
    obtain ⟨t2, a1, b1⟩ := kk r u t T'.heap (locs ++ L) e1.symm (by rw [← e2]; exact X'.warmed.alike) hp hb k1 k2 k3 T' rfl X'
    exact ⟨t2, st t2 a1, b1⟩
  · obtain ⟨k1, k2, k3⟩ := vx_keep h0 e1 hS hAX hf hL hF
    obtain ⟨t2, a1, b1⟩ := kx E ce q u t T'.heap (locs ++ L) e1.symm (by rw [← e2]; exact X'.warmed.alike) hp hb k1 k2 k3 (by rw [e1]; exact hce) hcv hcl T' rfl X'
    exact ⟨t2, st.trans a1, b1⟩
theorem vx_callv {S SX : Type} {post : S → Prop} {px : SX → Prop} {B : S → State → Prop} {BX : String → SX → State → Prop} {AX : Nat → Prop} (hr : vx_Run p l e R s m args below meth c H locs cells slots mc ms (F0 m pc ls st0) rest (va_Qv post B A1 a) (vx_X px BX AX) free) (hS : va_S A0 H0 H locs) (hA : ∀ q, q < H.size → A1 q → A0 q) (hf : ∀ q, free q → A0 q) (hAX : ∀ q, q < H.size → AX q → A0 q)
    (kx : ∀ (E : String) (ce : Cell) (q9 : Addr) (u : SX) (t : State) (H1 : Heap) (locs1 : List Loc), t.heap = H1 → s.vm.Alike t.vm → px u → BX E u t → H.size ≤ H1.size → (∀ q : Nat, q < H.size → ¬ AX q → H1[q]? = H[q]?) → va_S A0 H0 H1 locs1 → H1[q9]? = some ce → ce.vm = .none → s.vm.findClass E = some ce.cls → vx_W p l e R s m args below meth c H1 locs1 (cells + mc) (slots + ms) Q (F0 m pc ls rest) q9)
    (kk : ∀ (u : S) (t : State) (H1 : Heap) (locs1 : List Loc), t.heap = H1 → s.vm.Alike t.vm → post u → B u t → H.size ≤ H1.size → (∀ q : Nat, q < H.size → ¬ A1 q → H1[q]? = H[q]?) → va_S A0 H0 H1 locs1 → W p l e R s m args below meth c H1 locs1 (cells + mc) (slots + ms) Q (F0 m (pc + 3) ls (rest))) : W p l e R s m args below meth c H locs cells slots Q (F0 m pc ls st0) := by
  intro T hT X
  rcases hr T hT X with ⟨v, st₀, t, T', L, h0, X', hL, e1, e2, ⟨⟨u, hv, hp, hb⟩, hF⟩, st⟩ | ⟨q, st₀, t, T', L, E, ce, h0, X', hL, e1, e2, ⟨u, hp, hb, hF⟩, hce, hcv, hcl, st⟩
  · cases hv
    obtain ⟨k1, k2, k3⟩ := vx_keep h0 e1 hS hA hf hL hF
    obtain ⟨t2, a1, b1⟩ := kk u t T'.heap (locs ++ L) e1.symm (by rw [← e2]; exact X'.warmed.alike) hp hb k1 k2 k3 T' rfl X'
    exact ⟨t2, st t2 a1, b1⟩
  · obtain ⟨k1, k2, k3⟩ := vx_keep h0 e1 hS hAX hf hL hF
    obtain ⟨t2, a1, b1⟩ := kx E ce q u t T'.heap (locs ++ L) e1.symm (by rw [← e2]; exact X'.warmed.alike) hp hb k1 k2 k3 (by rw [e1]; exact hce) hcv hcl T' rfl X'
    exact ⟨t2, st.trans a1, b1⟩
/-- caught by the row x of this method's table; the rows ahead don't take it -/
theorem vx_catch {own name : String} {E : String} {ce : Cell} {q : Addr} (hown : s.vm.findClass own = some m.cls) (pre : List ExceptionTableEntry) (x : ExceptionTableEntry) (suf : List ExceptionTableEntry) (hsplit : c.exceptionTable.toList = pre ++ x :: suf)
    (hpass : ∀ z ∈ pre, covers z pc = false ∨ (z.catchType ≠ 0 ∧ ∃ nm : String, (Cond.classLink own z.catchType nm).before args s = true ∧ va_Nc E nm s)) (hx : covers x pc = true) (h0 : x.catchType ≠ 0)
    (hlink : (Cond.classLink own x.catchType name).before args s = true) (hcast : (Cond.castable E name).before args s = true) (hcell : H[q]? = some ce) (hv : ce.vm = .none) (hcl : s.vm.findClass E = some ce.cls)
    (kk : W p l e R s m args below meth c H locs cells slots Q (F0 m x.handlerPc ls [.ref q])) : vx_W p l e R s m args below meth c H locs cells slots Q (F0 m pc ls rest) q := by
  intro T hT X
  have hpl : e.platform.magicAccessors = ({} : Platform).magicAccessors := by rw [X.admits.platform]
  obtain ⟨c3, c4, hc3, hc4, hasg⟩ := Cond.castable_spec hcast
  cases Option.some.inj (hc3.symm.trans hcl)
  obtain ⟨c5, hc5, hcl5⟩ := Cond.classLink_spec hown hlink e.platform hpl
  cases Option.some.inj (hc4.symm.trans hc5)
  obtain ⟨vm', X', st⟩ := X.thenCaughtThrough q (g := F0 m pc ls rest) rfl (Steps.refl _) (by rw [hT]; exact hcell) (by rw [hv]; rfl) (by obtain ⟨k9, h9, -⟩ := Vm.findClass_spec hcl; exact ⟨k9, h9⟩) pre x suf hsplit
    (fun z hz => by
      rcases hpass z hz with h | ⟨hz0, nm, hl1, hn1⟩
      · exact Or.inl h
      · obtain ⟨c6, hc6, hcl6⟩ := Cond.classLink_spec hown hl1 e.platform hpl
        obtain ⟨a8, b8, h1, h2, h3⟩ := hn1
        cases Option.some.inj (h1.symm.trans hcl)
        cases Option.some.inj (h2.symm.trans hc6)
        exact Or.inr ⟨hz0, _, hcl6, h3⟩) hx (Or.inr ⟨h0, c4, hcl5, hasg⟩)
  obtain ⟨t, a1, b1⟩ := kk (T.setVm vm') hT X'
  exact ⟨t, st.trans a1, b1⟩
end Rows
section Ends
variable {p : Program} {l : Launch} {e : Env} {R : Room} {s : State} {m : MethodId} {args : Array Value} {below : List Frame} {meth : Method} {c : Code} {H : Heap} {locs : List Loc} {cells slots : Nat} {Q : State → Prop}
variable {mc ms : Nat} {free : Addr → Prop} {A0 A1 : Nat → Prop} {H0 : Heap} {a : Array Value} {ls : Array Slot} {st0 rest : List Value}
variable {Qc : Array Value → State → Outcome → State → Prop} {XC : String → State → State → Prop}
/-- what a body that may throw owes at its end -/
def vx_MQ (below : List Frame) (Qc : Array Value → State → Outcome → State → Prop) (XC : String → State → State → Prop) (a : Array Value) (s : State) (mc ms : Nat) (free : Addr → Prop) : State → Prop := fun t =>
  ∃ o, t.status = .running ∧ Ended t below o ∧ vx_Q Qc XC mc ms free a s o t
theorem vx_ret {g : JFrame} {mc ms : Nat} (k : W p l e R s m args below meth c H locs cells slots (MQ below Qc args s mc ms free) g) : W p l e R s m args below meth c H locs cells slots (vx_MQ below Qc XC args s mc ms free) g := by
  intro T hT X
  obtain ⟨t, a1, o, b1, b2, b3, b4⟩ := k T hT X
  exact ⟨t, a1, o, b1, b2, Or.inl ⟨b3, b4⟩⟩
/-- not caught here: it goes on to the caller -/
theorem vx_widen {g : JFrame} {q : Addr} {k n : Nat} (h1 : cells ≤ k) (h2 : slots ≤ n) (kk : vx_W p l e R s m args below meth c H locs k n Q g q) : vx_W p l e R s m args below meth c H locs cells slots Q g q := fun T hT X => kk T hT (stand_widen X h1 h2)
theorem vx_out {pc : Nat} {E : String} {ce : Cell} {q : Addr} {mc ms : Nat} (hout : ∀ x ∈ c.exceptionTable.toList, covers x pc = false) (hlocks : meth.locks = false) (hcell : H[q]? = some ce) (hv : ce.vm = .none) (hcl : s.vm.findClass E = some ce.cls)
    (hx : ∀ t : State, t.heap = H → s.vm.Alike t.vm → XC E s t) (hf : ∀ z ∈ locs, free z.base) (hc : cells ≤ mc) (hs : slots ≤ ms) :
    vx_W p l e R s m args below meth c H locs cells slots (vx_MQ below Qc XC args s mc ms free) (F0 m pc ls rest) q := by
  intro T hT X
  obtain ⟨st1, hrun, hend, hW, hsm⟩ := X.leaveThrown q (g := F0 m pc ls rest) rfl rfl rfl hout hlocks
  have hcell9 : (T.setFrames (.throwing q :: below)).heap[q]? = some ce := by
    show T.heap[q]? = some ce
    rw [hT]; exact hcell
  exact ⟨_, st1, .threw q, hrun, hend, Or.inr ⟨q, rfl, E, ce, locs, hx _ hT hW.alike, hcell9, hv, hcl, hW, hsm.mono hc hs, hf⟩⟩
theorem vx_frame {U : State} {k n : Nat} (h : s.sameButNew ({ U with vm := s.vm } : State) locs k n) : s.heap.size ≤ U.heap.size ∧ ∀ q : Nat, q < s.heap.size → (∀ z ∈ locs, z.base ≠ q) → U.heap[q]? = s.heap[q]? := by
  obtain ⟨-, h2, -, -, -, h6⟩ := h
  refine ⟨h2, fun q hq hz => ?_⟩
  obtain ⟨c9, e1, e2, e3, e4⟩ := h6 q _ (Array.getElem?_eq_getElem hq)
  have hs : c9.slots = (s.heap[q]).slots := Array.ext_getElem? fun i => e4 i fun hm => hz _ hm rfl
  have h9 : c9 = s.heap[q] := by
    rw [hs] at e2
    exact e2
  have e5 : U.heap[q]? = some c9 := e1
  rw [e5, h9, Array.getElem?_eq_getElem hq]
/-- the words of a throw but the four that speak of the heap -/
def vx_no (w : Cond) : Bool := decide (w ≠ .isRef (.static Bundle.tN "UNASSIGNED_STACK" Bundle.steD)) && decide (w ≠ .isRef (.static Bundle.tN "SUPPRESSED_SENTINEL" Bundle.listD)) && decide (w ≠ .laysStatic Bundle.tN "UNASSIGNED_STACK" Bundle.steD) && decide (w ≠ .laysStatic Bundle.tN "SUPPRESSED_SENTINEL" Bundle.listD)
def vx_at0 (own : String) (ic : Nat) (X : String) (names : List String) : List Cond := (Bundle.ownAtoms0 own ic X names).filter vx_no
def vx_atS (own : String) (ic : Nat) (X : String) (names : List String) : List Cond := (Bundle.ownAtoms own ic X names).filter vx_no
/-- a word that the tables alone decide, or a good one -/
def vx_ot (w : Cond) : Bool := w.onTables || goodWord w
theorem vx_ot_at {args a' : Array Value} {s U : State} {w : Cond} (hW : s.WarmedH U.vm) (hvm : s.vm = U.vm) (hg : vx_ot w = true) (h : w.before args s = true) : w.before a' U = true := by
  simp only [vx_ot, Bool.or_eq_true] at hg
  rcases hg with hg | hg
  · exact va_tabs hg hvm h
  · exact word_at hW (good_of_word hg) h
/-- a list's words: the good ones out of the method's own list, the others by premises of their own -/
theorem vx_hat {args : Array Value} {s : State} {L B : List Cond} (h1 : ∀ w ∈ L.filter goodWord, w.before args s = true) (h2 : ∀ w ∈ L.filter (fun w => !goodWord w), w ∈ B) (h3 : ∀ w ∈ B, w.before args s = true) : ∀ w ∈ L, w.before args s = true := by
  intro w hw
  by_cases g : goodWord w = true
  · exact h1 w (List.mem_filter.mpr ⟨hw, g⟩)
  · refine h3 w (h2 w (List.mem_filter.mpr ⟨hw, ?_⟩))
    show (!goodWord w) = true
    cases hgw : goodWord w
    · rfl
    · exact absurd hgw g
theorem vx_c {args : Array Value} {s : State} {w : Cond} {B : List Cond} (h : w.before args s = true) (t : ∀ w ∈ B, w.before args s = true) : ∀ w' ∈ w :: B, w'.before args s = true := fun w' h' => (List.mem_cons.mp h').elim (fun e => by rw [e]; exact h) (t w')
theorem vx_n {args : Array Value} {s : State} : ∀ w ∈ ([] : List Cond), w.before args s = true := fun _ h => nomatch h
theorem vx_own {args : Array Value} {s : State} {L : List Cond} (h1 : ∀ w ∈ L.filter vx_no, w.before args s = true)
    (hU : (Cond.isRef (.static Bundle.tN "UNASSIGNED_STACK" Bundle.steD)).before args s = true) (hN : (Cond.isRef (.static Bundle.tN "SUPPRESSED_SENTINEL" Bundle.listD)).before args s = true)
    (lU : (Cond.laysStatic Bundle.tN "UNASSIGNED_STACK" Bundle.steD).before args s = true) (lN : (Cond.laysStatic Bundle.tN "SUPPRESSED_SENTINEL" Bundle.listD).before args s = true) : ∀ w ∈ L, w.before args s = true := by
  intro w hw
  by_cases e1 : w = .isRef (.static Bundle.tN "UNASSIGNED_STACK" Bundle.steD)
  · rw [e1]; exact hU
  · by_cases e2 : w = .isRef (.static Bundle.tN "SUPPRESSED_SENTINEL" Bundle.listD)
    · rw [e2]; exact hN
    · by_cases e3 : w = .laysStatic Bundle.tN "UNASSIGNED_STACK" Bundle.steD
      · rw [e3]; exact lU
      · by_cases e4 : w = .laysStatic Bundle.tN "SUPPRESSED_SENTINEL" Bundle.listD
        · rw [e4]; exact lN
        · exact h1 w (List.mem_filter.mpr ⟨hw, by unfold vx_no; rw [decide_eq_true e1, decide_eq_true e2, decide_eq_true e3, decide_eq_true e4]; rfl⟩)
/-- where a static field lies, its class's statics cell in H -/
def vx_L (C n d : String) (A : Nat → Prop) (U : State) (H : Heap) : Prop := ∃ (c : ClassId) (k : Class) (i : Nat) (f : Field) (a : Nat) (cell : Cell), U.vm.findClass C = some c ∧ U.fieldFound? C n d = some (c, k, i, f) ∧ f.isStatic = true ∧ k.statics = some a ∧ H[a]? = some cell ∧ cell.vm.isStatics = true ∧ cell.cls = c ∧ f.slot < cell.slots.size ∧ k.staticTypes[f.slot]? = some f.type ∧ ¬ A a
theorem vx_L.moved {C n d : String} {A : Nat → Prop} {u U : State} {H : Heap} (hvm : u.vm.Alike U.vm) (h : vx_L C n d A u H) : vx_L C n d A U H := by
  obtain ⟨c, k, i, f, a, cell, h1, h2, h3, h4, h5, h6, h7, h8, h9, h10⟩ := h
  obtain ⟨k', hi', he⟩ := State.fieldFound?_setVm hvm h2
  exact ⟨c, k', i, f, a, cell, by rw [hvm.findClass]; exact h1, hi', h3, by rw [he]; exact h4, h5, h6, h7, h8, by rw [he]; exact h9, h10⟩
theorem vx_L.kept {C n d : String} {A : Nat → Prop} {U : State} {H H1 : Heap} (h : vx_L C n d A U H) (hq : ∀ a : Nat, a < H.size → ¬ A a → H1[a]? = H[a]?) : vx_L C n d A U H1 := by
  obtain ⟨c, k, i, f, a, cell, h1, h2, h3, h4, h5, h6, h7, h8, h9, h10⟩ := h
  exact ⟨c, k, i, f, a, cell, h1, h2, h3, h4, by rw [hq a (Array.getElem?_eq_some_iff.mp h5).1 h10]; exact h5, h6, h7, h8, h9, h10⟩
theorem vx_L.narrow {C n d : String} {A B : Nat → Prop} {U : State} {H : Heap} (h : vx_L C n d A U H) (hAB : ∀ q, B q → A q) : vx_L C n d B U H := by
  obtain ⟨c, k, i, f, a, cell, h1, h2, h3, h4, h5, h6, h7, h8, h9, h10⟩ := h
  exact ⟨c, k, i, f, a, cell, h1, h2, h3, h4, h5, h6, h7, h8, h9, fun z => h10 (hAB _ z)⟩
theorem vx_L.word {C n d : String} {A : Nat → Prop} {s : State} {args : Array Value} (h : vx_L C n d A s s.heap) : (Cond.laysStatic C n d).before args s = true := by
  obtain ⟨c, k, i, f, a, cell, h1, h2, h3, h4, h5, h6, h7, h8, h9, -⟩ := h
  show (Cond.laysStatic C n d).holds args s none s [] = true
  exact Cond.laysStatic_of h1 h2 h3 h4 h5 h6 h7 h8 h9
/-- .. and what it holds: null or some reference -/
def vx_Zq (C n d : String) (A : Nat → Prop) (U : State) (H : Heap) : Prop := va_Zq C n d A U H ∧ vx_L C n d A U H
theorem vx_Zq.moved {C n d : String} {A : Nat → Prop} {u U : State} {H : Heap} (hvm : u.vm.Alike U.vm) (h : vx_Zq C n d A u H) : vx_Zq C n d A U H := ⟨va_Zq.moved hvm h.1, vx_L.moved hvm h.2⟩
theorem vx_Zq.kept {C n d : String} {A : Nat → Prop} {U : State} {H H1 : Heap} (h : vx_Zq C n d A U H) (hq : ∀ a : Nat, a < H.size → ¬ A a → H1[a]? = H[a]?) : vx_Zq C n d A U H1 := ⟨va_Zq.kept h.1 hq, vx_L.kept h.2 hq⟩
theorem vx_Zq.narrow {C n d : String} {A B : Nat → Prop} {U : State} {H : Heap} (h : vx_Zq C n d A U H) (hAB : ∀ q, B q → A q) : vx_Zq C n d B U H := ⟨va_Zq.narrow h.1 hAB, vx_L.narrow h.2 hAB⟩
theorem vx_Zqof {args : Array Value} {s : State} {C n d : String} {A : Nat → Prop} (hl : (Cond.laysStatic C n d).before args s = true) (hini : (Cond.initialized C).before args s = true) (h : (Cond.isRef (.static C n d)).before args s = true) (hA : ∀ a : Nat, a < s.heap.size → ¬ A a) : vx_Zq C n d A s s.heap := by
  refine ⟨va_Zqof hl hini h hA, ?_⟩
  obtain ⟨c, k, i, f, a, cell, h1, h2, h3, h4, h5, h6, h7, h8, h9⟩ := Cond.laysStatic_spec hl
  exact ⟨c, k, i, f, a, cell, h1, h2, h3, h4, h5, h6, h7, h8, h9, hA a (Array.getElem?_eq_some_iff.mp h5).1⟩
theorem vx_isRef {C n d : String} {v : Value} {A : Nat → Prop} {s : State} {args : Array Value} (h : va_Z C n d v A s s.heap) (hv : v.isRef = true) : (Cond.isRef (.static C n d)).before args s = true := by
  obtain ⟨cf, kf, fi, f, a, cell, h1, h2, h3, h4, h5, h6, h7, -⟩ := h
  have he : (Term.static C n d).eval args s none [] s = some v := by
    simp [Term.eval, State.fieldNamed?, h1, h2, h4, h5, h6, h7]
  simp only [Cond.before, Cond.holds, Cond.value, he]
  cases v <;> simp_all [Value.isRef]
theorem vx_isRefq {C n d : String} {A : Nat → Prop} {s : State} {args : Array Value} (h : va_Zq C n d A s s.heap) : (Cond.isRef (.static C n d)).before args s = true := by
  rcases h with h | ⟨t, h⟩
  · exact vx_isRef h rfl
  · exact vx_isRef h rfl
/-- the same frame, seen from here: as if the method were called anew in this heap -/
theorem vx_rebase {T : State} (X : Stand p l e R s m args below meth c T locs cells slots) {R' : Room} (hf : R'.frames ≤ R.frames) (hl : R'.locals ≤ R.locals) (hc : cells + R'.cells ≤ R.cells) (hs : slots + R'.slots ≤ R.slots) :
    Stand p l e R' ((T.setVm s.vm).setFrames (.invoking m args :: below)) m args below meth c T [] 0 0 := by
  have htop : (T.setVm s.vm).topJava?.isSome := X.here.top
  have hF : ((T.setVm s.vm).setFrames (.invoking m args :: below)).frames = .invoking m args :: below := State.frames_setFrames _ (State.cur_lt_of_top htop)
  obtain ⟨g₀, hg0⟩ := Option.isSome_iff_exists.mp htop
  obtain ⟨r, hr⟩ := State.topJava?_eq_some.mp hg0
  have hl9 : e.platform.stackLimits (T.setVm s.vm).me = e.platform.stackLimits s.me := X.limits
  have hb9 : (T.setVm s.vm).me.stackBytes = s.me.stackBytes := X.bytes
  refine ⟨X.admits, X.cas, X.clock, hF, ?_, X.hears, X.method, X.code, X.here, X.tail, X.warmed, ?_, ?_, ?_⟩
  · have h := X.room
    have hU : ((T.setVm s.vm).setFrames (.invoking m args :: below)).localsInUse = s.localsInUse := by
      rw [State.localsInUse_invoking hF (meth := meth) (c := c) X.method X.code, State.localsInUse_invoking X.frames X.method X.code]
    simp only [State.hasRoom, Bool.and_eq_true, decide_eq_true_eq] at h ⊢
    obtain ⟨⟨⟨⟨h1, h2, h3, h4, h5, h6⟩, h7⟩, h8⟩, h9⟩ := h
    rw [X.frames, List.length_cons] at h2 h3
    have q1 := X.heapSize
    have q2 := X.used
    simp only [hF, hU, List.length_cons, State.stackLimits_setFrames, State.stackBytes_setFrames, hl9, hb9]
    refine ⟨⟨⟨⟨by omega, by omega, by omega, by omega, by omega, h6⟩, ?_⟩, ?_⟩, X.book⟩
    · show T.heap.size + R'.cells ≤ e.platform.maxCells
      omega
    · show T.slotsUsed + R'.slots ≤ e.platform.maxSlots
      omega
  · rw [State.stackLimits_setFrames]; rfl
  · rw [State.stackBytes_setFrames]; rfl
  · refine ⟨?_, Nat.le_refl _, Nat.le_refl _, ?_, ?_, fun a c9 h9 => ⟨c9, h9, rfl, rfl, fun _ _ => rfl⟩⟩
    · obtain ⟨t, ht, -⟩ := State.frames_cons hr
      show T.setVm s.vm = { ((T.setVm s.vm).setFrames (.invoking m args :: below)).setFrames (T.setVm s.vm).frames with heap := T.heap, slotsUsed := T.slotsUsed }
      rw [State.setFrames_setFrames, State.setFrames_self ht]
      rfl
    · show T.slotsUsed = T.slotsUsed + ((T.heap.toList.drop T.heap.size).map (·.slots.size)).sum
      rw [List.drop_eq_nil_of_le (Nat.le_of_eq Array.length_toList)]
      rfl
    · show ((T.heap.toList.drop T.heap.size).map (·.slots.size)).sum ≤ 0
      rw [List.drop_eq_nil_of_le (Nat.le_of_eq Array.length_toList)]
      exact Nat.le_refl _
/-- 'throw new E()': new; dup; invokespecial; athrow -/
theorem vx_throw0 {cc : ByteArray} {pc : Nat} (hexec : p.tables.exec = Jvm.exec) (hb : c.code = cc) (hl : l.stackTraces = false) {own cls : String} {names : List String} {ik ic mc ms : Nat} {A : Nat → Prop}
    (hown : s.vm.findClass own = some m.cls) (hcls : Bundle.fit cls = true) (hnames : ∀ n ∈ names, Bundle.fit n = true)
    (hk : (Cond.classLink own ik cls).before args s = true) (hini : (Cond.initialized cls).before args s = true) (hat : ∀ w ∈ vx_at0 own ic cls names, w.before args s = true)
    (hgood : ∀ w ∈ Cond.classLink own ik cls :: Cond.initialized cls :: vx_at0 own ic cls names, vx_ot w = true)
    (hU : vx_Zq Bundle.tN "UNASSIGNED_STACK" Bundle.steD A s s.heap) (hN : vx_Zq Bundle.tN "SUPPRESSED_SENTINEL" Bundle.listD A s s.heap) (hS : va_S A s.heap H locs) (hsize : ls.size = c.maxLocals)
    (d0 : decode cc pc = .ok (.new ik, 3)) (d3 : decode cc (pc + 3) = .ok (.dup, 1)) (d4 : decode cc (pc + 4) = .ok (.invokespecial ic, 3)) (d7 : decode cc (pc + 7) = .ok (.athrow, 1))
    (hout : ∀ x ∈ c.exceptionTable.toList, covers x (pc + 7) = false)
    (hRframes : names.length + 3 < R.frames) (hRlocals : (rest.map fun v => v.category).sum + (13 * (names.length + 1) + 42) ≤ R.locals) (hRcells : cells + 1 ≤ R.cells) (hRslots : slots + 6 ≤ R.slots) (hlocks : meth.locks = false)
    (hx : ∀ t : State, s.vm.Alike t.vm → H.size ≤ t.heap.size → (∀ q : Nat, q < H.size → t.heap[q]? = H[q]?) → XC cls s t)
    (hf : ∀ z ∈ locs, free z.base) (hc : cells + 1 ≤ mc) (hs : slots + 6 ≤ ms) :
    W p l e R s m args below meth c H locs cells slots (vx_MQ below Qc XC args s mc ms free) (F0 m pc ls rest) := by
  intro T hT X
  have htr : e.platform.stackTraces = false := (show e.platform.stackTraces = l.stackTraces by rw [X.admits.platform]).trans hl
  have Y := vx_rebase X (R' := { frames := R.frames, locals := R.locals, cells := 1, slots := 6 }) (Nat.le_refl _) (Nat.le_refl _) hRcells hRslots
  obtain ⟨s', hA⟩ : ∃ z, z = (T.setVm s.vm).setFrames (.invoking m args :: below) := ⟨_, rfl⟩
  rw [← hA] at Y
  have hvm : s'.vm = s.vm := by rw [hA]; rfl
  have hhp : s'.heap = H := by rw [hA]; exact hT
  have hW0 : s.WarmedH s'.vm := by rw [hvm]; exact State.WarmedH.refl s
  have hat' : ∀ w ∈ vx_at0 own ic cls names, w.before args s' = true := fun w hw => vx_ot_at hW0 hvm.symm (hgood w (List.mem_cons_of_mem _ (List.mem_cons_of_mem _ hw))) (hat w hw)
  have hk' : (Cond.classLink own ik cls).before args s' = true := vx_ot_at hW0 hvm.symm (hgood _ List.mem_cons_self) hk
  have hini' : (Cond.initialized cls).before args s' = true := vx_ot_at hW0 hvm.symm (hgood _ (List.mem_cons_of_mem _ List.mem_cons_self)) hini
  have hU' : vx_Zq Bundle.tN "UNASSIGNED_STACK" Bundle.steD A s' s'.heap := by rw [hhp]; exact vx_Zq.moved hW0.alike (hU.kept hS.2.1)
  have hN' : vx_Zq Bundle.tN "SUPPRESSED_SENTINEL" Bundle.listD A s' s'.heap := by rw [hhp]; exact vx_Zq.moved hW0.alike (hN.kept hS.2.1)
  have h : ∀ w ∈ Bundle.ownAtoms0 own ic cls names, w.before args s' = true := vx_own hat' (vx_isRefq hU'.1) (vx_isRefq hN'.1) hU'.2.word hN'.2.word
  have hown' : s'.vm.findClass own = some m.cls := by rw [hvm]; exact hown
  have hins : (Cond.instantiable cls 6).before args s' = true := h _ (by simp [Bundle.ownAtoms0])
  obtain ⟨vm₁, cX, kX, hfX, hkX, -, -, X₁, st1⟩ := Y.newCold hexec (own := own) (C := cls) (index := ik) (n := 6) hown' hk' hins hini'
    (g := F0 m pc ls rest) rfl (by rw [hb]; exact d0) (Nat.le_refl _) (Nat.le_refl _)
  generalize hT1 : (T.setVm vm₁).pushCell { cls := cX, slots := kX.instanceTypes.map defaultValue, vm := .none } = T1 at X₁ st1
  have hcat : (Value.ref T.heap.size).category = 1 := rfl
  have hcellA : T1.heap[T.heap.size]? = some (freshCell cX kX) := by rw [← hT1]; exact State.heap_pushCell_size _ _
  have d3' : decode c.code (pc + 3) = .ok (.dup, 1) := by rw [hb]; exact d3
  obtain ⟨U, hsteps, hrun, hend, hW, hsame, ce, hce, hO⟩ := X₁.ctorThrow0 hexec htr (own := own) (cls := cls) (names := names) (ic := ic) hown' hcls hnames h (fun x hx => nomatch hx) hfX hkX hcellA (by rw [hhp, hT]; exact Nat.le_refl _)
    (g := { method := m, pc := pc + 4, locals := ls, stack := .ref T.heap.size :: .ref T.heap.size :: rest, locked := none }) rfl hsize rfl rfl (rest := rest) rfl
    (by rw [hb]; exact d4) (by rw [hb]; exact d7) hout hRframes (by simp only [List.map_cons, List.sum_cons, hcat]; omega) hlocks
  obtain ⟨f1, f2⟩ := vx_frame hsame
  rw [hhp] at f1 f2
  have hWs : s.WarmedH U.vm := State.WarmedH.trans hW0 hW
  have hcl : s.vm.findClass cls = some ce.cls := by
    have h9 := hO.cls
    rw [hvm] at h9
    exact h9
  have hall : s.sameButNew ({ U with vm := s.vm } : State) locs mc ms := by
    subst hA
    obtain ⟨e1, e2⟩ := hsame
    rw [State.setFrames_setFrames] at e1
    have h2 : (T.setVm s.vm).sameButNew ({ U with vm := s.vm } : State) [] (0 + 1) (0 + 6) := ⟨e1, e2⟩
    have h3 := X.same.trans h2
    rw [List.append_nil] at h3
    exact h3.mono hc hs
  refine ⟨U, ?_, .threw T.heap.size, hrun, hend, Or.inr ⟨T.heap.size, rfl, cls, ce, locs, hx U hWs.alike f1 (fun q hq => f2 q hq (fun z hz => nomatch hz)), hce, hO.vm, hcl, hWs, hall, hf⟩⟩
  refine st1 _ ?_
  show Steps p.tables e below (T1.setTop { method := m, pc := pc + 3, locals := ls, stack := .ref T.heap.size :: rest, locked := none }) _
  jvm_step X₁.here [X₁.here.top, hexec, d3', Value.category]
  exact hsteps
/-- 'throw new E("text")': new; dup; ldc; invokespecial; athrow -/
theorem vx_throwS {cc : ByteArray} {pc : Nat} (hexec : p.tables.exec = Jvm.exec) (hb : c.code = cc) (hl : l.stackTraces = false) {own cls text : String} {names : List String} {ik is ic mc ms sa : Nat} {A : Nat → Prop}
    (hown : s.vm.findClass own = some m.cls) (hcls : Bundle.fit cls = true) (hnames : ∀ n ∈ names, Bundle.fit n = true)
    (hk : (Cond.classLink own ik cls).before args s = true) (hini : (Cond.initialized cls).before args s = true) (hstr : vk_R own is text sa s) (hat : ∀ w ∈ vx_atS own ic cls names, w.before args s = true)
    (hgood : ∀ w ∈ Cond.classLink own ik cls :: Cond.initialized cls :: vx_atS own ic cls names, vx_ot w = true)
    (hU : vx_Zq Bundle.tN "UNASSIGNED_STACK" Bundle.steD A s s.heap) (hN : vx_Zq Bundle.tN "SUPPRESSED_SENTINEL" Bundle.listD A s s.heap) (hS : va_S A s.heap H locs) (hsize : ls.size = c.maxLocals)
    (d0 : decode cc pc = .ok (.new ik, 3)) (d3 : decode cc (pc + 3) = .ok (.dup, 1)) (d4 : decode cc (pc + 4) = .ok (.ldc is, 2)) (d6 : decode cc (pc + 6) = .ok (.invokespecial ic, 3)) (d9 : decode cc (pc + 9) = .ok (.athrow, 1))
    (hout : ∀ x ∈ c.exceptionTable.toList, covers x (pc + 9) = false)
    (hRframes : names.length + 3 < R.frames) (hRlocals : (rest.map fun v => v.category).sum + (13 * (names.length + 1) + 43) ≤ R.locals) (hRcells : cells + 1 ≤ R.cells) (hRslots : slots + 6 ≤ R.slots) (hlocks : meth.locks = false)
    (hx : ∀ t : State, s.vm.Alike t.vm → H.size ≤ t.heap.size → (∀ q : Nat, q < H.size → t.heap[q]? = H[q]?) → XC cls s t)
    (hf : ∀ z ∈ locs, free z.base) (hc : cells + 1 ≤ mc) (hs : slots + 6 ≤ ms) :
    W p l e R s m args below meth c H locs cells slots (vx_MQ below Qc XC args s mc ms free) (F0 m pc ls rest) := by
  intro T hT X
  have htr : e.platform.stackTraces = false := (show e.platform.stackTraces = l.stackTraces by rw [X.admits.platform]).trans hl
  have Y := vx_rebase X (R' := { frames := R.frames, locals := R.locals, cells := 1, slots := 6 }) (Nat.le_refl _) (Nat.le_refl _) hRcells hRslots
  obtain ⟨s', hA⟩ : ∃ z, z = (T.setVm s.vm).setFrames (.invoking m args :: below) := ⟨_, rfl⟩
  rw [← hA] at Y
  have hvm : s'.vm = s.vm := by rw [hA]; rfl
  have hhp : s'.heap = H := by rw [hA]; exact hT
  have hW0 : s.WarmedH s'.vm := by rw [hvm]; exact State.WarmedH.refl s
  have hat' : ∀ w ∈ vx_atS own ic cls names, w.before args s' = true := fun w hw => vx_ot_at hW0 hvm.symm (hgood w (List.mem_cons_of_mem _ (List.mem_cons_of_mem _ hw))) (hat w hw)
  have hk' : (Cond.classLink own ik cls).before args s' = true := vx_ot_at hW0 hvm.symm (hgood _ List.mem_cons_self) hk
  have hini' : (Cond.initialized cls).before args s' = true := vx_ot_at hW0 hvm.symm (hgood _ (List.mem_cons_of_mem _ List.mem_cons_self)) hini
  have hU' : vx_Zq Bundle.tN "UNASSIGNED_STACK" Bundle.steD A s' s'.heap := by rw [hhp]; exact vx_Zq.moved hW0.alike (hU.kept hS.2.1)
  have hN' : vx_Zq Bundle.tN "SUPPRESSED_SENTINEL" Bundle.listD A s' s'.heap := by rw [hhp]; exact vx_Zq.moved hW0.alike (hN.kept hS.2.1)
  have h : ∀ w ∈ Bundle.ownAtoms own ic cls names, w.before args s' = true := vx_own hat' (vx_isRefq hU'.1) (vx_isRefq hN'.1) hU'.2.word hN'.2.word
  have hown' : s'.vm.findClass own = some m.cls := by rw [hvm]; exact hown
  have hins : (Cond.instantiable cls 6).before args s' = true := h _ (by simp [Bundle.ownAtoms])
  obtain ⟨vm₁, cX, kX, hfX, hkX, -, -, X₁, st1⟩ := Y.newCold hexec (own := own) (C := cls) (index := ik) (n := 6) hown' hk' hins hini'
    (g := F0 m pc ls rest) rfl (by rw [hb]; exact d0) (Nat.le_refl _) (Nat.le_refl _)
  generalize hT1 : (T.setVm vm₁).pushCell { cls := cX, slots := kX.instanceTypes.map defaultValue, vm := .none } = T1 at X₁ st1
  have hcat : (Value.ref T.heap.size).category = 1 := rfl
  have hcellA : T1.heap[T.heap.size]? = some (freshCell cX kX) := by rw [← hT1]; exact State.heap_pushCell_size _ _
  have d3' : decode c.code (pc + 3) = .ok (.dup, 1) := by rw [hb]; exact d3
  have d4' : decode c.code (pc + 4) = .ok (.ldc is, 2) := by rw [hb]; exact d4
  have hstr' : vk_R own is text sa s' := vk_R.warm hW0 hstr
  obtain ⟨U, hsteps, hrun, hend, hW, hsame, ce, hce, hO⟩ := X₁.ctorThrowS hexec htr (own := own) (cls := cls) (names := names) (ic := ic) hown' hcls hnames h (fun x hx => nomatch hx) hfX hkX hcellA (by rw [hhp, hT]; exact Nat.le_refl _) (msg := .ref sa) rfl
    (g := { method := m, pc := pc + 6, locals := ls, stack := .ref sa :: .ref T.heap.size :: .ref T.heap.size :: rest, locked := none }) rfl hsize rfl rfl (rest := rest) rfl
    (by rw [hb]; exact d6) (by rw [hb]; exact d9) hout hRframes (by simp only [List.map_cons, List.sum_cons, hcat]; omega) hlocks
  obtain ⟨f1, f2⟩ := vx_frame hsame
  rw [hhp] at f1 f2
  have hWs : s.WarmedH U.vm := State.WarmedH.trans hW0 hW
  have hcl : s.vm.findClass cls = some ce.cls := by
    have h9 := hO.cls
    rw [hvm] at h9
    exact h9
  have hall : s.sameButNew ({ U with vm := s.vm } : State) locs mc ms := by
    subst hA
    obtain ⟨e1, e2⟩ := hsame
    rw [State.setFrames_setFrames] at e1
    have h2 : (T.setVm s.vm).sameButNew ({ U with vm := s.vm } : State) [] (0 + 1) (0 + 6) := ⟨e1, e2⟩
    have h3 := X.same.trans h2
    rw [List.append_nil] at h3
    exact h3.mono hc hs
  refine ⟨U, ?_, .threw T.heap.size, hrun, hend, Or.inr ⟨T.heap.size, rfl, cls, ce, locs, hx U hWs.alike f1 (fun q hq => f2 q hq (fun z hz => nomatch hz)), hce, hO.vm, hcl, hWs, hall, hf⟩⟩
  refine st1 _ ?_
  show Steps p.tables e below (T1.setTop { method := m, pc := pc + 3, locals := ls, stack := .ref T.heap.size :: rest, locked := none }) _
  jvm_step X₁.here [X₁.here.top, hexec, d3', Value.category]
  exact X₁.ldcString hexec (own := own) (text := text) (index := is) (a := sa) hown' hstr'.1 hstr'.2
    (g := { method := m, pc := pc + 4, locals := ls, stack := .ref T.heap.size :: .ref T.heap.size :: rest, locked := none }) rfl d4' _ hsteps
/-- 'throw new E("text")', the text by a wide index -/
theorem vx_throwSW {cc : ByteArray} {pc : Nat} (hexec : p.tables.exec = Jvm.exec) (hb : c.code = cc) (hl : l.stackTraces = false) {own cls text : String} {names : List String} {ik is ic mc ms sa : Nat} {A : Nat → Prop}
    (hown : s.vm.findClass own = some m.cls) (hcls : Bundle.fit cls = true) (hnames : ∀ n ∈ names, Bundle.fit n = true)
    (hk : (Cond.classLink own ik cls).before args s = true) (hini : (Cond.initialized cls).before args s = true) (hstr : vk_R own is text sa s) (hat : ∀ w ∈ vx_atS own ic cls names, w.before args s = true)
    (hgood : ∀ w ∈ Cond.classLink own ik cls :: Cond.initialized cls :: vx_atS own ic cls names, vx_ot w = true)
    (hU : vx_Zq Bundle.tN "UNASSIGNED_STACK" Bundle.steD A s s.heap) (hN : vx_Zq Bundle.tN "SUPPRESSED_SENTINEL" Bundle.listD A s s.heap) (hS : va_S A s.heap H locs) (hsize : ls.size = c.maxLocals)
    (d0 : decode cc pc = .ok (.new ik, 3)) (d3 : decode cc (pc + 3) = .ok (.dup, 1)) (d4 : decode cc (pc + 4) = .ok (.ldc_w is, 3)) (d7 : decode cc (pc + 7) = .ok (.invokespecial ic, 3)) (d10 : decode cc (pc + 10) = .ok (.athrow, 1))
    (hout : ∀ x ∈ c.exceptionTable.toList, covers x (pc + 10) = false)
    (hRframes : names.length + 3 < R.frames) (hRlocals : (rest.map fun v => v.category).sum + (13 * (names.length + 1) + 43) ≤ R.locals) (hRcells : cells + 1 ≤ R.cells) (hRslots : slots + 6 ≤ R.slots) (hlocks : meth.locks = false)
    (hx : ∀ t : State, s.vm.Alike t.vm → H.size ≤ t.heap.size → (∀ q : Nat, q < H.size → t.heap[q]? = H[q]?) → XC cls s t)
    (hf : ∀ z ∈ locs, free z.base) (hc : cells + 1 ≤ mc) (hs : slots + 6 ≤ ms) :
    W p l e R s m args below meth c H locs cells slots (vx_MQ below Qc XC args s mc ms free) (F0 m pc ls rest) := by
  intro T hT X
  have htr : e.platform.stackTraces = false := (show e.platform.stackTraces = l.stackTraces by rw [X.admits.platform]).trans hl
  have Y := vx_rebase X (R' := { frames := R.frames, locals := R.locals, cells := 1, slots := 6 }) (Nat.le_refl _) (Nat.le_refl _) hRcells hRslots
  obtain ⟨s', hA⟩ : ∃ z, z = (T.setVm s.vm).setFrames (.invoking m args :: below) := ⟨_, rfl⟩
  rw [← hA] at Y
  have hvm : s'.vm = s.vm := by rw [hA]; rfl
  have hhp : s'.heap = H := by rw [hA]; exact hT
  have hW0 : s.WarmedH s'.vm := by rw [hvm]; exact State.WarmedH.refl s
  have hat' : ∀ w ∈ vx_atS own ic cls names, w.before args s' = true := fun w hw => vx_ot_at hW0 hvm.symm (hgood w (List.mem_cons_of_mem _ (List.mem_cons_of_mem _ hw))) (hat w hw)
  have hk' : (Cond.classLink own ik cls).before args s' = true := vx_ot_at hW0 hvm.symm (hgood _ List.mem_cons_self) hk
  have hini' : (Cond.initialized cls).before args s' = true := vx_ot_at hW0 hvm.symm (hgood _ (List.mem_cons_of_mem _ List.mem_cons_self)) hini
  have hU' : vx_Zq Bundle.tN "UNASSIGNED_STACK" Bundle.steD A s' s'.heap := by rw [hhp]; exact vx_Zq.moved hW0.alike (hU.kept hS.2.1)
  have hN' : vx_Zq Bundle.tN "SUPPRESSED_SENTINEL" Bundle.listD A s' s'.heap := by rw [hhp]; exact vx_Zq.moved hW0.alike (hN.kept hS.2.1)
  have h : ∀ w ∈ Bundle.ownAtoms own ic cls names, w.before args s' = true := vx_own hat' (vx_isRefq hU'.1) (vx_isRefq hN'.1) hU'.2.word hN'.2.word
  have hown' : s'.vm.findClass own = some m.cls := by rw [hvm]; exact hown
  have hins : (Cond.instantiable cls 6).before args s' = true := h _ (by simp [Bundle.ownAtoms])
  obtain ⟨vm₁, cX, kX, hfX, hkX, -, -, X₁, st1⟩ := Y.newCold hexec (own := own) (C := cls) (index := ik) (n := 6) hown' hk' hins hini'
    (g := F0 m pc ls rest) rfl (by rw [hb]; exact d0) (Nat.le_refl _) (Nat.le_refl _)
  generalize hT1 : (T.setVm vm₁).pushCell { cls := cX, slots := kX.instanceTypes.map defaultValue, vm := .none } = T1 at X₁ st1
  have hcat : (Value.ref T.heap.size).category = 1 := rfl
  have hcellA : T1.heap[T.heap.size]? = some (freshCell cX kX) := by rw [← hT1]; exact State.heap_pushCell_size _ _
  have d3' : decode c.code (pc + 3) = .ok (.dup, 1) := by rw [hb]; exact d3
  have d4' : decode c.code (pc + 4) = .ok (.ldc_w is, 3) := by rw [hb]; exact d4
  have hstr' : vk_R own is text sa s' := vk_R.warm hW0 hstr
  obtain ⟨U, hsteps, hrun, hend, hW, hsame, ce, hce, hO⟩ := X₁.ctorThrowS hexec htr (own := own) (cls := cls) (names := names) (ic := ic) hown' hcls hnames h (fun x hx => nomatch hx) hfX hkX hcellA (by rw [hhp, hT]; exact Nat.le_refl _) (msg := .ref sa) rfl
    (g := { method := m, pc := pc + 7, locals := ls, stack := .ref sa :: .ref T.heap.size :: .ref T.heap.size :: rest, locked := none }) rfl hsize rfl rfl (rest := rest) rfl
    (by rw [hb]; exact d7) (by rw [hb]; exact d10) hout hRframes (by simp only [List.map_cons, List.sum_cons, hcat]; omega) hlocks
  obtain ⟨f1, f2⟩ := vx_frame hsame
  rw [hhp] at f1 f2
  have hWs : s.WarmedH U.vm := State.WarmedH.trans hW0 hW
  have hcl : s.vm.findClass cls = some ce.cls := by
    have h9 := hO.cls
    rw [hvm] at h9
    exact h9
  have hall : s.sameButNew ({ U with vm := s.vm } : State) locs mc ms := by
    subst hA
    obtain ⟨e1, e2⟩ := hsame
    rw [State.setFrames_setFrames] at e1
    have h2 : (T.setVm s.vm).sameButNew ({ U with vm := s.vm } : State) [] (0 + 1) (0 + 6) := ⟨e1, e2⟩
    have h3 := X.same.trans h2
    rw [List.append_nil] at h3
    exact h3.mono hc hs
  refine ⟨U, ?_, .threw T.heap.size, hrun, hend, Or.inr ⟨T.heap.size, rfl, cls, ce, locs, hx U hWs.alike f1 (fun q hq => f2 q hq (fun z hz => nomatch hz)), hce, hO.vm, hcl, hWs, hall, hf⟩⟩
  refine st1 _ ?_
  show Steps p.tables e below (T1.setTop { method := m, pc := pc + 3, locals := ls, stack := .ref T.heap.size :: rest, locked := none }) _
  jvm_step X₁.here [X₁.here.top, hexec, d3', Value.category]
  exact X₁.ldcStringW hexec (own := own) (text := text) (index := is) (a := sa) hown' hstr'.1 hstr'.2
    (g := { method := m, pc := pc + 4, locals := ls, stack := .ref T.heap.size :: .ref T.heap.size :: rest, locked := none }) rfl d4' _ hsteps
end Ends
section Bodies
variable {l : Launch}
theorem vx_ofW {y : MethodName} {ws ws' : List Cond} {rm : Room} {Pc : Array Value → State → Prop} {Qc : Array Value → State → Outcome → State → Prop} {XC : String → State → State → Prop} {mc ms : Nat} {free : Addr → Prop} {cc : ByteArray} {maxL : Nat} {ret : Option FieldType}
    (hy : plainName y.cls = true) (hw : ws = Cond.code y cc maxL ret :: ws')
    (body : ∀ p e s m args below meth c s₁, BodyLoose p l y (headSpec ws rm) cc maxL ret e s m args below meth c s₁ → c.maxLocals = maxL → (∀ x ∈ c.exceptionTable.toList, False) → Pc args s →
      W p l e (headSpec ws rm).room s m args below meth c s.heap [] 0 0 (vx_MQ below Qc XC args s mc ms free) (entryFrame m args maxL)) : vx_Met l y ws rm Pc Qc XC mc ms free := by
  refine MetFree.of_bodyS (code := cc) (maxLocals := maxL) (ret := ret) hy ?_ ?_
  · intro args s m h hn
    obtain ⟨meth, c, h1, h2, h3, h4, h5, h6, -, -⟩ := Cond.code_spec hn (atoms_spec (ws := ws) h _ (by rw [hw]; exact List.mem_cons_self))
    exact ⟨meth, c, h1, h2, h3, h4, h5, h6⟩
  · intro p e s m args below meth c s₁ B hml hP _
    have hh0 : s₁.heap = s.heap := by rw [B.state]; rfl
    have ht : ∀ x ∈ c.exceptionTable.toList, False := by
      obtain ⟨meth9, c9, h1, h2, -, -, -, -, h7, -⟩ := Cond.code_spec B.named (atoms_spec (ws := ws) B.pre _ (by rw [hw]; exact List.mem_cons_self))
      cases Option.some.inj (h1.symm.trans B.method)
      cases Option.some.inj (h2.symm.trans (Stand.of_body B).code)
      intro x hx
      rw [Array.isEmpty_iff.mp h7] at hx
      cases hx
    obtain ⟨t, a1, o, b1, b2, b3⟩ := body p e s m args below meth c s₁ B hml ht hP s₁ hh0 (Stand.of_body B)
    exact ⟨t, o, a1, b1, b2, b3⟩
/-- the table of a body with handlers -/
theorem vx_table {p : Program} {x y : MethodName} {S : Spec} {cc bytes : ByteArray} {maxL maxL' : Nat} {ret ret' : Option FieldType} {e : Env} {s s₁ : State} {m : MethodId} {args : Array Value} {below : List Frame} {meth : Method} {c : Code} {hh : List (Nat × Nat × Nat × Nat)}
    (B : BodyLoose p l y S cc maxL ret e s m args below meth c s₁) (h : (Cond.codeWith y bytes maxL' ret' hh).before args s = true) : c.exceptionTable.toList = tableOf hh := by
  obtain ⟨m9, meth9, c9, hn9, h1, h2, -, -, h6, -⟩ := Cond.codeWith_spec h
  cases Option.some.inj (hn9.symm.trans B.named)
  cases Option.some.inj (h1.symm.trans B.method)
  cases Option.some.inj (h2.symm.trans (Stand.of_body B).code)
  rw [← h6, table_eq]
end Bodies
end VXA
/-! ===== END ===== -/
/-! ===== BEGIN a static call of a method with an exception table ===== -/
section VXS
variable {p : Program} {l : Launch} {e : Env} {R : Room} {s : State} {m : MethodId} {args : Array Value} {below : List Frame} {meth : Method} {c : Code} {T : State} {H : Heap} {locs : List Loc} {cells slots : Nat}
abbrev vx_CSW (R : Room) (s : State) (args : Array Value) (own : String) (index : Nat) (y : MethodName) (bytes : ByteArray) (maxL : Nat) (ret : Option FieldType) (hh : List (Nat × Nat × Nat × Nat)) (ws : List Cond) (rm : Room) (mc ms n : Nat) : Prop :=
  (rm.cells = mc ∧ rm.slots = ms ∧ rm.frames + 1 ≤ R.frames ∧ 8 + (maxL + 11) + rm.locals ≤ R.locals ∧ (∀ w ∈ ws, ∀ (a' : Array Value) (U : State), s.WarmedH U.vm → w.before a' U = true) ∧ Cond.codeWith y bytes maxL ret hh ∈ ws) ∧
  (Cond.codeWith y bytes maxL ret hh).before args s = true ∧ (Cond.initialized y.cls).before args s = true ∧ (y.cls ≠ "java/lang/invoke/MethodHandle" ∧ y.cls ≠ "java/lang/invoke/VarHandle") ∧
  (∀ sig, parseMethodDescriptor y.desc = some sig → n = sig.parameters.length) ∧ (Cond.methodLink own index y).before args s = true ∧ (Cond.static y).before args s = true
theorem vx_cwSW {own : String} {index maxL mc ms : Nat} {y : MethodName} {bytes : ByteArray} {ret : Option FieldType} {hh : List (Nat × Nat × Nat × Nat)} {Ts ws ws' : List Cond} {rm : Room} (n : Nat) (ht : ∀ w ∈ Ts, w.before args s = true) (hT : GoodIn Ts (va_wsS own index y ws)) (hw : ws = Cond.codeWith y bytes maxL ret hh :: ws') (hrc : rm.cells = mc) (hrs : rm.slots = ms)
    (hd : y.cls ≠ "java/lang/invoke/MethodHandle" ∧ y.cls ≠ "java/lang/invoke/VarHandle" ∧ (parseMethodDescriptor y.desc).map (fun d => d.parameters.length) = some n) (hR : rm.frames + 1 ≤ R.frames ∧ 8 + (maxL + 11) + rm.locals ≤ R.locals) :
    vx_CSW R s args own index y bytes maxL ret hh ws rm mc ms n := by
  have ok : ∀ w ∈ va_wsS own index y ws, w.before args s = true := fun w h => ht w (hT w h).1
  have hG : GoodIn Ts ws := fun w h => hT w (by unfold va_wsS; exact List.mem_append_right _ h)
  have hc : Cond.codeWith y bytes maxL ret hh ∈ ws := by rw [hw]; exact List.mem_cons_self
  refine ⟨⟨hrc, hrs, hR.1, hR.2, pay_in ht hG, hc⟩, ht _ (hG _ hc).1, ok _ (by simp [va_wsS]), ⟨hd.1, hd.2.1⟩, fun sig h => ?_, ok _ (by simp [va_wsS]), ok _ (by simp [va_wsS])⟩
  have h2 := hd.2.2
  rw [h] at h2
  exact (Option.some.inj h2).symm
theorem vx_callSW (X : Stand p l e R s m args below meth c T locs cells slots) (hexec : p.tables.exec = Jvm.exec) {own : String} {index : Nat} {y : MethodName} {bytes : ByteArray} {maxL : Nat} {ret : Option FieldType} {hh : List (Nat × Nat × Nat × Nat)}
    (hown : s.vm.findClass own = some m.cls) (hlink : (Cond.methodLink own index y).before args s = true) (hstat : (Cond.static y).before args s = true) (hinit : (Cond.initialized y.cls).before args s = true)
    (hcode : (Cond.codeWith y bytes maxL ret hh).before args s = true) (hy : y.cls ≠ "java/lang/invoke/MethodHandle" ∧ y.cls ≠ "java/lang/invoke/VarHandle")
    {W9 : Nat} {Pre : Pt → Array Value → Prop} {Post : Pt → Array Value → Option Value → Pt → Prop} (hK : Back l R p e below s args y 3 W9 Pre Post)
    {g : JFrame} (hg : g.method = m) (hsize : g.locals.size = c.maxLocals) {argsL rest : List Value} (hlen : ∀ sig, parseMethodDescriptor y.desc = some sig → argsL.length = sig.parameters.length)
    (hstack : g.stack = argsL.reverse ++ rest) (hW : 2 * g.monitorRoom + (rest.map fun v => v.category).sum ≤ W9) (hdg : decode c.code g.pc = .ok (.invokestatic index, 3))
    (hpre : ∀ vm₁, s.WarmedH vm₁ → Pre ⟨T.setVm vm₁, locs, cells, slots⟩ argsL.toArray) :
    ∃ (v : Option Value) (vm₁ : Vm) (B : Pt), s.WarmedH vm₁ ∧ Stand p l e R s m args below meth c B.U B.locs B.cells B.slots ∧ Post ⟨T.setVm vm₁, locs, cells, slots⟩ argsL.toArray v B ∧
      ∀ target, Steps p.tables e below (B.U.setTop { g with pc := g.pc + 3, stack := v.toList ++ rest }) target → Steps p.tables e below (T.setTop g) target := by
  obtain ⟨mk, methM, cM, hnamed, hmethM, -, -, -, -, -, -, hsigM⟩ := Cond.codeWith_spec hcode
  have hstatic : methM.isStatic = true := Cond.static_spec hnamed hmethM hstat
  obtain ⟨kP, hkP, -⟩ := className_of_methodNamed hnamed
  have hinitP : kP.init = .initialized := Cond.initialized_spec (findClass_of_methodNamed hnamed) hkP hinit
  obtain ⟨vm₁, X₁, hstep₁⟩ := X.invokestatic hexec hown hlink hnamed hmethM hstatic hkP hinitP hy (g := g) hg (argsL := argsL) (rest := rest) (hlen _ hsigM) hstack hdg
  obtain ⟨v, B, X', hpost, hsteps⟩ := hK m meth c ⟨T.setVm vm₁, locs, cells, slots⟩ { g with stack := rest } (.invokestatic index) mk argsL.toArray X₁ hg hsize hdg hW (X₁.named hnamed) (hpre vm₁ X₁.warmed)
  exact ⟨v, vm₁, B, X₁.warmed, X', hpost, fun target h => hstep₁ _ fun acts => by rw [doInvoke_state]; exact hsteps.trans h⟩
theorem vx_runSW {y : MethodName} {bytes cc : ByteArray} {maxL nL mc ms n index : Nat} {ret : Option FieldType} {hh : List (Nat × Nat × Nat × Nat)} {ws : List Cond} {rm : Room} {Pc : Array Value → State → Prop} {Qc : Array Value → State → Outcome → State → Prop} {free : Addr → Prop} {Ts : List Cond} {own : String} {As rest : List Value} {g : JFrame}
    (S : CallFix p m c cc nL s args Ts own) (hM : Met l y ws rm Pc Qc mc ms free) (cw : vx_CSW R s args own index y bytes maxL ret hh ws rm mc ms n) (hp : PreS s H Pc As)
    (hg : g.method = m) (hn : As.length = n) (hsize : g.locals.size = nL) (hstack : g.stack = As.reverse ++ rest) (hW : 2 * g.monitorRoom + (rest.map fun v => v.category).sum ≤ 8) (hdg : decode cc g.pc = .ok (.invokestatic index, 3)) (hf : cells + mc ≤ R.cells ∧ slots + ms ≤ R.slots) :
    va_Run p l e R s m args below meth c H locs cells slots mc ms g rest (Qc As.toArray) (free) := by
  obtain ⟨⟨hrc, hrs, hfr, hlo, hws, hcw⟩, hcode, hini, hy, hlen, hl, hstt⟩ := cw
  have hK : Back l R p e below s args y 3 8 (PreOf R mc ms Pc) (PostOf Qc mc ms free) := va_backW (hh := hh) (bytes := bytes) (maxL := maxL) (ret := ret) hM hp.1 hrc hrs hfr hlo hws hcw (fun a' U hW => word_at hW (Or.inl (by first | rfl | simp [Cond.onTables, Cond.keeps, Cond.steady])) hini)
  obtain ⟨hx, hb, hml, ho, -⟩ := S
  intro T hT X
  obtain ⟨v, vm₁, ⟨U', l2, c2, s2⟩, hW₁, X', ⟨g', mk, t, L, e1, e2, hq, h1, hL, h2, h3⟩, st⟩ := vx_callSW X hx (hh := hh) (bytes := bytes) (maxL := maxL) (ret := ret) ho hl hstt hini hcode hy hK hg (hsize.trans hml.symm) (argsL := As) (rest := rest) (fun sig h => hn.trans (hlen sig h)) hstack hW (by rw [hb]; exact hdg)
    (fun vm₁ hW₁ => ⟨hf.1, hf.2, hp.2 (T.setVm vm₁) hT hW₁⟩)
  dsimp only [Pt.U, Pt.locs, Pt.cells, Pt.slots] at X' e1 e2 h1 h2 h3 st
  subst h1; subst h2; subst h3
  exact ⟨v, (T.setVm vm₁).calling g' mk As.toArray, t, U', L, hT, X', hL, e1, e2, hq, st⟩
/-- not caught here, past rows that name other classes: it goes on to the caller -/
theorem vx_outP {p : Program} {l : Launch} {e : Env} {R : Room} {s : State} {m : MethodId} {args : Array Value} {below : List Frame} {meth : Method} {c : Code} {H : Heap} {locs : List Loc} {cells slots : Nat} {free : Addr → Prop} {ls : Array Slot} {rest : List Value} {Qc : Array Value → State → Outcome → State → Prop} {XC : String → State → State → Prop}
    {pc : Nat} {own E : String} {ce : Cell} {q : Addr} {mc ms : Nat} (hown : s.vm.findClass own = some m.cls) (hlocks : meth.locks = false)
    (hpass : ∀ z ∈ c.exceptionTable.toList, covers z pc = false ∨ (z.catchType ≠ 0 ∧ ∃ nm : String, (Cond.classLink own z.catchType nm).before args s = true ∧ va_Nc E nm s)) (hcell : H[q]? = some ce) (hv : ce.vm = .none) (hcl : s.vm.findClass E = some ce.cls)
    (hx : ∀ t : State, t.heap = H → s.vm.Alike t.vm → XC E s t) (hf : ∀ z ∈ locs, free z.base) (hc : cells ≤ mc) (hs : slots ≤ ms) :
    vx_W p l e R s m args below meth c H locs cells slots (vx_MQ below Qc XC args s mc ms free) (F0 m pc ls rest) q := by
  intro T hT X
  have hpl : e.platform.magicAccessors = ({} : Platform).magicAccessors := by rw [X.admits.platform]
  obtain ⟨vm', hW', X', st⟩ := X.outThrough hlocks q (g := F0 m pc ls rest) rfl rfl rfl (cell := ce) (by rw [hT]; exact hcell) (by rw [hv]; rfl)
    (by obtain ⟨k9, h9, -⟩ := Vm.findClass_spec hcl; exact ⟨k9, h9⟩) (fun z hz => by
      rcases hpass z hz with h | ⟨hz0, nm, hl1, hn1⟩
      · exact Or.inl h
      · obtain ⟨c6, hc6, hcl6⟩ := Cond.classLink_spec hown hl1 e.platform hpl
        obtain ⟨a8, b8, h1, h2, h3⟩ := hn1
        cases Option.some.inj (h1.symm.trans hcl)
        cases Option.some.inj (h2.symm.trans hc6)
        exact Or.inr ⟨hz0, _, hcl6, h3⟩)
  obtain ⟨g₀, hfr⟩ := X'.frames_eq
  have hcell9 : ((T.setVm vm').setFrames (.throwing q :: below)).heap[q]? = some ce := by
    show T.heap[q]? = some ce
    rw [hT]; exact hcell
  have hend : Ended ((T.setVm vm').setFrames (.throwing q :: below)) below (.threw q) := State.frames_setFrames _ (State.cur_lt_of_frames hfr)
  refine ⟨(T.setVm vm').setFrames (.throwing q :: below), ?_, .threw q, X'.here.running, hend, Or.inr ⟨q, rfl, E, ce, locs, hx _ hT (X'.ends _).1.alike, hcell9, hv, hcl, (X'.ends _).1, (X'.ends _).2.mono hc hs, hf⟩⟩
  rw [X.pushThrowing_eq]
  exact st
/-- a thing of a world lies in the heap -/
theorem vx_lt {D : va_G} {cl : List vw_C} {ws : va_W} {H1 : Heap} (h : va_P D cl ws H1) {k : Nat} {q : Nat × va_E} (hk : ws[k]? = some q) : q.1 < H1.size := (h k q hk).lt
end VXS
/-! ===== END ===== -/
/-! ===== BEGIN methods with a table of their own: called by a name, returning or throwing ===== -/
section VXH
/-! vx_backW, vx_callVX, vx_callSX, vx_callVW, vx_runVW, vx_runVX, vx_runSX, vx_ofWH follow the same proofs as their sisters above (Free/Laws.lean, Shelf42/LK1.lean); vx_outP calls Shelf42/NT130.lean (outThrough). -/
section
variable {l : Launch} {R : Room} {p : Program} {e : Env} {below : List Frame} {s : State} {sargs : Array Value} {y : MethodName} {len W9 : Nat}
theorem vx_backW {ws : List Cond} {rm : Room} {Pc : Array Value → State → Prop} {Qc : Array Value → State → Outcome → State → Prop} {XC : String → State → State → Prop} {mc ms : Nat} {free : Addr → Prop} {bytes : ByteArray} {maxL : Nat} {ret : Option FieldType} {hh : List (Nat × Nat × Nat × Nat)}
    (hM : vx_Met l y ws rm Pc Qc XC mc ms free) (hblind : FrameBlind Pc) (hrc : rm.cells = mc) (hrs : rm.slots = ms)
    (hframes : rm.frames + 1 ≤ R.frames) (hlocals : W9 + (maxL + 11) + rm.locals ≤ R.locals)
    (hws : ∀ w ∈ ws, ∀ a' U, s.WarmedH U.vm → w.before a' U = true) (hcode : Cond.codeWith y bytes maxL ret hh ∈ ws) (hinit : ∀ a' U, s.WarmedH U.vm → (Cond.initialized y.cls).before a' U = true) :
    vx_Back l R p e below s sargs y len W9 (PreOf R mc ms Pc) (PostOf Qc mc ms free) (vx_Post XC mc ms free) := by
  intro m meth c A g ig mk a X hg hsize hdg hW hn hp
  have h1 : (headSpec ws rm).pre.before a A.U = true := atoms_intro fun w hw => hws w hw _ _ X.warmed
  have h2 : (Cond.codeWith y bytes maxL ret hh).before a A.U = true := hws _ hcode _ _ X.warmed
  have h3 : (Cond.initialized y.cls).before a A.U = true := hinit _ _ X.warmed
  have h4 : A.cells + (headSpec ws rm).room.cells ≤ R.cells := by rw [show (headSpec ws rm).room.cells = mc from hrc]; exact hp.1
  have h5 : A.slots + (headSpec ws rm).room.slots ≤ R.slots := by rw [show (headSpec ws rm).room.slots = ms from hrs]; exact hp.2.1
  have hPc : Pc a (A.U.calling g mk a) := hblind _ _ _ _ hp.2.2
  obtain ⟨U, Ls, c0, s0⟩ := A
  dsimp only [Pt.U, Pt.locs, Pt.cells, Pt.slots] at h1 h2 h3 h4 h5 X hn hPc ⊢
  obtain ⟨m9, methY, cY, hn9, hmY, hcY, -, hlY, -⟩ := Cond.codeWith_spec h2
  cases Option.some.inj (hn9.symm.trans hn)
  obtain ⟨kY, hkY, -⟩ := className_of_methodNamed hn
  have hinitY : kY.init = .initialized := Cond.initialized_spec (findClass_of_methodNamed hn) hkY h3
  have h : At U g.method c below := by rw [hg]; exact X.here
  have hlocals9 : W9 + (maxL + 11) + (headSpec ws rm).room.locals ≤ R.locals := hlocals
  have happ : (headSpec ws rm).appliesLoose y e.platform (U.calling g mk a) = true :=
    Spec.appliesLoose_calling (g := g) h hdg hn hkY hinitY
      (X.room_calling (g := g) (R' := (headSpec ws rm).room) hsize hmY hcY hframes (by rw [hlY]; omega) h4 h5) h1
  obtain ⟨mid, hmid⟩ := h.above
  have hfr : (U.setTop g).frames = (.java g :: mid) ++ below := by rw [State.frames_setTop' g h.top, hmid]; rfl
  obtain ⟨o, s₂, hsteps, -, hend, hq⟩ := Steps.callFree hM p X.admits X.cas X.clock (acts := []) hfr happ hPc trivial
  have hq' : vx_Q Qc XC mc ms free a (U.calling g mk a) o s₂ := hq
  rw [State.frames_setTop' g h.top] at hend
  obtain ⟨g₀, hg0⟩ := Option.isSome_iff_exists.mp h.top
  obtain ⟨r, hr⟩ := State.topJava?_eq_some.mp hg0
  have hr' : (({ U with heap := s₂.heap, slotsUsed := s₂.slotsUsed } : State).setVm s₂.vm).frames = .java g₀ :: r := hr
  rcases hq' with ⟨hqc, L, hfe, hL⟩ | ⟨q, rfl, E, ce, L, hx, hce, hcv, hcl, hW₂, hsm, hL⟩
  · obtain ⟨⟨v, rfl⟩, hW₂, e2, q2, q3, q4, q5, q6⟩ := id hfe
    have e3 : s₂ = ({ (U.calling g mk a).setFrames s₂.frames with heap := s₂.heap, slotsUsed := s₂.slotsUsed } : State).setVm s₂.vm := by
      have : s₂ = ({ s₂ with vm := (U.calling g mk a).vm } : State).setVm s₂.vm := rfl
      rw [e2] at this
      exact this
    obtain ⟨c₂, i₂, len₂, hc₂, hd₂, hf₂⟩ := hend
    have hW' : U.WarmedH s₂.vm := hW₂
    have hcc : c₂ = c := by
      have h1 : s₂.code? g.method = U.code? g.method := by
        rw [State.code?_eq, State.code?_eq, hW'.alike.method?]
      exact Option.some.inj (hc₂.symm.trans (h1.trans h.code))
    subst hcc
    have hlen : len₂ = len := by rw [hdg] at hd₂; cases hd₂; rfl
    subst hlen
    have hs₂ : s₂ = (({ U with heap := s₂.heap, slotsUsed := s₂.slotsUsed } : State).setVm s₂.vm).setTop { g with pc := g.pc + len₂, stack := v.toList ++ g.stack } := by
      refine e3.trans ?_
      rw [hf₂, State.calling_eq h.top, State.setFrames_setFrames, State.setTop_of_frames _ hr', hr]
      rfl
    have hsame : U.sameButNew ({ U with heap := s₂.heap, slotsUsed := s₂.slotsUsed } : State) L mc ms := by
      refine ⟨?_, q2, q3, q4, q5, q6⟩
      obtain ⟨t, ht, -⟩ := State.frames_cons hr
      show ({ U with heap := s₂.heap, slotsUsed := s₂.slotsUsed } : State) = { U.setFrames U.frames with heap := s₂.heap, slotsUsed := s₂.slotsUsed }
      rw [State.setFrames_self ht]
    subst hg
    refine Or.inl ⟨v, ⟨(({ U with heap := s₂.heap, slotsUsed := s₂.slotsUsed } : State).setVm s₂.vm), Ls ++ L, c0 + mc, s0 + ms⟩,
      ⟨X.admits, X.cas, X.clock, X.frames, X.room, X.hears, X.method, X.code, (X.here.setHeapUsed s₂.heap s₂.slotsUsed).setVm hW'.alike, X.tail, State.WarmedH.trans X.warmed hW', X.limits, X.bytes, X.same.trans (hsame.setVm s.vm)⟩,
      ⟨g, mk, s₂, L, rfl, rfl, hqc, rfl, hL, rfl, rfl⟩, ?_⟩
    show Steps p.tables e below _ ((({ U with heap := s₂.heap, slotsUsed := s₂.slotsUsed } : State).setVm s₂.vm).setTop { g with pc := g.pc + len₂, stack := v.toList ++ g.stack })
    rw [← hs₂]
    exact hsteps
  · obtain ⟨e2, q2, q3, q4, q5, q6⟩ := id hsm
    have e3 : s₂ = ({ (U.calling g mk a).setFrames s₂.frames with heap := s₂.heap, slotsUsed := s₂.slotsUsed } : State).setVm s₂.vm := by
      have : s₂ = ({ s₂ with vm := (U.calling g mk a).vm } : State).setVm s₂.vm := rfl
      rw [e2] at this
      exact this
    have hf₂ : s₂.frames = .throwing q :: .java g :: U.frames.tail := hend
    have hW' : U.WarmedH s₂.vm := hW₂
    have hs₂ : s₂ = ((({ U with heap := s₂.heap, slotsUsed := s₂.slotsUsed } : State).setVm s₂.vm).setTop g).pushFrame (.throwing q) := by
      refine e3.trans ?_
      rw [hf₂, State.calling_eq h.top, State.setFrames_setFrames, State.pushFrame, State.frames_setTop _ hr', State.setTop_of_frames _ hr', State.setFrames_setFrames, hr]
      rfl
    have hsame : U.sameButNew ({ U with heap := s₂.heap, slotsUsed := s₂.slotsUsed } : State) L mc ms := by
      refine ⟨?_, q2, q3, q4, q5, q6⟩
      obtain ⟨t, ht, -⟩ := State.frames_cons hr
      show ({ U with heap := s₂.heap, slotsUsed := s₂.slotsUsed } : State) = { U.setFrames U.frames with heap := s₂.heap, slotsUsed := s₂.slotsUsed }
      rw [State.setFrames_self ht]
    subst hg
    refine Or.inr ⟨q, ⟨(({ U with heap := s₂.heap, slotsUsed := s₂.slotsUsed } : State).setVm s₂.vm), Ls ++ L, c0 + mc, s0 + ms⟩,
      ⟨X.admits, X.cas, X.clock, X.frames, X.room, X.hears, X.method, X.code, (X.here.setHeapUsed s₂.heap s₂.slotsUsed).setVm hW'.alike, X.tail, State.WarmedH.trans X.warmed hW', X.limits, X.bytes, X.same.trans (hsame.setVm s.vm)⟩,
      ⟨g, mk, s₂, L, E, ce, rfl, rfl, hx, hce, hcv, hcl, rfl, hL, rfl, rfl⟩, ?_⟩
    show Steps p.tables e below _ (((({ U with heap := s₂.heap, slotsUsed := s₂.slotsUsed } : State).setVm s₂.vm).setTop g).pushFrame (.throwing q))
    rw [← hs₂]
    exact hsteps
end
variable {p : Program} {l : Launch} {e : Env} {R : Room} {s : State} {m : MethodId} {args : Array Value} {below : List Frame} {meth : Method} {c : Code} {T : State} {H : Heap} {locs : List Loc} {cells slots : Nat}
theorem vx_callVX (X : Stand p l e R s m args below meth c T locs cells slots) (hexec : p.tables.exec = Jvm.exec) {own C : String} {index : Nat} {y : MethodName} {bytes : ByteArray} {maxL : Nat} {ret : Option FieldType} {hh : List (Nat × Nat × Nat × Nat)}
    (hown : s.vm.findClass own = some m.cls) (hlink : (Cond.methodLink own index y).before args s = true) (hinst : (Cond.instanceMethod y).before args s = true) (hsel : (Cond.selects C y y).before args s = true)
    (hcode : (Cond.codeWith y bytes maxL ret hh).before args s = true) (hy : y.cls ≠ "java/lang/invoke/MethodHandle" ∧ y.cls ≠ "java/lang/invoke/VarHandle")
    {W9 : Nat} {Pre : Pt → Array Value → Prop} {Post : Pt → Array Value → Option Value → Pt → Prop} {PostX : Pt → Array Value → Addr → Pt → Prop} (hK : vx_Back l R p e below s args y 3 W9 Pre Post PostX)
    {b : Addr} {cellB : Cell} (hcell : T.heap[b]? = some cellB) (hobj : cellB.vm.isStatics = false) (hcls : s.vm.findClass C = some cellB.cls)
    {g : JFrame} (hg : g.method = m) (hsize : g.locals.size = c.maxLocals) {argsL rest : List Value} (hlen : ∀ sig, parseMethodDescriptor y.desc = some sig → argsL.length = sig.parameters.length)
    (hstack : g.stack = argsL.reverse ++ .ref b :: rest) (hW : 2 * g.monitorRoom + (rest.map fun v => v.category).sum ≤ W9) (hdg : decode c.code g.pc = .ok (.invokevirtual index, 3))
    (hpre : ∀ vm₁, s.WarmedH vm₁ → Pre ⟨T.setVm vm₁, locs, cells, slots⟩ (Value.ref b :: argsL).toArray) :
    (∃ (v : Option Value) (vm₁ : Vm) (B : Pt), s.WarmedH vm₁ ∧ Stand p l e R s m args below meth c B.U B.locs B.cells B.slots ∧ Post ⟨T.setVm vm₁, locs, cells, slots⟩ (Value.ref b :: argsL).toArray v B ∧
      ∀ target, Steps p.tables e below (B.U.setTop { g with pc := g.pc + 3, stack := v.toList ++ rest }) target → Steps p.tables e below (T.setTop g) target) ∨
    (∃ (q : Addr) (vm₁ : Vm) (B : Pt), s.WarmedH vm₁ ∧ Stand p l e R s m args below meth c B.U B.locs B.cells B.slots ∧ PostX ⟨T.setVm vm₁, locs, cells, slots⟩ (Value.ref b :: argsL).toArray q B ∧
      Steps p.tables e below (T.setTop g) ((B.U.setTop { g with stack := rest }).pushFrame (.throwing q))) := by
  obtain ⟨mk, methM, hnamed, hmethM, hstM, habM⟩ := Cond.instanceMethod_spec hinst
  obtain ⟨m8, methM', cM, hn8, hmethM', -, -, -, -, -, -, hsigM⟩ := Cond.codeWith_spec hcode
  cases Option.some.inj (hn8.symm.trans hnamed)
  cases hmethM.symm.trans hmethM'
  obtain ⟨c2, r2, m2, q1, q2, q3, q4, kP, hkP, hkPi⟩ := Cond.selects_spec hsel
  cases hcls.symm.trans q1
  cases (State.methodFound?_of_named hnamed hy).symm.trans q2
  cases hnamed.symm.trans q3
  have hselP : selectMethod e.platform s.vm cellB.cls mk = .method mk := by rw [Launch.admits_selectMethod X.admits]; exact q4
  obtain ⟨vm₁, X₁, hstep₁⟩ := X.invokevirtual hexec hown hlink hnamed hmethM hstM hkP hkPi hy (a := b) (cell := cellB) hcell
    (fun z h => by rw [h] at hobj; cases hobj) hselP hmethM habM hkP hkPi (g := g) hg (argsL := argsL) (rest := rest) (hlen _ hsigM) hstack hdg
  rcases hK m meth c ⟨T.setVm vm₁, locs, cells, slots⟩ { g with stack := rest } (.invokevirtual index) mk (Value.ref b :: argsL).toArray X₁ hg hsize hdg hW (X₁.named hnamed) (hpre vm₁ X₁.warmed) with ⟨v, B, X', hpost, hsteps⟩ | ⟨q, B, X', hpost, hsteps⟩
  · exact Or.inl ⟨v, vm₁, B, X₁.warmed, X', hpost, fun target h => hstep₁ _ fun acts => by rw [doInvoke_state]; exact hsteps.trans h⟩
  · exact Or.inr ⟨q, vm₁, B, X₁.warmed, X', hpost, hstep₁ _ fun acts => by rw [doInvoke_state]; exact hsteps⟩
theorem vx_callSX (X : Stand p l e R s m args below meth c T locs cells slots) (hexec : p.tables.exec = Jvm.exec) {own : String} {index : Nat} {y : MethodName} {bytes : ByteArray} {maxL : Nat} {ret : Option FieldType} {hh : List (Nat × Nat × Nat × Nat)}
    (hown : s.vm.findClass own = some m.cls) (hlink : (Cond.methodLink own index y).before args s = true) (hstat : (Cond.static y).before args s = true) (hinit : (Cond.initialized y.cls).before args s = true)
    (hcode : (Cond.codeWith y bytes maxL ret hh).before args s = true) (hy : y.cls ≠ "java/lang/invoke/MethodHandle" ∧ y.cls ≠ "java/lang/invoke/VarHandle")
    {W9 : Nat} {Pre : Pt → Array Value → Prop} {Post : Pt → Array Value → Option Value → Pt → Prop} {PostX : Pt → Array Value → Addr → Pt → Prop} (hK : vx_Back l R p e below s args y 3 W9 Pre Post PostX)
    {g : JFrame} (hg : g.method = m) (hsize : g.locals.size = c.maxLocals) {argsL rest : List Value} (hlen : ∀ sig, parseMethodDescriptor y.desc = some sig → argsL.length = sig.parameters.length)
    (hstack : g.stack = argsL.reverse ++ rest) (hW : 2 * g.monitorRoom + (rest.map fun v => v.category).sum ≤ W9) (hdg : decode c.code g.pc = .ok (.invokestatic index, 3))
    (hpre : ∀ vm₁, s.WarmedH vm₁ → Pre ⟨T.setVm vm₁, locs, cells, slots⟩ argsL.toArray) :
    (∃ (v : Option Value) (vm₁ : Vm) (B : Pt), s.WarmedH vm₁ ∧ Stand p l e R s m args below meth c B.U B.locs B.cells B.slots ∧ Post ⟨T.setVm vm₁, locs, cells, slots⟩ argsL.toArray v B ∧
      ∀ target, Steps p.tables e below (B.U.setTop { g with pc := g.pc + 3, stack := v.toList ++ rest }) target → Steps p.tables e below (T.setTop g) target) ∨
    (∃ (q : Addr) (vm₁ : Vm) (B : Pt), s.WarmedH vm₁ ∧ Stand p l e R s m args below meth c B.U B.locs B.cells B.slots ∧ PostX ⟨T.setVm vm₁, locs, cells, slots⟩ argsL.toArray q B ∧
      Steps p.tables e below (T.setTop g) ((B.U.setTop { g with stack := rest }).pushFrame (.throwing q))) := by
  obtain ⟨mk, methM, cM, hnamed, hmethM, -, -, -, -, -, -, hsigM⟩ := Cond.codeWith_spec hcode
  have hstatic : methM.isStatic = true := Cond.static_spec hnamed hmethM hstat
  obtain ⟨kP, hkP, -⟩ := className_of_methodNamed hnamed
  have hinitP : kP.init = .initialized := Cond.initialized_spec (findClass_of_methodNamed hnamed) hkP hinit
  obtain ⟨vm₁, X₁, hstep₁⟩ := X.invokestatic hexec hown hlink hnamed hmethM hstatic hkP hinitP hy (g := g) hg (argsL := argsL) (rest := rest) (hlen _ hsigM) hstack hdg
  rcases hK m meth c ⟨T.setVm vm₁, locs, cells, slots⟩ { g with stack := rest } (.invokestatic index) mk argsL.toArray X₁ hg hsize hdg hW (X₁.named hnamed) (hpre vm₁ X₁.warmed) with ⟨v, B, X', hpost, hsteps⟩ | ⟨q, B, X', hpost, hsteps⟩
  · exact Or.inl ⟨v, vm₁, B, X₁.warmed, X', hpost, fun target h => hstep₁ _ fun acts => by rw [doInvoke_state]; exact hsteps.trans h⟩
  · exact Or.inr ⟨q, vm₁, B, X₁.warmed, X', hpost, hstep₁ _ fun acts => by rw [doInvoke_state]; exact hsteps⟩
theorem vx_callVW (X : Stand p l e R s m args below meth c T locs cells slots) (hexec : p.tables.exec = Jvm.exec) {own C : String} {index : Nat} {y : MethodName} {bytes : ByteArray} {maxL : Nat} {ret : Option FieldType} {hh : List (Nat × Nat × Nat × Nat)}
    (hown : s.vm.findClass own = some m.cls) (hlink : (Cond.methodLink own index y).before args s = true) (hinst : (Cond.instanceMethod y).before args s = true) (hsel : (Cond.selects C y y).before args s = true)
    (hcode : (Cond.codeWith y bytes maxL ret hh).before args s = true) (hy : y.cls ≠ "java/lang/invoke/MethodHandle" ∧ y.cls ≠ "java/lang/invoke/VarHandle")
    {W9 : Nat} {Pre : Pt → Array Value → Prop} {Post : Pt → Array Value → Option Value → Pt → Prop} (hK : Back l R p e below s args y 3 W9 Pre Post)
    {b : Addr} {cellB : Cell} (hcell : T.heap[b]? = some cellB) (hobj : cellB.vm.isStatics = false) (hcls : s.vm.findClass C = some cellB.cls)
    {g : JFrame} (hg : g.method = m) (hsize : g.locals.size = c.maxLocals) {argsL rest : List Value} (hlen : ∀ sig, parseMethodDescriptor y.desc = some sig → argsL.length = sig.parameters.length)
    (hstack : g.stack = argsL.reverse ++ .ref b :: rest) (hW : 2 * g.monitorRoom + (rest.map fun v => v.category).sum ≤ W9) (hdg : decode c.code g.pc = .ok (.invokevirtual index, 3))
    (hpre : ∀ vm₁, s.WarmedH vm₁ → Pre ⟨T.setVm vm₁, locs, cells, slots⟩ (Value.ref b :: argsL).toArray) :
    ∃ (v : Option Value) (vm₁ : Vm) (B : Pt), s.WarmedH vm₁ ∧ Stand p l e R s m args below meth c B.U B.locs B.cells B.slots ∧ Post ⟨T.setVm vm₁, locs, cells, slots⟩ (Value.ref b :: argsL).toArray v B ∧
      ∀ target, Steps p.tables e below (B.U.setTop { g with pc := g.pc + 3, stack := v.toList ++ rest }) target → Steps p.tables e below (T.setTop g) target := by
  obtain ⟨mk, methM, hnamed, hmethM, hstM, habM⟩ := Cond.instanceMethod_spec hinst
  obtain ⟨m8, methM', cM, hn8, hmethM', -, -, -, -, -, -, hsigM⟩ := Cond.codeWith_spec hcode
  cases Option.some.inj (hn8.symm.trans hnamed)
  cases hmethM.symm.trans hmethM'
  obtain ⟨c2, r2, m2, q1, q2, q3, q4, kP, hkP, hkPi⟩ := Cond.selects_spec hsel
  cases hcls.symm.trans q1
  cases (State.methodFound?_of_named hnamed hy).symm.trans q2
  cases hnamed.symm.trans q3
  have hselP : selectMethod e.platform s.vm cellB.cls mk = .method mk := by rw [Launch.admits_selectMethod X.admits]; exact q4
  obtain ⟨vm₁, X₁, hstep₁⟩ := X.invokevirtual hexec hown hlink hnamed hmethM hstM hkP hkPi hy (a := b) (cell := cellB) hcell
    (fun z h => by rw [h] at hobj; cases hobj) hselP hmethM habM hkP hkPi (g := g) hg (argsL := argsL) (rest := rest) (hlen _ hsigM) hstack hdg
  obtain ⟨v, B, X', hpost, hsteps⟩ := hK m meth c ⟨T.setVm vm₁, locs, cells, slots⟩ { g with stack := rest } (.invokevirtual index) mk (Value.ref b :: argsL).toArray X₁ hg hsize hdg hW (X₁.named hnamed) (hpre vm₁ X₁.warmed)
  exact ⟨v, vm₁, B, X₁.warmed, X', hpost, fun target h => hstep₁ _ fun acts => by rw [doInvoke_state]; exact hsteps.trans h⟩
abbrev vx_CVW (R : Room) (s : State) (args : Array Value) (own C : String) (index : Nat) (y : MethodName) (bytes : ByteArray) (maxL : Nat) (ret : Option FieldType) (hh : List (Nat × Nat × Nat × Nat)) (ws : List Cond) (rm : Room) (mc ms n : Nat) : Prop :=
  (rm.cells = mc ∧ rm.slots = ms ∧ rm.frames + 1 ≤ R.frames ∧ 8 + (maxL + 11) + rm.locals ≤ R.locals ∧ (∀ w ∈ ws, ∀ (a' : Array Value) (U : State), s.WarmedH U.vm → w.before a' U = true) ∧ Cond.codeWith y bytes maxL ret hh ∈ ws) ∧
  (Cond.codeWith y bytes maxL ret hh).before args s = true ∧ (Cond.initialized y.cls).before args s = true ∧ (y.cls ≠ "java/lang/invoke/MethodHandle" ∧ y.cls ≠ "java/lang/invoke/VarHandle") ∧
  (∀ sig, parseMethodDescriptor y.desc = some sig → n = sig.parameters.length) ∧ (Cond.methodLink own index y).before args s = true ∧ (Cond.instanceMethod y).before args s = true ∧ (Cond.selects C y y).before args s = true
theorem vx_cwVW {own C : String} {index maxL mc ms : Nat} {y : MethodName} {bytes : ByteArray} {ret : Option FieldType} {hh : List (Nat × Nat × Nat × Nat)} {Ts ws ws' : List Cond} {rm : Room} (n : Nat) (ht : ∀ w ∈ Ts, w.before args s = true) (hT : GoodIn Ts (wsV own index C y ws)) (hw : ws = Cond.codeWith y bytes maxL ret hh :: ws') (hrc : rm.cells = mc) (hrs : rm.slots = ms)
    (hd : y.cls = C ∧ y.cls ≠ "java/lang/invoke/MethodHandle" ∧ y.cls ≠ "java/lang/invoke/VarHandle" ∧ (parseMethodDescriptor y.desc).map (fun d => d.parameters.length) = some n) (hR : rm.frames + 1 ≤ R.frames ∧ 8 + (maxL + 11) + rm.locals ≤ R.locals) :
    vx_CVW R s args own C index y bytes maxL ret hh ws rm mc ms n := by
  obtain ⟨hC, hd⟩ := hd
  subst hC
  have ok : ∀ w ∈ wsV own index y.cls y ws, w.before args s = true := fun w h => ht w (hT w h).1
  have hG : GoodIn Ts ws := fun w h => hT w (by unfold wsV; exact List.mem_append_right _ h)
  have hc : Cond.codeWith y bytes maxL ret hh ∈ ws := by rw [hw]; exact List.mem_cons_self
  refine ⟨⟨hrc, hrs, hR.1, hR.2, pay_in ht hG, hc⟩, ht _ (hG _ hc).1, ok _ (by simp [wsV]), ⟨hd.1, hd.2.1⟩, fun sig h => ?_, ok _ (by simp [wsV]), ok _ (by simp [wsV]), ok _ (by simp [wsV])⟩
  have h2 := hd.2.2
  rw [h] at h2
  exact (Option.some.inj h2).symm
theorem vx_runVW {y : MethodName} {bytes cc : ByteArray} {maxL nL mc ms n index : Nat} {ret : Option FieldType} {hh : List (Nat × Nat × Nat × Nat)} {ws : List Cond} {rm : Room} {Pc : Array Value → State → Prop} {Qc : Array Value → State → Outcome → State → Prop} {free : Addr → Prop} {Ts : List Cond} {own C : String} {b : Addr} {As rest : List Value} {g : JFrame}
    (S : CallFix p m c cc nL s args Ts own) (hM : Met l y ws rm Pc Qc mc ms free) (cw : vx_CVW R s args own C index y bytes maxL ret hh ws rm mc ms n) (hp : PreV s H C b Pc As)
    (hg : g.method = m) (hn : As.length = n) (hsize : g.locals.size = nL) (hstack : g.stack = As.reverse ++ .ref b :: rest) (hW : 2 * g.monitorRoom + (rest.map fun v => v.category).sum ≤ 8) (hdg : decode cc g.pc = .ok (.invokevirtual index, 3)) (hf : cells + mc ≤ R.cells ∧ slots + ms ≤ R.slots) :
    va_Run p l e R s m args below meth c H locs cells slots mc ms g rest (Qc (Value.ref b :: As).toArray) free := by
  obtain ⟨⟨hrc, hrs, hfr, hlo, hws, hcw⟩, hcode, hini, hy, hlen, hl, hin, hse⟩ := cw
  have hK : Back l R p e below s args y 3 8 (PreOf R mc ms Pc) (PostOf Qc mc ms free) := va_backW (hh := hh) (bytes := bytes) (maxL := maxL) (ret := ret) hM hp.1 hrc hrs hfr hlo hws hcw (fun a' U hW => word_at hW (Or.inl (by first | rfl | simp [Cond.onTables, Cond.keeps, Cond.steady])) hini)
  obtain ⟨hx, hb, hml, ho, -⟩ := S
  obtain ⟨-, ⟨cellB, hcB, hoB, hclB⟩, hPc⟩ := hp
  intro T hT X
  obtain ⟨v, vm₁, ⟨U', l2, c2, s2⟩, hW₁, X', ⟨g', mk, t, L, e1, e2, hq, h1, hL, h2, h3⟩, st⟩ := vx_callVW X hx (C := C) (hh := hh) (bytes := bytes) (maxL := maxL) (ret := ret) ho hl hin hse hcode hy hK (by rw [hT]; exact hcB) hoB hclB hg (hsize.trans hml.symm) (argsL := As) (rest := rest) (fun sig h => hn.trans (hlen sig h)) hstack hW (by rw [hb]; exact hdg)
    (fun vm₁ hW₁ => ⟨hf.1, hf.2, hPc (T.setVm vm₁) hT hW₁⟩)
  dsimp only [Pt.U, Pt.locs, Pt.cells, Pt.slots] at X' e1 e2 h1 h2 h3 st
  subst h1; subst h2; subst h3
  exact ⟨v, (T.setVm vm₁).calling g' mk (Value.ref b :: As).toArray, t, U', L, hT, X', hL, e1, e2, hq, st⟩
section
variable {y : MethodName} {bytes cc : ByteArray} {maxL nL mc ms n index : Nat} {ret : Option FieldType} {ws : List Cond} {rm : Room} {Pc : Array Value → State → Prop} {Qc : Array Value → State → Outcome → State → Prop} {XC : String → State → State → Prop} {free : Addr → Prop} {Ts : List Cond} {own C : String} {b : Addr} {As rest : List Value} {g : JFrame}
theorem vx_runVX {hh : List (Nat × Nat × Nat × Nat)} (S : CallFix p m c cc nL s args Ts own) (hM : vx_Met l y ws rm Pc Qc XC mc ms free) (cw : vx_CVW R s args own C index y bytes maxL ret hh ws rm mc ms n) (hp : PreV s H C b Pc As)
    (hg : g.method = m) (hn : As.length = n) (hsize : g.locals.size = nL) (hstack : g.stack = As.reverse ++ .ref b :: rest) (hW : 2 * g.monitorRoom + (rest.map fun v => v.category).sum ≤ 8) (hdg : decode cc g.pc = .ok (.invokevirtual index, 3)) (hf : cells + mc ≤ R.cells ∧ slots + ms ≤ R.slots) :
    vx_Run p l e R s m args below meth c H locs cells slots mc ms g rest (Qc (Value.ref b :: As).toArray) XC free := by
  obtain ⟨⟨hrc, hrs, hfr, hlo, hws, hcw⟩, hcode, hini, hy, hlen, hl, hin, hse⟩ := cw
  have hK : vx_Back l R p e below s args y 3 8 (PreOf R mc ms Pc) (PostOf Qc mc ms free) (vx_Post XC mc ms free) := vx_backW (hh := hh) (bytes := bytes) (maxL := maxL) (ret := ret) hM hp.1 hrc hrs hfr hlo hws hcw (fun a' U hW => word_at hW (Or.inl (by first | rfl | simp [Cond.onTables, Cond.keeps, Cond.steady])) hini)
  obtain ⟨hx, hb, hml, ho, -⟩ := S
  obtain ⟨-, ⟨cellB, hcB, hoB, hclB⟩, hPc⟩ := hp
  intro T hT X
  rcases vx_callVX X hx (C := C) (hh := hh) (bytes := bytes) (maxL := maxL) (ret := ret) ho hl hin hse hcode hy hK (by rw [hT]; exact hcB) hoB hclB hg (hsize.trans hml.symm) (argsL := As) (rest := rest) (fun sig h => hn.trans (hlen sig h)) hstack hW (by rw [hb]; exact hdg)
    (fun vm₁ hW₁ => ⟨hf.1, hf.2, hPc (T.setVm vm₁) hT hW₁⟩) with ⟨v, vm₁, ⟨U', l2, c2, s2⟩, hW₁, X', ⟨g', mk, t, L, e1, e2, hq, h1, hL, h2, h3⟩, st⟩ | ⟨q, vm₁, ⟨U', l2, c2, s2⟩, hW₁, X', ⟨g', mk, t, L, E, ce, e1, e2, hq, hce, hcv, hcl, h1, hL, h2, h3⟩, st⟩
  · dsimp only [Pt.U, Pt.locs, Pt.cells, Pt.slots] at X' e1 e2 h1 h2 h3 st
    subst h1; subst h2; subst h3
    exact Or.inl ⟨v, (T.setVm vm₁).calling g' mk (Value.ref b :: As).toArray, t, U', L, hT, X', hL, e1, e2, hq, st⟩
  · dsimp only [Pt.U, Pt.locs, Pt.cells, Pt.slots] at X' e1 e2 h1 h2 h3 st hcl
    subst h1; subst h2; subst h3
    exact Or.inr ⟨q, (T.setVm vm₁).calling g' mk (Value.ref b :: As).toArray, t, U', L, E, ce, hT, X', hL, e1, e2, hq, hce, hcv, vx_cls hW₁ hcl, st⟩
theorem vx_runSX {hh : List (Nat × Nat × Nat × Nat)} (S : CallFix p m c cc nL s args Ts own) (hM : vx_Met l y ws rm Pc Qc XC mc ms free) (cw : vx_CSW R s args own index y bytes maxL ret hh ws rm mc ms n) (hp : PreS s H Pc As)
    (hg : g.method = m) (hn : As.length = n) (hsize : g.locals.size = nL) (hstack : g.stack = As.reverse ++ rest) (hW : 2 * g.monitorRoom + (rest.map fun v => v.category).sum ≤ 8) (hdg : decode cc g.pc = .ok (.invokestatic index, 3)) (hf : cells + mc ≤ R.cells ∧ slots + ms ≤ R.slots) :
    vx_Run p l e R s m args below meth c H locs cells slots mc ms g rest (Qc As.toArray) XC free := by
  obtain ⟨⟨hrc, hrs, hfr, hlo, hws, hcw⟩, hcode, hini, hy, hlen, hl, hstt⟩ := cw
  have hK : vx_Back l R p e below s args y 3 8 (PreOf R mc ms Pc) (PostOf Qc mc ms free) (vx_Post XC mc ms free) := vx_backW (hh := hh) (bytes := bytes) (maxL := maxL) (ret := ret) hM hp.1 hrc hrs hfr hlo hws hcw (fun a' U hW => word_at hW (Or.inl (by first | rfl | simp [Cond.onTables, Cond.keeps, Cond.steady])) hini)
  obtain ⟨hx, hb, hml, ho, -⟩ := S
  intro T hT X
  rcases vx_callSX X hx (hh := hh) (bytes := bytes) (maxL := maxL) (ret := ret) ho hl hstt hini hcode hy hK hg (hsize.trans hml.symm) (argsL := As) (rest := rest) (fun sig h => hn.trans (hlen sig h)) hstack hW (by rw [hb]; exact hdg)
    (fun vm₁ hW₁ => ⟨hf.1, hf.2, hp.2 (T.setVm vm₁) hT hW₁⟩) with ⟨v, vm₁, ⟨U', l2, c2, s2⟩, hW₁, X', ⟨g', mk, t, L, e1, e2, hq, h1, hL, h2, h3⟩, st⟩ | ⟨q, vm₁, ⟨U', l2, c2, s2⟩, hW₁, X', ⟨g', mk, t, L, E, ce, e1, e2, hq, hce, hcv, hcl, h1, hL, h2, h3⟩, st⟩
  · dsimp only [Pt.U, Pt.locs, Pt.cells, Pt.slots] at X' e1 e2 h1 h2 h3 st
    subst h1; subst h2; subst h3
    exact Or.inl ⟨v, (T.setVm vm₁).calling g' mk As.toArray, t, U', L, hT, X', hL, e1, e2, hq, st⟩
  · dsimp only [Pt.U, Pt.locs, Pt.cells, Pt.slots] at X' e1 e2 h1 h2 h3 st hcl
    subst h1; subst h2; subst h3
    exact Or.inr ⟨q, (T.setVm vm₁).calling g' mk As.toArray, t, U', L, E, ce, hT, X', hL, e1, e2, hq, hce, hcv, vx_cls hW₁ hcl, st⟩
end
end VXH
theorem vx_ofWH {l : Launch} {y : MethodName} {ws ws' : List Cond} {rm : Room} {Pc : Array Value → State → Prop} {Qc : Array Value → State → Outcome → State → Prop} {XC : String → State → State → Prop} {mc ms : Nat} {free : Addr → Prop} {cc : ByteArray} {maxL : Nat} {ret : Option FieldType} {hh : List (Nat × Nat × Nat × Nat)}
    (hy : plainName y.cls = true) (hw : ws = Cond.codeWith y cc maxL ret hh :: ws')
    (body : ∀ p e s m args below meth c s₁, BodyLoose p l y (headSpec ws rm) cc maxL ret e s m args below meth c s₁ → c.maxLocals = maxL → Pc args s →
      W p l e (headSpec ws rm).room s m args below meth c s.heap [] 0 0 (vx_MQ below Qc XC args s mc ms free) (entryFrame m args maxL)) : vx_Met l y ws rm Pc Qc XC mc ms free := by
  refine MetFree.of_bodyS (code := cc) (maxLocals := maxL) (ret := ret) hy ?_ ?_
  · intro args s m h hn
    obtain ⟨m9, meth, c, hn9, h1, h2, h3, h4, -, h5, h6, -⟩ := Cond.codeWith_spec (atoms_spec (ws := ws) h _ (by rw [hw]; exact List.mem_cons_self))
    cases hn.symm.trans hn9
    exact ⟨meth, c, h1, h2, h3, h4, h5, h6⟩
  · intro p e s m args below meth c s₁ B hml hP _
    have hh0 : s₁.heap = s.heap := by rw [B.state]; rfl
    obtain ⟨t, a1, o, b1, b2, b3⟩ := body p e s m args below meth c s₁ B hml hP s₁ hh0 (Stand.of_body B)
    exact ⟨t, o, a1, b1, b2, b3⟩
/-! ===== END ===== -/
end
section
def RX0 : String := "CharacterSums$Counting"
def TX0 : u_T := fun k => match k with
  | 0 => ("CharacterSums$Counting", "ground", "LCharacterSums$Field;", true)
  | 1 => ("CharacterSums$Counting", "ways", "[J", false)
  | 2 => ("CharacterSums$Counting", "joined", "[J", false)
  | _ => ("CharacterSums$Counting", "seen", "[I", true)
def tyX0 : Nat → FieldType := fun k => match k with
  | 0 => .object "CharacterSums$Field"
  | 1 => .array .long
  | 2 => .array .long
  | _ => .array .int
abbrev wsX00 : List Cond := u_ws RX0 TX0 4
theorem nmX0 : ∀ a, a < 4 → ∀ b, b < 4 → a ≠ b → (TX0 a).2.1 ≠ (TX0 b).2.1 := by decide +kernel
theorem tyX0_ok : ∀ k, k < 4 → parseFieldDescriptor (TX0 k).2.2.1 = some (tyX0 k) := by decide +kernel
abbrev cX0_init : ByteArray := prog_2_method_1_code
def yX0_init : MethodName := ⟨RX0, "<init>", "(LCharacterSums$Field;)V"⟩
abbrev cX0_begin : ByteArray := prog_2_method_2_code
def yX0_begin : MethodName := ⟨RX0, "begin", "()V"⟩
abbrev cX0_join : ByteArray := prog_2_method_3_code
def yX0_join : MethodName := ⟨RX0, "join", "(II)V"⟩
abbrev cX0_waysTo : ByteArray := prog_2_method_4_code
def yX0_waysTo : MethodName := ⟨RX0, "waysTo", "(I)I"⟩
abbrev cX0_curvePoints : ByteArray := prog_2_method_5_code
def yX0_curvePoints : MethodName := ⟨RX0, "curvePoints", "(II)I"⟩
abbrev cX0_neighbours : ByteArray := prog_2_method_6_code
def yX0_neighbours : MethodName := ⟨RX0, "neighbours", "(III)I"⟩
abbrev cX0_evenDifferences : ByteArray := prog_2_method_7_code
def yX0_evenDifferences : MethodName := ⟨RX0, "evenDifferences", "(I)I"⟩
def RX1 : String := "CharacterSums$Field"
def TX1 : u_T := fun k => match k with
  | 0 => ("CharacterSums$Field", "p", "I", false)
  | 1 => ("CharacterSums$Field", "k", "I", false)
  | 2 => ("CharacterSums$Field", "q", "I", false)
  | 3 => ("CharacterSums$Field", "modulus", "I", false)
  | 4 => ("CharacterSums$Field", "generator", "I", false)
  | 5 => ("CharacterSums$Field", "sumOf", "[I", true)
  | 6 => ("CharacterSums$Field", "negatives", "[I", true)
  | 7 => ("CharacterSums$Field", "shifts", "[I", true)
  | 8 => ("CharacterSums$Field", "productOf", "[I", true)
  | 9 => ("CharacterSums$Field", "powers", "[I", true)
  | 10 => ("CharacterSums$Field", "logs", "[I", true)
  | 11 => ("CharacterSums$Field", "traces", "[I", true)
  | _ => ("CharacterSums$Field", "leastOf", "[I", true)
def tyX1 : Nat → FieldType := fun k => match k with
  | 0 => .int
  | 1 => .int
  | 2 => .int
  | 3 => .int
  | 4 => .int
  | 5 => .array .int
  | 6 => .array .int
  | 7 => .array .int
  | 8 => .array .int
  | 9 => .array .int
  | 10 => .array .int
  | 11 => .array .int
  | _ => .array .int
abbrev wsX10 : List Cond := u_ws RX1 TX1 13
theorem nmX1 : ∀ a, a < 13 → ∀ b, b < 13 → a ≠ b → (TX1 a).2.1 ≠ (TX1 b).2.1 := by decide +kernel
theorem tyX1_ok : ∀ k, k < 13 → parseFieldDescriptor (TX1 k).2.2.1 = some (tyX1 k) := by decide +kernel
abbrev cX1_init : ByteArray := prog_3_method_1_code
def yX1_init : MethodName := ⟨RX1, "<init>", "()V"⟩
abbrev cX1_sizeOf : ByteArray := prog_3_method_2_code
def yX1_sizeOf : MethodName := ⟨RX1, "sizeOf", "(II)I"⟩
abbrev cX1_become : ByteArray := prog_3_method_3_code
def yX1_become : MethodName := ⟨RX1, "become", "(III)V"⟩
abbrev cX1_has : ByteArray := prog_3_method_4_code
def yX1_has : MethodName := ⟨RX1, "has", "(I)Z"⟩
abbrev cX1_hasCharacter : ByteArray := prog_3_method_5_code
def yX1_hasCharacter : MethodName := ⟨RX1, "hasCharacter", "(I)Z"⟩
abbrev cX1_hasClasses : ByteArray := prog_3_method_6_code
def yX1_hasClasses : MethodName := ⟨RX1, "hasClasses", "(I)Z"⟩
abbrev cX1_hasClass : ByteArray := prog_3_method_7_code
def yX1_hasClass : MethodName := ⟨RX1, "hasClass", "(II)Z"⟩
abbrev cX1_plus : ByteArray := prog_3_method_8_code
def yX1_plus : MethodName := ⟨RX1, "plus", "(II)I"⟩
abbrev cX1_minus : ByteArray := prog_3_method_9_code
def yX1_minus : MethodName := ⟨RX1, "minus", "(II)I"⟩
abbrev cX1_times : ByteArray := prog_3_method_10_code
def yX1_times : MethodName := ⟨RX1, "times", "(II)I"⟩
abbrev cX1_over : ByteArray := prog_3_method_11_code
def yX1_over : MethodName := ⟨RX1, "over", "(II)I"⟩
abbrev cX1_raised : ByteArray := prog_3_method_12_code
def yX1_raised : MethodName := ⟨RX1, "raised", "(II)I"⟩
abbrev cX1_logOf : ByteArray := prog_3_method_13_code
def yX1_logOf : MethodName := ⟨RX1, "logOf", "(I)I"⟩
abbrev cX1_traceOf : ByteArray := prog_3_method_14_code
def yX1_traceOf : MethodName := ⟨RX1, "traceOf", "(I)I"⟩
abbrev cX1_normOf : ByteArray := prog_3_method_15_code
def yX1_normOf : MethodName := ⟨RX1, "normOf", "(I)I"⟩
abbrev cX1_inClass : ByteArray := prog_3_method_16_code
def yX1_inClass : MethodName := ⟨RX1, "inClass", "(III)Z"⟩
abbrev cX1_findLeast : ByteArray := prog_3_method_17_code
def yX1_findLeast : MethodName := ⟨RX1, "findLeast", "(I)I"⟩
abbrev cX1_leastAt : ByteArray := prog_3_method_18_code
def yX1_leastAt : MethodName := ⟨RX1, "leastAt", "(I)I"⟩
abbrev cX1_fillSums : ByteArray := prog_3_method_19_code
def yX1_fillSums : MethodName := ⟨RX1, "fillSums", "()V"⟩
abbrev cX1_addedDigits : ByteArray := prog_3_method_20_code
def yX1_addedDigits : MethodName := ⟨RX1, "addedDigits", "(II)I"⟩
abbrev cX1_findModulus : ByteArray := prog_3_method_21_code
def yX1_findModulus : MethodName := ⟨RX1, "findModulus", "()V"⟩
abbrev cX1_fillShifts : ByteArray := prog_3_method_22_code
def yX1_fillShifts : MethodName := ⟨RX1, "fillShifts", "()V"⟩
abbrev cX1_isProduct : ByteArray := prog_3_method_23_code
def yX1_isProduct : MethodName := ⟨RX1, "isProduct", "()Z"⟩
abbrev cX1_fillProducts : ByteArray := prog_3_method_24_code
def yX1_fillProducts : MethodName := ⟨RX1, "fillProducts", "()V"⟩
abbrev cX1_multiplied : ByteArray := prog_3_method_25_code
def yX1_multiplied : MethodName := ⟨RX1, "multiplied", "(II)I"⟩
abbrev cX1_findGenerator : ByteArray := prog_3_method_26_code
def yX1_findGenerator : MethodName := ⟨RX1, "findGenerator", "()V"⟩
abbrev cX1_walkPowers : ByteArray := prog_3_method_27_code
def yX1_walkPowers : MethodName := ⟨RX1, "walkPowers", "()Z"⟩
abbrev cX1_fillTraces : ByteArray := prog_3_method_28_code
def yX1_fillTraces : MethodName := ⟨RX1, "fillTraces", "()V"⟩
def RX2 : String := "CharacterSums$Program"
def TX2 : u_T := fun k => match k with
  | 0 => ("CharacterSums$Program", "length", "I", false)
  | 1 => ("CharacterSums$Program", "what", "[I", true)
  | 2 => ("CharacterSums$Program", "first", "[I", true)
  | 3 => ("CharacterSums$Program", "second", "[I", true)
  | _ => ("CharacterSums$Program", "third", "[I", true)
def tyX2 : Nat → FieldType := fun k => match k with
  | 0 => .int
  | 1 => .array .int
  | 2 => .array .int
  | 3 => .array .int
  | _ => .array .int
abbrev wsX20 : List Cond := u_ws RX2 TX2 5
theorem nmX2 : ∀ a, a < 5 → ∀ b, b < 5 → a ≠ b → (TX2 a).2.1 ≠ (TX2 b).2.1 := by decide +kernel
theorem tyX2_ok : ∀ k, k < 5 → parseFieldDescriptor (TX2 k).2.2.1 = some (tyX2 k) := by decide +kernel
abbrev cX2_init : ByteArray := prog_4_method_1_code
def yX2_init : MethodName := ⟨RX2, "<init>", "()V"⟩
abbrev cX2_add : ByteArray := prog_4_method_2_code
def yX2_add : MethodName := ⟨RX2, "add", "(IIII)V"⟩
def RX3 : String := "CharacterSums$Reader"
def TX3 : u_T := fun k => match k with
  | 0 => ("CharacterSums$Reader", "program", "LCharacterSums$Program;", true)
  | 1 => ("CharacterSums$Reader", "faultKind", "I", false)
  | 2 => ("CharacterSums$Reader", "faultPlace", "I", false)
  | 3 => ("CharacterSums$Reader", "ground", "LCharacterSums$Field;", true)
  | 4 => ("CharacterSums$Reader", "ring", "LCharacterSums$Ring;", true)
  | 5 => ("CharacterSums$Reader", "text", "[I", true)
  | 6 => ("CharacterSums$Reader", "length", "I", false)
  | 7 => ("CharacterSums$Reader", "at", "I", false)
  | 8 => ("CharacterSums$Reader", "open", "I", false)
  | 9 => ("CharacterSums$Reader", "token", "I", false)
  | 10 => ("CharacterSums$Reader", "start", "I", false)
  | _ => ("CharacterSums$Reader", "number", "I", false)
def tyX3 : Nat → FieldType := fun k => match k with
  | 0 => .object "CharacterSums$Program"
  | 1 => .int
  | 2 => .int
  | 3 => .object "CharacterSums$Field"
  | 4 => .object "CharacterSums$Ring"
  | 5 => .array .int
  | 6 => .int
  | 7 => .int
  | 8 => .int
  | 9 => .int
  | 10 => .int
  | _ => .int
abbrev wsX30 : List Cond := u_ws RX3 TX3 12
theorem nmX3 : ∀ a, a < 12 → ∀ b, b < 12 → a ≠ b → (TX3 a).2.1 ≠ (TX3 b).2.1 := by decide +kernel
theorem tyX3_ok : ∀ k, k < 12 → parseFieldDescriptor (TX3 k).2.2.1 = some (tyX3 k) := by decide +kernel
abbrev cX3_init : ByteArray := prog_5_method_1_code
def yX3_init : MethodName := ⟨RX3, "<init>", "(LCharacterSums$Field;LCharacterSums$Ring;[I)V"⟩
abbrev cX3_read : ByteArray := prog_5_method_2_code
def yX3_read : MethodName := ⟨RX3, "read", "(I)V"⟩
abbrev cX3_readSum : ByteArray := prog_5_method_3_code
def yX3_readSum : MethodName := ⟨RX3, "readSum", "()V"⟩
abbrev cX3_readProduct : ByteArray := prog_5_method_4_code
def yX3_readProduct : MethodName := ⟨RX3, "readProduct", "()V"⟩
abbrev cX3_readFactor : ByteArray := prog_5_method_5_code
def yX3_readFactor : MethodName := ⟨RX3, "readFactor", "()V"⟩
abbrev cX3_readAtom : ByteArray := prog_5_method_6_code
def yX3_readAtom : MethodName := ⟨RX3, "readAtom", "()V"⟩
abbrev cX3_readWhole : ByteArray := prog_5_method_7_code
def yX3_readWhole : MethodName := ⟨RX3, "readWhole", "()V"⟩
abbrev cX3_readRoot : ByteArray := prog_5_method_8_code
def yX3_readRoot : MethodName := ⟨RX3, "readRoot", "()V"⟩
abbrev cX3_readGauss : ByteArray := prog_5_method_9_code
def yX3_readGauss : MethodName := ⟨RX3, "readGauss", "()V"⟩
abbrev cX3_readJacobi : ByteArray := prog_5_method_10_code
def yX3_readJacobi : MethodName := ⟨RX3, "readJacobi", "()V"⟩
abbrev cX3_readKloosterman : ByteArray := prog_5_method_11_code
def yX3_readKloosterman : MethodName := ⟨RX3, "readKloosterman", "()V"⟩
abbrev cX3_readPeriod : ByteArray := prog_5_method_12_code
def yX3_readPeriod : MethodName := ⟨RX3, "readPeriod", "()V"⟩
abbrev cX3_readPlace : ByteArray := prog_5_method_13_code
def yX3_readPlace : MethodName := ⟨RX3, "readPlace", "()V"⟩
abbrev cX3_readOpening : ByteArray := prog_5_method_14_code
def yX3_readOpening : MethodName := ⟨RX3, "readOpening", "()V"⟩
abbrev cX3_readNumber : ByteArray := prog_5_method_15_code
def yX3_readNumber : MethodName := ⟨RX3, "readNumber", "(Z)I"⟩
abbrev cX3_skip : ByteArray := prog_5_method_16_code
def yX3_skip : MethodName := ⟨RX3, "skip", "(I)V"⟩
abbrev cX3_refuse : ByteArray := prog_5_method_17_code
def yX3_refuse : MethodName := ⟨RX3, "refuse", "(I)V"⟩
abbrev cX3_advance : ByteArray := prog_5_method_18_code
def yX3_advance : MethodName := ⟨RX3, "advance", "()V"⟩
abbrev cX3_isFigure : ByteArray := prog_5_method_19_code
def yX3_isFigure : MethodName := ⟨RX3, "isFigure", "(I)Z"⟩
def RX4 : String := "CharacterSums$Ring"
def TX4 : u_T := fun k => match k with
  | 0 => ("CharacterSums$Ring", "n", "I", false)
  | 1 => ("CharacterSums$Ring", "d", "I", false)
  | 2 => ("CharacterSums$Ring", "half", "I", false)
  | 3 => ("CharacterSums$Ring", "moving", "[Z", true)
  | 4 => ("CharacterSums$Ring", "gathered", "[J", true)
  | 5 => ("CharacterSums$Ring", "termPower", "[I", true)
  | 6 => ("CharacterSums$Ring", "termFactor", "[I", true)
  | _ => ("CharacterSums$Ring", "termCount", "I", false)
def tyX4 : Nat → FieldType := fun k => match k with
  | 0 => .int
  | 1 => .int
  | 2 => .int
  | 3 => .array .boolean
  | 4 => .array .long
  | 5 => .array .int
  | 6 => .array .int
  | _ => .int
abbrev wsX40 : List Cond := u_ws RX4 TX4 8
theorem nmX4 : ∀ a, a < 8 → ∀ b, b < 8 → a ≠ b → (TX4 a).2.1 ≠ (TX4 b).2.1 := by decide +kernel
theorem tyX4_ok : ∀ k, k < 8 → parseFieldDescriptor (TX4 k).2.2.1 = some (tyX4 k) := by decide +kernel
abbrev cX4_init : ByteArray := prog_6_method_1_code
def yX4_init : MethodName := ⟨RX4, "<init>", "()V"⟩
abbrev cX4_become : ByteArray := prog_6_method_2_code
def yX4_become : MethodName := ⟨RX4, "become", "(I)V"⟩
abbrev cX4_moves : ByteArray := prog_6_method_3_code
def yX4_moves : MethodName := ⟨RX4, "moves", "(I)Z"⟩
abbrev cX4_clear : ByteArray := prog_6_method_4_code
def yX4_clear : MethodName := ⟨RX4, "clear", "()V"⟩
abbrev cX4_add : ByteArray := prog_6_method_5_code
def yX4_add : MethodName := ⟨RX4, "add", "(JI)V"⟩
abbrev cX4_addValue : ByteArray := prog_6_method_6_code
def yX4_addValue : MethodName := ⟨RX4, "addValue", "([II)V"⟩
abbrev cX4_multiply : ByteArray := prog_6_method_7_code
def yX4_multiply : MethodName := ⟨RX4, "multiply", "([I[I)V"⟩
abbrev cX4_move : ByteArray := prog_6_method_8_code
def yX4_move : MethodName := ⟨RX4, "move", "([II)V"⟩
abbrev cX4_moveRoot : ByteArray := prog_6_method_9_code
def yX4_moveRoot : MethodName := ⟨RX4, "moveRoot", "(I)V"⟩
abbrev cX4_take : ByteArray := prog_6_method_10_code
def yX4_take : MethodName := ⟨RX4, "take", "([I)Z"⟩
abbrev cX4_terms : ByteArray := prog_6_method_11_code
def yX4_terms : MethodName := ⟨RX4, "terms", "([I)I"⟩
abbrev cX4_isWhole : ByteArray := prog_6_method_12_code
def yX4_isWhole : MethodName := ⟨RX4, "isWhole", "([I)Z"⟩
abbrev cX4_alikeValues : ByteArray := prog_6_method_13_code
def yX4_alikeValues : MethodName := ⟨RX4, "alikeValues", "([I[I)Z"⟩
abbrev cX4_staysWhenMoved : ByteArray := prog_6_method_14_code
def yX4_staysWhenMoved : MethodName := ⟨RX4, "staysWhenMoved", "([II)Z"⟩
abbrev cX4_unlikeMovings : ByteArray := prog_6_method_15_code
def yX4_unlikeMovings : MethodName := ⟨RX4, "unlikeMovings", "([I)I"⟩
abbrev cX4_firstStay : ByteArray := prog_6_method_16_code
def yX4_firstStay : MethodName := ⟨RX4, "firstStay", "([I)I"⟩
abbrev cX4_allMovings : ByteArray := prog_6_method_17_code
def yX4_allMovings : MethodName := ⟨RX4, "allMovings", "([I)J"⟩
abbrev cX4_addMoved : ByteArray := prog_6_method_18_code
def yX4_addMoved : MethodName := ⟨RX4, "addMoved", "([II)V"⟩
abbrev cX4_addShifted : ByteArray := prog_6_method_19_code
def yX4_addShifted : MethodName := ⟨RX4, "addShifted", "([IJI)V"⟩
abbrev cX4_reduce : ByteArray := prog_6_method_20_code
def yX4_reduce : MethodName := ⟨RX4, "reduce", "()V"⟩
abbrev cX4_findMovings : ByteArray := prog_6_method_21_code
def yX4_findMovings : MethodName := ⟨RX4, "findMovings", "()V"⟩
abbrev cX4_gatherCyclotomic : ByteArray := prog_6_method_22_code
def yX4_gatherCyclotomic : MethodName := ⟨RX4, "gatherCyclotomic", "()V"⟩
abbrev cX4_keepTerms : ByteArray := prog_6_method_23_code
def yX4_keepTerms : MethodName := ⟨RX4, "keepTerms", "()V"⟩
abbrev cX4_moebius : ByteArray := prog_6_method_24_code
def yX4_moebius : MethodName := ⟨RX4, "moebius", "(I)I"⟩
def RX5 : String := "CharacterSums$Speech"
def TX5 : u_T := fun k => match k with
  | 0 => ("CharacterSums$Speech", "bytes", "[B", true)
  | _ => ("CharacterSums$Speech", "length", "I", false)
def tyX5 : Nat → FieldType := fun k => match k with
  | 0 => .array .byte
  | _ => .int
abbrev wsX50 : List Cond := u_ws RX5 TX5 2
theorem nmX5 : ∀ a, a < 2 → ∀ b, b < 2 → a ≠ b → (TX5 a).2.1 ≠ (TX5 b).2.1 := by decide +kernel
theorem tyX5_ok : ∀ k, k < 2 → parseFieldDescriptor (TX5 k).2.2.1 = some (tyX5 k) := by decide +kernel
abbrev cX5_init : ByteArray := prog_7_method_1_code
def yX5_init : MethodName := ⟨RX5, "<init>", "()V"⟩
abbrev cX5_write : ByteArray := prog_7_method_2_code
def yX5_write : MethodName := ⟨RX5, "write", "([II)I"⟩
abbrev cX5_byteAt : ByteArray := prog_7_method_3_code
def yX5_byteAt : MethodName := ⟨RX5, "byteAt", "(I)I"⟩
abbrev cX5_putTerm : ByteArray := prog_7_method_4_code
def yX5_putTerm : MethodName := ⟨RX5, "putTerm", "(II)V"⟩
abbrev cX5_putNumber : ByteArray := prog_7_method_5_code
def yX5_putNumber : MethodName := ⟨RX5, "putNumber", "(I)V"⟩
abbrev cX5_put : ByteArray := prog_7_method_6_code
def yX5_put : MethodName := ⟨RX5, "put", "(I)V"⟩
def RX6 : String := "CharacterSums$Sums"
def TX6 : u_T := fun k => match k with
  | 0 => ("CharacterSums$Sums", "ground", "LCharacterSums$Field;", true)
  | 1 => ("CharacterSums$Sums", "ring", "LCharacterSums$Ring;", true)
  | _ => ("CharacterSums$Sums", "weights", "[I", true)
def tyX6 : Nat → FieldType := fun k => match k with
  | 0 => .object "CharacterSums$Field"
  | 1 => .object "CharacterSums$Ring"
  | _ => .array .int
abbrev wsX60 : List Cond := u_ws RX6 TX6 3
theorem nmX6 : ∀ a, a < 3 → ∀ b, b < 3 → a ≠ b → (TX6 a).2.1 ≠ (TX6 b).2.1 := by decide +kernel
theorem tyX6_ok : ∀ k, k < 3 → parseFieldDescriptor (TX6 k).2.2.1 = some (tyX6 k) := by decide +kernel
abbrev cX6_init : ByteArray := prog_8_method_1_code
def yX6_init : MethodName := ⟨RX6, "<init>", "(LCharacterSums$Field;LCharacterSums$Ring;[I)V"⟩
abbrev cX6_characterAt : ByteArray := prog_8_method_2_code
def yX6_characterAt : MethodName := ⟨RX6, "characterAt", "(II)I"⟩
abbrev cX6_gauss : ByteArray := prog_8_method_3_code
def yX6_gauss : MethodName := ⟨RX6, "gauss", "(II)V"⟩
abbrev cX6_jacobi : ByteArray := prog_8_method_4_code
def yX6_jacobi : MethodName := ⟨RX6, "jacobi", "(III)V"⟩
abbrev cX6_kloosterman : ByteArray := prog_8_method_5_code
def yX6_kloosterman : MethodName := ⟨RX6, "kloosterman", "(II)V"⟩
abbrev cX6_period : ByteArray := prog_8_method_6_code
def yX6_period : MethodName := ⟨RX6, "period", "(II)V"⟩
abbrev cX6_spectrum : ByteArray := prog_8_method_7_code
def yX6_spectrum : MethodName := ⟨RX6, "spectrum", "(I)V"⟩
abbrev cX6_mellin : ByteArray := prog_8_method_8_code
def yX6_mellin : MethodName := ⟨RX6, "mellin", "(I)V"⟩
abbrev cX6_waveAt : ByteArray := prog_8_method_9_code
def yX6_waveAt : MethodName := ⟨RX6, "waveAt", "(I)I"⟩
abbrev cX6_addBoth : ByteArray := prog_8_method_10_code
def yX6_addBoth : MethodName := ⟨RX6, "addBoth", "(III)V"⟩
def RX7 : String := "CharacterSums$Tower"
def TX7 : u_T := fun k => match k with
  | 0 => ("CharacterSums$Tower", "ground", "LCharacterSums$Field;", true)
  | 1 => ("CharacterSums$Tower", "logs", "[I", true)
  | 2 => ("CharacterSums$Tower", "size", "I", false)
  | 3 => ("CharacterSums$Tower", "loggedBase", "I", false)
  | _ => ("CharacterSums$Tower", "loggedSize", "I", false)
def tyX7 : Nat → FieldType := fun k => match k with
  | 0 => .object "CharacterSums$Field"
  | 1 => .array .int
  | 2 => .int
  | 3 => .int
  | _ => .int
abbrev wsX70 : List Cond := u_ws RX7 TX7 5
theorem nmX7 : ∀ a, a < 5 → ∀ b, b < 5 → a ≠ b → (TX7 a).2.1 ≠ (TX7 b).2.1 := by decide +kernel
theorem tyX7_ok : ∀ k, k < 5 → parseFieldDescriptor (TX7 k).2.2.1 = some (tyX7 k) := by decide +kernel
abbrev cX7_init : ByteArray := prog_9_method_1_code
def yX7_init : MethodName := ⟨RX7, "<init>", "(LCharacterSums$Field;)V"⟩
abbrev cX7_sizeOf : ByteArray := prog_9_method_2_code
def yX7_sizeOf : MethodName := ⟨RX7, "sizeOf", "(I)I"⟩
abbrev cX7_ways : ByteArray := prog_9_method_3_code
def yX7_ways : MethodName := ⟨RX7, "ways", "(III)I"⟩
abbrev cX7_roots : ByteArray := prog_9_method_4_code
def yX7_roots : MethodName := ⟨RX7, "roots", "(II)I"⟩
abbrev cX7_oneLess : ByteArray := prog_9_method_5_code
def yX7_oneLess : MethodName := ⟨RX7, "oneLess", "(I)I"⟩
abbrev cX7_fillLogs : ByteArray := prog_9_method_6_code
def yX7_fillLogs : MethodName := ⟨RX7, "fillLogs", "()V"⟩
abbrev cX7_walkPowers : ByteArray := prog_9_method_7_code
def yX7_walkPowers : MethodName := ⟨RX7, "walkPowers", "(I)Z"⟩
abbrev cX7_timesT : ByteArray := prog_9_method_8_code
def yX7_timesT : MethodName := ⟨RX7, "timesT", "(II)I"⟩
def RX8 : String := "CharacterSums$Worker"
def TX8 : u_T := fun k => match k with
  | 0 => ("CharacterSums$Worker", "ring", "LCharacterSums$Ring;", true)
  | 1 => ("CharacterSums$Worker", "sums", "LCharacterSums$Sums;", true)
  | 2 => ("CharacterSums$Worker", "places", "[[I", true)
  | 3 => ("CharacterSums$Worker", "stack", "[[I", true)
  | _ => ("CharacterSums$Worker", "height", "I", false)
def tyX8 : Nat → FieldType := fun k => match k with
  | 0 => .object "CharacterSums$Ring"
  | 1 => .object "CharacterSums$Sums"
  | 2 => .array (.array .int)
  | 3 => .array (.array .int)
  | _ => .int
abbrev wsX80 : List Cond := u_ws RX8 TX8 5
theorem nmX8 : ∀ a, a < 5 → ∀ b, b < 5 → a ≠ b → (TX8 a).2.1 ≠ (TX8 b).2.1 := by decide +kernel
theorem tyX8_ok : ∀ k, k < 5 → parseFieldDescriptor (TX8 k).2.2.1 = some (tyX8 k) := by decide +kernel
abbrev cX8_init : ByteArray := prog_10_method_1_code
def yX8_init : MethodName := ⟨RX8, "<init>", "(LCharacterSums$Ring;LCharacterSums$Sums;[[I)V"⟩
abbrev cX8_run : ByteArray := prog_10_method_2_code
def yX8_run : MethodName := ⟨RX8, "run", "(LCharacterSums$Program;)Z"⟩
abbrev cX8_result : ByteArray := prog_10_method_3_code
def yX8_result : MethodName := ⟨RX8, "result", "()[I"⟩
abbrev cX8_work : ByteArray := prog_10_method_4_code
def yX8_work : MethodName := ⟨RX8, "work", "(LCharacterSums$Program;I)Z"⟩
abbrev cX8_push : ByteArray := prog_10_method_5_code
def yX8_push : MethodName := ⟨RX8, "push", "(LCharacterSums$Program;I)Z"⟩
abbrev cX8_gather : ByteArray := prog_10_method_6_code
def yX8_gather : MethodName := ⟨RX8, "gather", "([II)V"⟩
abbrev cX8_gatherRoot : ByteArray := prog_10_method_7_code
def yX8_gatherRoot : MethodName := ⟨RX8, "gatherRoot", "(II)V"⟩
abbrev cX8_negate : ByteArray := prog_10_method_8_code
def yX8_negate : MethodName := ⟨RX8, "negate", "()Z"⟩
abbrev cX8_move : ByteArray := prog_10_method_9_code
def yX8_move : MethodName := ⟨RX8, "move", "(I)Z"⟩
abbrev cX8_join : ByteArray := prog_10_method_10_code
def yX8_join : MethodName := ⟨RX8, "join", "(I)Z"⟩
abbrev cX8_multiply : ByteArray := prog_10_method_11_code
def yX8_multiply : MethodName := ⟨RX8, "multiply", "()Z"⟩
abbrev cX8_raise : ByteArray := prog_10_method_12_code
def yX8_raise : MethodName := ⟨RX8, "raise", "(I)Z"⟩
def RX9 : String := "CharacterSums"
def TX9 : u_T := fun k => match k with
  | 0 => ("CharacterSums", "ground", "LCharacterSums$Field;", true)
  | 1 => ("CharacterSums", "ring", "LCharacterSums$Ring;", true)
  | 2 => ("CharacterSums", "sums", "LCharacterSums$Sums;", true)
  | 3 => ("CharacterSums", "counting", "LCharacterSums$Counting;", true)
  | 4 => ("CharacterSums", "tower", "LCharacterSums$Tower;", true)
  | 5 => ("CharacterSums", "reader", "LCharacterSums$Reader;", true)
  | 6 => ("CharacterSums", "worker", "LCharacterSums$Worker;", true)
  | 7 => ("CharacterSums", "speech", "LCharacterSums$Speech;", true)
  | 8 => ("CharacterSums", "places", "[[I", true)
  | 9 => ("CharacterSums", "weights", "[I", true)
  | 10 => ("CharacterSums", "tape", "[I", true)
  | 11 => ("CharacterSums", "taped", "I", false)
  | _ => ("CharacterSums", "faultPlace", "I", false)
def tyX9 : Nat → FieldType := fun k => match k with
  | 0 => .object "CharacterSums$Field"
  | 1 => .object "CharacterSums$Ring"
  | 2 => .object "CharacterSums$Sums"
  | 3 => .object "CharacterSums$Counting"
  | 4 => .object "CharacterSums$Tower"
  | 5 => .object "CharacterSums$Reader"
  | 6 => .object "CharacterSums$Worker"
  | 7 => .object "CharacterSums$Speech"
  | 8 => .array (.array .int)
  | 9 => .array .int
  | 10 => .array .int
  | 11 => .int
  | _ => .int
abbrev wsX90 : List Cond := u_ws RX9 TX9 13
theorem nmX9 : ∀ a, a < 13 → ∀ b, b < 13 → a ≠ b → (TX9 a).2.1 ≠ (TX9 b).2.1 := by decide +kernel
theorem tyX9_ok : ∀ k, k < 13 → parseFieldDescriptor (TX9 k).2.2.1 = some (tyX9 k) := by decide +kernel
abbrev cX9_init : ByteArray := prog_1_method_1_code
def yX9_init : MethodName := ⟨RX9, "<init>", "()V"⟩
abbrev cX9_field : ByteArray := prog_1_method_2_code
def yX9_field : MethodName := ⟨RX9, "field", "(II)I"⟩
abbrev cX9_feed : ByteArray := prog_1_method_3_code
def yX9_feed : MethodName := ⟨RX9, "feed", "(IIIII)I"⟩
abbrev cX9_tell : ByteArray := prog_1_method_4_code
def yX9_tell : MethodName := ⟨RX9, "tell", "(II)I"⟩
abbrev cX9_fault : ByteArray := prog_1_method_5_code
def yX9_fault : MethodName := ⟨RX9, "fault", "()I"⟩
abbrev cX9_count : ByteArray := prog_1_method_6_code
def yX9_count : MethodName := ⟨RX9, "count", "(I)I"⟩
abbrev cX9_element : ByteArray := prog_1_method_7_code
def yX9_element : MethodName := ⟨RX9, "element", "(III)I"⟩
abbrev cX9_log : ByteArray := prog_1_method_8_code
def yX9_log : MethodName := ⟨RX9, "log", "(I)I"⟩
abbrev cX9_trace : ByteArray := prog_1_method_9_code
def yX9_trace : MethodName := ⟨RX9, "trace", "(I)I"⟩
abbrev cX9_character : ByteArray := prog_1_method_10_code
def yX9_character : MethodName := ⟨RX9, "character", "(II)I"⟩
abbrev cX9_order : ByteArray := prog_1_method_11_code
def yX9_order : MethodName := ⟨RX9, "order", "(I)I"⟩
abbrev cX9_coefficient : ByteArray := prog_1_method_12_code
def yX9_coefficient : MethodName := ⟨RX9, "coefficient", "(II)I"⟩
abbrev cX9_of : ByteArray := prog_1_method_13_code
def yX9_of : MethodName := ⟨RX9, "of", "(II)J"⟩
abbrev cX9_same : ByteArray := prog_1_method_14_code
def yX9_same : MethodName := ⟨RX9, "same", "(II)Z"⟩
abbrev cX9_make : ByteArray := prog_1_method_15_code
def yX9_make : MethodName := ⟨RX9, "make", "(IIIII)I"⟩
abbrev cX9_divide : ByteArray := prog_1_method_16_code
def yX9_divide : MethodName := ⟨RX9, "divide", "(III)I"⟩
abbrev cX9_solutions : ByteArray := prog_1_method_17_code
def yX9_solutions : MethodName := ⟨RX9, "solutions", "(IIIII)I"⟩
abbrev cX9_points : ByteArray := prog_1_method_18_code
def yX9_points : MethodName := ⟨RX9, "points", "(IIII)I"⟩
abbrev cX9_rows : ByteArray := prog_1_method_19_code
def yX9_rows : MethodName := ⟨RX9, "rows", "(III)I"⟩
abbrev cX9_lifted : ByteArray := prog_1_method_20_code
def yX9_lifted : MethodName := ⟨RX9, "lifted", "(III)I"⟩
abbrev cX9_curve : ByteArray := prog_1_method_21_code
def yX9_curve : MethodName := ⟨RX9, "curve", "(II)I"⟩
abbrev cX9_least : ByteArray := prog_1_method_22_code
def yX9_least : MethodName := ⟨RX9, "least", "(II)I"⟩
abbrev cX9_let : ByteArray := prog_1_method_23_code
def yX9_let : MethodName := ⟨RX9, "let", "(II)I"⟩
abbrev cX9_alike : ByteArray := prog_1_method_24_code
def yX9_alike : MethodName := ⟨RX9, "alike", "(I)I"⟩
abbrev cX9_mark : ByteArray := prog_1_method_25_code
def yX9_mark : MethodName := ⟨RX9, "mark", "(I)I"⟩
abbrev cX9_differences : ByteArray := prog_1_method_26_code
def yX9_differences : MethodName := ⟨RX9, "differences", "(I)I"⟩
abbrev cX9_cyclotomic : ByteArray := prog_1_method_27_code
def yX9_cyclotomic : MethodName := ⟨RX9, "cyclotomic", "(III)I"⟩
abbrev cX9_say : ByteArray := prog_1_method_28_code
def yX9_say : MethodName := ⟨RX9, "say", "(I)I"⟩
abbrev cX9_said : ByteArray := prog_1_method_29_code
def yX9_said : MethodName := ⟨RX9, "said", "(I)I"⟩
abbrev cX9_enter : ByteArray := prog_1_method_30_code
def yX9_enter : MethodName := ⟨RX9, "enter", "(III)V"⟩
abbrev cX9_append : ByteArray := prog_1_method_31_code
def yX9_append : MethodName := ⟨RX9, "append", "(I)V"⟩
abbrev cX9_isPlace : ByteArray := prog_1_method_32_code
def yX9_isPlace : MethodName := ⟨RX9, "isPlace", "(I)Z"⟩
abbrev cX9_canMake : ByteArray := prog_1_method_33_code
def yX9_canMake : MethodName := ⟨RX9, "canMake", "(IIII)Z"⟩
abbrev cX9_needElement : ByteArray := prog_1_method_34_code
def yX9_needElement : MethodName := ⟨RX9, "needElement", "(I)V"⟩
abbrev cX9_needCharacter : ByteArray := prog_1_method_35_code
def yX9_needCharacter : MethodName := ⟨RX9, "needCharacter", "(I)V"⟩
abbrev cX9_needPlace : ByteArray := prog_1_method_36_code
def yX9_needPlace : MethodName := ⟨RX9, "needPlace", "(I)V"⟩
abbrev cX9_needSet : ByteArray := prog_1_method_37_code
def yX9_needSet : MethodName := ⟨RX9, "needSet", "(I)V"⟩
abbrev cX9_needExponent : ByteArray := prog_1_method_38_code
def yX9_needExponent : MethodName := ⟨RX9, "needExponent", "(I)V"⟩
def RX10 : String := "CharacterSumsModel"
def TX10 : u_T := fun k => match k with
  | 0 => ("CharacterSumsModel", "primes", "[I", true)
  | 1 => ("CharacterSumsModel", "code", "I", false)
  | 2 => ("CharacterSumsModel", "p", "I", false)
  | 3 => ("CharacterSumsModel", "k", "I", false)
  | 4 => ("CharacterSumsModel", "q", "I", false)
  | 5 => ("CharacterSumsModel", "modulus", "I", false)
  | 6 => ("CharacterSumsModel", "generator", "I", false)
  | 7 => ("CharacterSumsModel", "sums", "[I", true)
  | 8 => ("CharacterSumsModel", "products", "[I", true)
  | 9 => ("CharacterSumsModel", "less", "[I", true)
  | 10 => ("CharacterSumsModel", "logs", "[I", true)
  | 11 => ("CharacterSumsModel", "powersOf", "[I", true)
  | 12 => ("CharacterSumsModel", "traces", "[I", true)
  | 13 => ("CharacterSumsModel", "longer", "[I", true)
  | 14 => ("CharacterSumsModel", "n", "I", false)
  | 15 => ("CharacterSumsModel", "d", "I", false)
  | 16 => ("CharacterSumsModel", "root", "[J", true)
  | 17 => ("CharacterSumsModel", "work", "[J", true)
  | 18 => ("CharacterSumsModel", "rest", "[J", true)
  | 19 => ("CharacterSumsModel", "over", "[J", true)
  | 20 => ("CharacterSumsModel", "known", "[J", true)
  | 21 => ("CharacterSumsModel", "knownOf", "[I", true)
  | 22 => ("CharacterSumsModel", "knownLong", "[I", true)
  | 23 => ("CharacterSumsModel", "knownMany", "I", false)
  | 24 => ("CharacterSumsModel", "value", "[J", true)
  | 25 => ("CharacterSumsModel", "counts", "[J", true)
  | 26 => ("CharacterSumsModel", "f", "[I", true)
  | 27 => ("CharacterSumsModel", "tape", "[I", true)
  | 28 => ("CharacterSumsModel", "taped", "I", false)
  | 29 => ("CharacterSumsModel", "size", "I", false)
  | 30 => ("CharacterSumsModel", "spot", "I", false)
  | 31 => ("CharacterSumsModel", "begins", "I", false)
  | 32 => ("CharacterSumsModel", "token", "I", false)
  | 33 => ("CharacterSumsModel", "number", "I", false)
  | 34 => ("CharacterSumsModel", "bad", "I", false)
  | 35 => ("CharacterSumsModel", "badPlace", "I", false)
  | 36 => ("CharacterSumsModel", "faultPlace", "I", false)
  | 37 => ("CharacterSumsModel", "open", "I", false)
  | 38 => ("CharacterSumsModel", "temps", "I", false)
  | 39 => ("CharacterSumsModel", "isReckoning", "Z", false)
  | 40 => ("CharacterSumsModel", "isGreat", "Z", false)
  | 41 => ("CharacterSumsModel", "ways", "[I", true)
  | 42 => ("CharacterSumsModel", "waysThen", "[I", true)
  | 43 => ("CharacterSumsModel", "powersTo", "[I", true)
  | 44 => ("CharacterSumsModel", "largePower", "[I", true)
  | 45 => ("CharacterSumsModel", "largeOnes", "[I", true)
  | 46 => ("CharacterSumsModel", "largeTwos", "[I", true)
  | 47 => ("CharacterSumsModel", "largeSize", "I", false)
  | 48 => ("CharacterSumsModel", "largeDegree", "I", false)
  | 49 => ("CharacterSumsModel", "least", "[I", true)
  | 50 => ("CharacterSumsModel", "leastThen", "[I", true)
  | 51 => ("CharacterSumsModel", "text", "[I", true)
  | _ => ("CharacterSumsModel", "textMany", "I", false)
def tyX10 : Nat → FieldType := fun k => match k with
  | 0 => .array .int
  | 1 => .int
  | 2 => .int
  | 3 => .int
  | 4 => .int
  | 5 => .int
  | 6 => .int
  | 7 => .array .int
  | 8 => .array .int
  | 9 => .array .int
  | 10 => .array .int
  | 11 => .array .int
  | 12 => .array .int
  | 13 => .array .int
  | 14 => .int
  | 15 => .int
  | 16 => .array .long
  | 17 => .array .long
  | 18 => .array .long
  | 19 => .array .long
  | 20 => .array .long
  | 21 => .array .int
  | 22 => .array .int
  | 23 => .int
  | 24 => .array .long
  | 25 => .array .long
  | 26 => .array .int
  | 27 => .array .int
  | 28 => .int
  | 29 => .int
  | 30 => .int
  | 31 => .int
  | 32 => .int
  | 33 => .int
  | 34 => .int
  | 35 => .int
  | 36 => .int
  | 37 => .int
  | 38 => .int
  | 39 => .boolean
  | 40 => .boolean
  | 41 => .array .int
  | 42 => .array .int
  | 43 => .array .int
  | 44 => .array .int
  | 45 => .array .int
  | 46 => .array .int
  | 47 => .int
  | 48 => .int
  | 49 => .array .int
  | 50 => .array .int
  | 51 => .array .int
  | _ => .int
abbrev wsX100 : List Cond := u_ws RX10 TX10 53
theorem nmX10 : ∀ a, a < 53 → ∀ b, b < 53 → a ≠ b → (TX10 a).2.1 ≠ (TX10 b).2.1 := by decide +kernel
theorem tyX10_ok : ∀ k, k < 53 → parseFieldDescriptor (TX10 k).2.2.1 = some (tyX10 k) := by decide +kernel
abbrev cX10_init : ByteArray := prog_12_method_1_code
def yX10_init : MethodName := ⟨RX10, "<init>", "()V"⟩
abbrev cX10_thrown : ByteArray := prog_12_method_2_code
def yX10_thrown : MethodName := ⟨RX10, "thrown", "()I"⟩
abbrev cX10_fail : ByteArray := prog_12_method_3_code
def yX10_fail : MethodName := ⟨RX10, "fail", "(I)I"⟩
abbrev cX10_isIn : ByteArray := prog_12_method_4_code
def yX10_isIn : MethodName := ⟨RX10, "isIn", "(JJJ)Z"⟩
abbrev cX10_common : ByteArray := prog_12_method_5_code
def yX10_common : MethodName := ⟨RX10, "common", "(II)I"⟩
abbrev cX10_powerOf : ByteArray := prog_12_method_6_code
def yX10_powerOf : MethodName := ⟨RX10, "powerOf", "(II)I"⟩
abbrev cX10_digit : ByteArray := prog_12_method_7_code
def yX10_digit : MethodName := ⟨RX10, "digit", "(II)I"⟩
abbrev cX10_addDigits : ByteArray := prog_12_method_8_code
def yX10_addDigits : MethodName := ⟨RX10, "addDigits", "(II)I"⟩
abbrev cX10_multiplyBy : ByteArray := prog_12_method_9_code
def yX10_multiplyBy : MethodName := ⟨RX10, "multiplyBy", "(III)I"⟩
abbrev cX10_isPrime : ByteArray := prog_12_method_10_code
def yX10_isPrime : MethodName := ⟨RX10, "isPrime", "(I)Z"⟩
abbrev cX10_sumOf : ByteArray := prog_12_method_11_code
def yX10_sumOf : MethodName := ⟨RX10, "sumOf", "(II)I"⟩
abbrev cX10_productOf : ByteArray := prog_12_method_12_code
def yX10_productOf : MethodName := ⟨RX10, "productOf", "(II)I"⟩
abbrev cX10_raise : ByteArray := prog_12_method_13_code
def yX10_raise : MethodName := ⟨RX10, "raise", "(II)I"⟩
abbrev cX10_orderOf : ByteArray := prog_12_method_14_code
def yX10_orderOf : MethodName := ⟨RX10, "orderOf", "(I)I"⟩
abbrev cX10_begin : ByteArray := prog_12_method_15_code
def yX10_begin : MethodName := ⟨RX10, "begin", "(II)I"⟩
abbrev cX10_traceOf : ByteArray := prog_12_method_16_code
def yX10_traceOf : MethodName := ⟨RX10, "traceOf", "(I)I"⟩
abbrev cX10_quotientOf : ByteArray := prog_12_method_17_code
def yX10_quotientOf : MethodName := ⟨RX10, "quotientOf", "(II)I"⟩
abbrev cX10_differenceOf : ByteArray := prog_12_method_18_code
def yX10_differenceOf : MethodName := ⟨RX10, "differenceOf", "(II)I"⟩
abbrev cX10_isElement : ByteArray := prog_12_method_19_code
def yX10_isElement : MethodName := ⟨RX10, "isElement", "(I)Z"⟩
abbrev cX10_isCharacter : ByteArray := prog_12_method_20_code
def yX10_isCharacter : MethodName := ⟨RX10, "isCharacter", "(I)Z"⟩
abbrev cX10_divide : ByteArray := prog_12_method_21_code
def yX10_divide : MethodName := ⟨RX10, "divide", "([JII)V"⟩
abbrev cX10_layRoot : ByteArray := prog_12_method_22_code
def yX10_layRoot : MethodName := ⟨RX10, "layRoot", "()V"⟩
abbrev cX10_isMoving : ByteArray := prog_12_method_23_code
def yX10_isMoving : MethodName := ⟨RX10, "isMoving", "(I)Z"⟩
abbrev cX10_cell : ByteArray := prog_12_method_24_code
def yX10_cell : MethodName := ⟨RX10, "cell", "(II)I"⟩
abbrev cX10_clear : ByteArray := prog_12_method_25_code
def yX10_clear : MethodName := ⟨RX10, "clear", "(I)V"⟩
abbrev cX10_copy : ByteArray := prog_12_method_26_code
def yX10_copy : MethodName := ⟨RX10, "copy", "(II)V"⟩
abbrev cX10_forget : ByteArray := prog_12_method_27_code
def yX10_forget : MethodName := ⟨RX10, "forget", "()V"⟩
abbrev cX10_counts : ByteArray := prog_12_method_28_code
def yX10_counts : MethodName := ⟨RX10, "counts", "(JJ)V"⟩
abbrev cX10_take : ByteArray := prog_12_method_29_code
def yX10_take : MethodName := ⟨RX10, "take", "(I)Z"⟩
abbrev cX10_filled : ByteArray := prog_12_method_30_code
def yX10_filled : MethodName := ⟨RX10, "filled", "(I)I"⟩
abbrev cX10_isSame : ByteArray := prog_12_method_31_code
def yX10_isSame : MethodName := ⟨RX10, "isSame", "(II)Z"⟩
abbrev cX10_sum : ByteArray := prog_12_method_32_code
def yX10_sum : MethodName := ⟨RX10, "sum", "(IIIJ)Z"⟩
abbrev cX10_product : ByteArray := prog_12_method_33_code
def yX10_product : MethodName := ⟨RX10, "product", "(III)Z"⟩
abbrev cX10_move : ByteArray := prog_12_method_34_code
def yX10_move : MethodName := ⟨RX10, "move", "(III)Z"⟩
abbrev cX10_whole : ByteArray := prog_12_method_35_code
def yX10_whole : MethodName := ⟨RX10, "whole", "(IJ)Z"⟩
abbrev cX10_characterOf : ByteArray := prog_12_method_36_code
def yX10_characterOf : MethodName := ⟨RX10, "characterOf", "(II)I"⟩
abbrev cX10_waveOf : ByteArray := prog_12_method_37_code
def yX10_waveOf : MethodName := ⟨RX10, "waveOf", "(I)I"⟩
abbrev cX10_gauss : ByteArray := prog_12_method_38_code
def yX10_gauss : MethodName := ⟨RX10, "gauss", "(III)Z"⟩
abbrev cX10_jacobi : ByteArray := prog_12_method_39_code
def yX10_jacobi : MethodName := ⟨RX10, "jacobi", "(IIII)Z"⟩
abbrev cX10_kloosterman : ByteArray := prog_12_method_40_code
def yX10_kloosterman : MethodName := ⟨RX10, "kloosterman", "(III)Z"⟩
abbrev cX10_isClass : ByteArray := prog_12_method_41_code
def yX10_isClass : MethodName := ⟨RX10, "isClass", "(II)Z"⟩
abbrev cX10_period : ByteArray := prog_12_method_42_code
def yX10_period : MethodName := ⟨RX10, "period", "(III)Z"⟩
abbrev cX10_spectrum : ByteArray := prog_12_method_43_code
def yX10_spectrum : MethodName := ⟨RX10, "spectrum", "(II)Z"⟩
abbrev cX10_mellin : ByteArray := prog_12_method_44_code
def yX10_mellin : MethodName := ⟨RX10, "mellin", "(II)Z"⟩
abbrev cX10_movings : ByteArray := prog_12_method_45_code
def yX10_movings : MethodName := ⟨RX10, "movings", "(II)Z"⟩
abbrev cX10_feed : ByteArray := prog_12_method_46_code
def yX10_feed : MethodName := ⟨RX10, "feed", "(IIIII)I"⟩
abbrev cX10_isFigure : ByteArray := prog_12_method_47_code
def yX10_isFigure : MethodName := ⟨RX10, "isFigure", "(I)Z"⟩
abbrev cX10_byteAt : ByteArray := prog_12_method_48_code
def yX10_byteAt : MethodName := ⟨RX10, "byteAt", "(I)I"⟩
abbrev cX10_step : ByteArray := prog_12_method_49_code
def yX10_step : MethodName := ⟨RX10, "step", "()V"⟩
abbrev cX10_wrong : ByteArray := prog_12_method_50_code
def yX10_wrong : MethodName := ⟨RX10, "wrong", "(I)V"⟩
abbrev cX10_pass : ByteArray := prog_12_method_51_code
def yX10_pass : MethodName := ⟨RX10, "pass", "()V"⟩
abbrev cX10_must : ByteArray := prog_12_method_52_code
def yX10_must : MethodName := ⟨RX10, "must", "(I)V"⟩
abbrev cX10_readNumber : ByteArray := prog_12_method_53_code
def yX10_readNumber : MethodName := ⟨RX10, "readNumber", "(I)I"⟩
abbrev cX10_isGoing : ByteArray := prog_12_method_54_code
def yX10_isGoing : MethodName := ⟨RX10, "isGoing", "()Z"⟩
abbrev cX10_comes : ByteArray := prog_12_method_55_code
def yX10_comes : MethodName := ⟨RX10, "comes", "(Z)V"⟩
abbrev cX10_readRow : ByteArray := prog_12_method_56_code
def yX10_readRow : MethodName := ⟨RX10, "readRow", "()I"⟩
abbrev cX10_readTerm : ByteArray := prog_12_method_57_code
def yX10_readTerm : MethodName := ⟨RX10, "readTerm", "()I"⟩
abbrev cX10_readFactor : ByteArray := prog_12_method_58_code
def yX10_readFactor : MethodName := ⟨RX10, "readFactor", "()I"⟩
abbrev cX10_raiseValue : ByteArray := prog_12_method_59_code
def yX10_raiseValue : MethodName := ⟨RX10, "raiseValue", "(II)V"⟩
abbrev cX10_opens : ByteArray := prog_12_method_60_code
def yX10_opens : MethodName := ⟨RX10, "opens", "()V"⟩
abbrev cX10_readAtom : ByteArray := prog_12_method_61_code
def yX10_readAtom : MethodName := ⟨RX10, "readAtom", "()I"⟩
abbrev cX10_zero : ByteArray := prog_12_method_62_code
def yX10_zero : MethodName := ⟨RX10, "zero", "()I"⟩
abbrev cX10_moveHere : ByteArray := prog_12_method_63_code
def yX10_moveHere : MethodName := ⟨RX10, "moveHere", "(II)V"⟩
abbrev cX10_readMoving : ByteArray := prog_12_method_64_code
def yX10_readMoving : MethodName := ⟨RX10, "readMoving", "()I"⟩
abbrev cX10_readElement : ByteArray := prog_12_method_65_code
def yX10_readElement : MethodName := ⟨RX10, "readElement", "()I"⟩
abbrev cX10_readCharacter : ByteArray := prog_12_method_66_code
def yX10_readCharacter : MethodName := ⟨RX10, "readCharacter", "()I"⟩
abbrev cX10_readPlain : ByteArray := prog_12_method_67_code
def yX10_readPlain : MethodName := ⟨RX10, "readPlain", "(I)V"⟩
abbrev cX10_readRoot : ByteArray := prog_12_method_68_code
def yX10_readRoot : MethodName := ⟨RX10, "readRoot", "(I)V"⟩
abbrev cX10_readPlace : ByteArray := prog_12_method_69_code
def yX10_readPlace : MethodName := ⟨RX10, "readPlace", "(I)V"⟩
abbrev cX10_readPeriod : ByteArray := prog_12_method_70_code
def yX10_readPeriod : MethodName := ⟨RX10, "readPeriod", "(I)V"⟩
abbrev cX10_readSum : ByteArray := prog_12_method_71_code
def yX10_readSum : MethodName := ⟨RX10, "readSum", "(II)V"⟩
abbrev cX10_readAll : ByteArray := prog_12_method_72_code
def yX10_readAll : MethodName := ⟨RX10, "readAll", "(IZ)I"⟩
abbrev cX10_isPlace : ByteArray := prog_12_method_73_code
def yX10_isPlace : MethodName := ⟨RX10, "isPlace", "(I)Z"⟩
abbrev cX10_tell : ByteArray := prog_12_method_74_code
def yX10_tell : MethodName := ⟨RX10, "tell", "(II)I"⟩
abbrev cX10_fault : ByteArray := prog_12_method_75_code
def yX10_fault : MethodName := ⟨RX10, "fault", "()I"⟩
abbrev cX10_field : ByteArray := prog_12_method_76_code
def yX10_field : MethodName := ⟨RX10, "field", "(II)I"⟩
abbrev cX10_count : ByteArray := prog_12_method_77_code
def yX10_count : MethodName := ⟨RX10, "count", "(I)I"⟩
abbrev cX10_element : ByteArray := prog_12_method_78_code
def yX10_element : MethodName := ⟨RX10, "element", "(III)I"⟩
abbrev cX10_log : ByteArray := prog_12_method_79_code
def yX10_log : MethodName := ⟨RX10, "log", "(I)I"⟩
abbrev cX10_trace : ByteArray := prog_12_method_80_code
def yX10_trace : MethodName := ⟨RX10, "trace", "(I)I"⟩
abbrev cX10_character : ByteArray := prog_12_method_81_code
def yX10_character : MethodName := ⟨RX10, "character", "(II)I"⟩
abbrev cX10_order : ByteArray := prog_12_method_82_code
def yX10_order : MethodName := ⟨RX10, "order", "(I)I"⟩
abbrev cX10_coefficient : ByteArray := prog_12_method_83_code
def yX10_coefficient : MethodName := ⟨RX10, "coefficient", "(II)I"⟩
abbrev cX10_isWhole : ByteArray := prog_12_method_84_code
def yX10_isWhole : MethodName := ⟨RX10, "isWhole", "(I)Z"⟩
abbrev cX10_staysBy : ByteArray := prog_12_method_85_code
def yX10_staysBy : MethodName := ⟨RX10, "staysBy", "(II)Z"⟩
abbrev cX10_unlike : ByteArray := prog_12_method_86_code
def yX10_unlike : MethodName := ⟨RX10, "unlike", "(I)I"⟩
abbrev cX10_allMoved : ByteArray := prog_12_method_87_code
def yX10_allMoved : MethodName := ⟨RX10, "allMoved", "(I)J"⟩
abbrev cX10_leastMoving : ByteArray := prog_12_method_88_code
def yX10_leastMoving : MethodName := ⟨RX10, "leastMoving", "(I)I"⟩
abbrev cX10_of : ByteArray := prog_12_method_89_code
def yX10_of : MethodName := ⟨RX10, "of", "(II)J"⟩
abbrev cX10_same : ByteArray := prog_12_method_90_code
def yX10_same : MethodName := ⟨RX10, "same", "(II)Z"⟩
abbrev cX10_canMake : ByteArray := prog_12_method_91_code
def yX10_canMake : MethodName := ⟨RX10, "canMake", "(IIII)Z"⟩
abbrev cX10_does : ByteArray := prog_12_method_92_code
def yX10_does : MethodName := ⟨RX10, "does", "(IIII)Z"⟩
abbrev cX10_make : ByteArray := prog_12_method_93_code
def yX10_make : MethodName := ⟨RX10, "make", "(IIIII)I"⟩
abbrev cX10_divide_ : ByteArray := prog_12_method_94_code
def yX10_divide_ : MethodName := ⟨RX10, "divide", "(III)I"⟩
abbrev cX10_layPowers : ByteArray := prog_12_method_95_code
def yX10_layPowers : MethodName := ⟨RX10, "layPowers", "(I)V"⟩
abbrev cX10_solutions : ByteArray := prog_12_method_96_code
def yX10_solutions : MethodName := ⟨RX10, "solutions", "(IIIII)I"⟩
abbrev cX10_points : ByteArray := prog_12_method_97_code
def yX10_points : MethodName := ⟨RX10, "points", "(IIII)I"⟩
abbrev cX10_joins : ByteArray := prog_12_method_98_code
def yX10_joins : MethodName := ⟨RX10, "joins", "(I)V"⟩
abbrev cX10_rows : ByteArray := prog_12_method_99_code
def yX10_rows : MethodName := ⟨RX10, "rows", "(III)I"⟩
abbrev cX10_curve : ByteArray := prog_12_method_100_code
def yX10_curve : MethodName := ⟨RX10, "curve", "(II)I"⟩
abbrev cX10_onByOne : ByteArray := prog_12_method_101_code
def yX10_onByOne : MethodName := ⟨RX10, "onByOne", "(II)I"⟩
abbrev cX10_makesAll : ByteArray := prog_12_method_102_code
def yX10_makesAll : MethodName := ⟨RX10, "makesAll", "(I)Z"⟩
abbrev cX10_lessLarge : ByteArray := prog_12_method_103_code
def yX10_lessLarge : MethodName := ⟨RX10, "lessLarge", "(I)I"⟩
abbrev cX10_lifted : ByteArray := prog_12_method_104_code
def yX10_lifted : MethodName := ⟨RX10, "lifted", "(III)I"⟩
abbrev cX10_layLeast : ByteArray := prog_12_method_105_code
def yX10_layLeast : MethodName := ⟨RX10, "layLeast", "(I)I"⟩
abbrev cX10_normOf : ByteArray := prog_12_method_106_code
def yX10_normOf : MethodName := ⟨RX10, "normOf", "(I)I"⟩
abbrev cX10_least : ByteArray := prog_12_method_107_code
def yX10_least : MethodName := ⟨RX10, "least", "(II)I"⟩
abbrev cX10_let : ByteArray := prog_12_method_108_code
def yX10_let : MethodName := ⟨RX10, "let", "(II)I"⟩
abbrev cX10_alike : ByteArray := prog_12_method_109_code
def yX10_alike : MethodName := ⟨RX10, "alike", "(I)I"⟩
abbrev cX10_isOf : ByteArray := prog_12_method_110_code
def yX10_isOf : MethodName := ⟨RX10, "isOf", "(II)Z"⟩
abbrev cX10_isSet : ByteArray := prog_12_method_111_code
def yX10_isSet : MethodName := ⟨RX10, "isSet", "(I)Z"⟩
abbrev cX10_mark : ByteArray := prog_12_method_112_code
def yX10_mark : MethodName := ⟨RX10, "mark", "(I)I"⟩
abbrev cX10_pairsBy : ByteArray := prog_12_method_113_code
def yX10_pairsBy : MethodName := ⟨RX10, "pairsBy", "(II)I"⟩
abbrev cX10_differences : ByteArray := prog_12_method_114_code
def yX10_differences : MethodName := ⟨RX10, "differences", "(I)I"⟩
abbrev cX10_cyclotomic : ByteArray := prog_12_method_115_code
def yX10_cyclotomic : MethodName := ⟨RX10, "cyclotomic", "(III)I"⟩
abbrev cX10_write : ByteArray := prog_12_method_116_code
def yX10_write : MethodName := ⟨RX10, "write", "(I)V"⟩
abbrev cX10_writeNumber : ByteArray := prog_12_method_117_code
def yX10_writeNumber : MethodName := ⟨RX10, "writeNumber", "(J)V"⟩
abbrev cX10_writePart : ByteArray := prog_12_method_118_code
def yX10_writePart : MethodName := ⟨RX10, "writePart", "(JI)V"⟩
abbrev cX10_say : ByteArray := prog_12_method_119_code
def yX10_say : MethodName := ⟨RX10, "say", "(I)I"⟩
abbrev cX10_said : ByteArray := prog_12_method_120_code
def yX10_said : MethodName := ⟨RX10, "said", "(I)I"⟩
def RJx145de : String := "java/io/Serializable"
def TJx145de : u_T := fun k => match k with
  | _ => ("", "", "", false)
def tyJx145de : Nat → FieldType := fun k => match k with
  | _ => .int
abbrev wsJx145de0 : List Cond := u_ws RJx145de TJx145de 0
theorem nmJx145de : ∀ a, a < 0 → ∀ b, b < 0 → a ≠ b → (TJx145de a).2.1 ≠ (TJx145de b).2.1 := by decide +kernel
theorem tyJx145de_ok : ∀ k, k < 0 → parseFieldDescriptor (TJx145de k).2.2.1 = some (tyJx145de k) := by decide +kernel
def RJ6 : String := "java/lang/Integer"
def TJ6 : u_T := fun k => match k with
  | _ => ("", "", "", false)
def tyJ6 : Nat → FieldType := fun k => match k with
  | _ => .int
abbrev wsJ60 : List Cond := u_ws RJ6 TJ6 0
theorem nmJ6 : ∀ a, a < 0 → ∀ b, b < 0 → a ≠ b → (TJ6 a).2.1 ≠ (TJ6 b).2.1 := by decide +kernel
theorem tyJ6_ok : ∀ k, k < 0 → parseFieldDescriptor (TJ6 k).2.2.1 = some (tyJ6 k) := by decide +kernel
abbrev cJ6_bitCount_0f7a4 : ByteArray := prog_16_method_49_code
def yJ6_bitCount_0f7a4 : MethodName := ⟨RJ6, "bitCount", "(I)I"⟩
def RJ9 : String := "java/lang/Math"
def TJ9 : u_T := fun k => match k with
  | _ => ("", "", "", false)
def tyJ9 : Nat → FieldType := fun k => match k with
  | _ => .int
abbrev wsJ90 : List Cond := u_ws RJ9 TJ9 0
theorem nmJ9 : ∀ a, a < 0 → ∀ b, b < 0 → a ≠ b → (TJ9 a).2.1 ≠ (TJ9 b).2.1 := by decide +kernel
theorem tyJ9_ok : ∀ k, k < 0 → parseFieldDescriptor (TJ9 k).2.2.1 = some (tyJ9 k) := by decide +kernel
abbrev cJ9_abs_0f7a4 : ByteArray := prog_17_method_59_code
def yJ9_abs_0f7a4 : MethodName := ⟨RJ9, "abs", "(I)I"⟩
abbrev cJ9_abs_067f4 : ByteArray := prog_17_method_61_code
def yJ9_abs_067f4 : MethodName := ⟨RJ9, "abs", "(J)J"⟩
abbrev cJ9_min_7cf53 : ByteArray := prog_17_method_69_code
def yJ9_min_7cf53 : MethodName := ⟨RJ9, "min", "(II)I"⟩
def RJ0 : String := "java/lang/String"
def TJ0 : u_T := fun k => match k with
  | _ => ("", "", "", false)
def tyJ0 : Nat → FieldType := fun k => match k with
  | _ => .int
abbrev wsJ00 : List Cond := u_ws RJ0 TJ0 0
theorem nmJ0 : ∀ a, a < 0 → ∀ b, b < 0 → a ≠ b → (TJ0 a).2.1 ≠ (TJ0 b).2.1 := by decide +kernel
theorem tyJ0_ok : ∀ k, k < 0 → parseFieldDescriptor (TJ0 k).2.2.1 = some (tyJ0 k) := by decide +kernel
def RJ10 : String := "java/lang/System"
def TJ10 : u_T := fun k => match k with
  | _ => ("", "", "", false)
def tyJ10 : Nat → FieldType := fun k => match k with
  | _ => .int
abbrev wsJ100 : List Cond := u_ws RJ10 TJ10 0
theorem nmJ10 : ∀ a, a < 0 → ∀ b, b < 0 → a ≠ b → (TJ10 a).2.1 ≠ (TJ10 b).2.1 := by decide +kernel
theorem tyJ10_ok : ∀ k, k < 0 → parseFieldDescriptor (TJ10 k).2.2.1 = some (tyJ10 k) := by decide +kernel
def RJ7 : String := "java/util/Arrays"
def TJ7 : u_T := fun k => match k with
  | _ => ("", "", "", false)
def tyJ7 : Nat → FieldType := fun k => match k with
  | _ => .int
abbrev wsJ70 : List Cond := u_ws RJ7 TJ7 0
theorem nmJ7 : ∀ a, a < 0 → ∀ b, b < 0 → a ≠ b → (TJ7 a).2.1 ≠ (TJ7 b).2.1 := by decide +kernel
theorem tyJ7_ok : ∀ k, k < 0 → parseFieldDescriptor (TJ7 k).2.2.1 = some (tyJ7 k) := by decide +kernel
abbrev cJ7_fill_d0a16 : ByteArray := prog_22_method_101_code
def yJ7_fill_d0a16 : MethodName := ⟨RJ7, "fill", "([JJ)V"⟩
abbrev cJ7_fill_53178 : ByteArray := prog_22_method_103_code
def yJ7_fill_53178 : MethodName := ⟨RJ7, "fill", "([II)V"⟩
def RL : String := "CharacterSumsLaw"
abbrev cL_tell : ByteArray := method_3_code
def yL_tell : MethodName := ⟨RL, "tell", "(LCharacterSums;II[J)I"⟩
abbrev cL_count : ByteArray := method_4_code
def yL_count : MethodName := ⟨RL, "count", "(LCharacterSums;I[J)I"⟩
abbrev cL_element : ByteArray := method_5_code
def yL_element : MethodName := ⟨RL, "element", "(LCharacterSums;III[J)I"⟩
abbrev cL_log : ByteArray := method_6_code
def yL_log : MethodName := ⟨RL, "log", "(LCharacterSums;I[J)I"⟩
abbrev cL_trace : ByteArray := method_7_code
def yL_trace : MethodName := ⟨RL, "trace", "(LCharacterSums;I[J)I"⟩
abbrev cL_character : ByteArray := method_8_code
def yL_character : MethodName := ⟨RL, "character", "(LCharacterSums;II[J)I"⟩
abbrev cL_order : ByteArray := method_9_code
def yL_order : MethodName := ⟨RL, "order", "(LCharacterSums;I[J)I"⟩
abbrev cL_coefficient : ByteArray := method_10_code
def yL_coefficient : MethodName := ⟨RL, "coefficient", "(LCharacterSums;II[J)I"⟩
abbrev cL_of : ByteArray := method_11_code
def yL_of : MethodName := ⟨RL, "of", "(LCharacterSums;II[J)I"⟩
abbrev cL_same : ByteArray := method_12_code
def yL_same : MethodName := ⟨RL, "same", "(LCharacterSums;II[J)I"⟩
abbrev cL_solutions : ByteArray := method_13_code
def yL_solutions : MethodName := ⟨RL, "solutions", "(LCharacterSums;IIIII[J)I"⟩
abbrev cL_points : ByteArray := method_14_code
def yL_points : MethodName := ⟨RL, "points", "(LCharacterSums;IIII[J)I"⟩
abbrev cL_rows : ByteArray := method_15_code
def yL_rows : MethodName := ⟨RL, "rows", "(LCharacterSums;III[J)I"⟩
abbrev cL_lifted : ByteArray := method_16_code
def yL_lifted : MethodName := ⟨RL, "lifted", "(LCharacterSums;III[J)I"⟩
abbrev cL_curve : ByteArray := method_17_code
def yL_curve : MethodName := ⟨RL, "curve", "(LCharacterSums;II[J)I"⟩
abbrev cL_least : ByteArray := method_18_code
def yL_least : MethodName := ⟨RL, "least", "(LCharacterSums;II[J)I"⟩
abbrev cL_let : ByteArray := method_19_code
def yL_let : MethodName := ⟨RL, "let", "(LCharacterSums;II[J)I"⟩
abbrev cL_alike : ByteArray := method_20_code
def yL_alike : MethodName := ⟨RL, "alike", "(LCharacterSums;I[J)I"⟩
abbrev cL_mark : ByteArray := method_21_code
def yL_mark : MethodName := ⟨RL, "mark", "(LCharacterSums;I[J)I"⟩
abbrev cL_differences : ByteArray := method_22_code
def yL_differences : MethodName := ⟨RL, "differences", "(LCharacterSums;I[J)I"⟩
abbrev cL_cyclotomic : ByteArray := method_23_code
def yL_cyclotomic : MethodName := ⟨RL, "cyclotomic", "(LCharacterSums;III[J)I"⟩
abbrev cL_say : ByteArray := method_24_code
def yL_say : MethodName := ⟨RL, "say", "(LCharacterSums;I[J)I"⟩
abbrev cL_law : ByteArray := code
def yL_law : MethodName := ⟨RL, "law", "([I)Z"⟩
abbrev vwCl : List vw_C := [(RX0, TX0, 4), (RX1, TX1, 13), (RX2, TX2, 5), (RX3, TX3, 12), (RX4, TX4, 8), (RX5, TX5, 2), (RX6, TX6, 3), (RX7, TX7, 5), (RX8, TX8, 5), (RX9, TX9, 13), (RX10, TX10, 53)]
end
section
def kX0_init : List (Nat × Instr × Nat) := [(0, .aload_n 0, 1), (1, .invokespecial 3, 3), (4, .aload_n 0, 1), (5, .bipush 27, 2), (7, .newarray .long, 2), (9, .putfield 11, 3), (12, .aload_n 0, 1), (13, .bipush 27, 2), (15, .newarray .long, 2), (17, .putfield 17, 3), (20, .aload_n 0, 1), (21, .bipush 27, 2), (23, .newarray .int, 2), (25, .putfield 20, 3), (28, .aload_n 0, 1), (29, .aload_n 1, 1), (30, .putfield 24, 3), (33, .return_, 1)]
set_option maxRecDepth 100000 in
theorem kX0_init_ok : ∀ q ∈ kX0_init, decode cX0_init q.1 = .ok (q.2.1, q.2.2) := by decide +kernel
def kX0_begin : List (Nat × Instr × Nat) := [(0, .aload_n 0, 1), (1, .getfield 11, 3), (4, .lconst 0, 1), (5, .invokestatic 28, 3), (8, .aload_n 0, 1), (9, .getfield 11, 3), (12, .iconst 0, 1), (13, .lconst 1, 1), (14, .lastore, 1), (15, .return_, 1)]
set_option maxRecDepth 100000 in
theorem kX0_begin_ok : ∀ q ∈ kX0_begin, decode cX0_begin q.1 = .ok (q.2.1, q.2.2) := by decide +kernel
def kX0_join : List (Nat × Instr × Nat) := [(0, .aload_n 0, 1), (1, .getfield 17, 3), (4, .lconst 0, 1), (5, .invokestatic 28, 3), (8, .iconst 0, 1), (9, .istore_n 3, 1), (10, .iload_n 3, 1), (11, .aload_n 0, 1), (12, .getfield 24, 3), (15, .getfield 34, 3), (18, .if_icmp .ge 75, 3), (21, .aload_n 0, 1), (22, .getfield 24, 3), (25, .iload_n 1, 1), (26, .aload_n 0, 1), (27, .getfield 24, 3), (30, .iload_n 3, 1), (31, .iload_n 2, 1), (32, .invokevirtual 38, 3), (35, .invokevirtual 42, 3), (38, .istore 4, 2), (40, .iconst 0, 1), (41, .istore 5, 2), (43, .iload 5, 2), (45, .aload_n 0, 1), (46, .getfield 24, 3), (49, .getfield 34, 3), (52, .if_icmp .ge 35, 3), (55, .aload_n 0, 1), (56, .getfield 17, 3), (59, .aload_n 0, 1), (60, .getfield 24, 3), (63, .iload 5, 2), (65, .iload 4, 2), (67, .invokevirtual 45, 3), (70, .dup2, 1), (71, .laload, 1), (72, .aload_n 0, 1), (73, .getfield 11, 3), (76, .iload 5, 2), (78, .laload, 1), (79, .ladd, 1), (80, .lastore, 1), (81, .iinc 5 1, 3), (84, .goto (-41), 3), (87, .iinc 3 1, 3), (90, .goto (-80), 3), (93, .aload_n 0, 1), (94, .getfield 11, 3), (97, .astore_n 3, 1), (98, .aload_n 0, 1), (99, .aload_n 0, 1), (100, .getfield 17, 3), (103, .putfield 11, 3), (106, .aload_n 0, 1), (107, .aload_n 3, 1), (108, .putfield 17, 3), (111, .return_, 1)]
set_option maxRecDepth 100000 in
theorem kX0_join_ok : ∀ q ∈ kX0_join, decode cX0_join q.1 = .ok (q.2.1, q.2.2) := by decide +kernel
def kX0_waysTo : List (Nat × Instr × Nat) := [(0, .aload_n 0, 1), (1, .getfield 11, 3), (4, .iload_n 1, 1), (5, .laload, 1), (6, .l2i, 1), (7, .ireturn, 1)]
set_option maxRecDepth 100000 in
theorem kX0_waysTo_ok : ∀ q ∈ kX0_waysTo, decode cX0_waysTo q.1 = .ok (q.2.1, q.2.2) := by decide +kernel
def kX0_curvePoints : List (Nat × Instr × Nat) := [(0, .iconst 0, 1), (1, .istore_n 3, 1), (2, .iconst 0, 1), (3, .istore 4, 2), (5, .iload 4, 2), (7, .aload_n 0, 1), (8, .getfield 24, 3), (11, .getfield 34, 3), (14, .if_icmp .ge 86, 3), (17, .aload_n 0, 1), (18, .getfield 24, 3), (21, .aload_n 0, 1), (22, .getfield 24, 3), (25, .aload_n 0, 1), (26, .getfield 24, 3), (29, .iload 4, 2), (31, .iconst 3, 1), (32, .invokevirtual 38, 3), (35, .aload_n 0, 1), (36, .getfield 24, 3), (39, .iload_n 1, 1), (40, .iload 4, 2), (42, .invokevirtual 42, 3), (45, .invokevirtual 45, 3), (48, .iload_n 2, 1), (49, .invokevirtual 45, 3), (52, .istore 5, 2), (54, .iconst 0, 1), (55, .istore 6, 2), (57, .iload 6, 2), (59, .aload_n 0, 1), (60, .getfield 24, 3), (63, .getfield 34, 3), (66, .if_icmp .ge 28, 3), (69, .aload_n 0, 1), (70, .getfield 24, 3), (73, .iload 6, 2), (75, .iload 6, 2), (77, .invokevirtual 42, 3), (80, .iload 5, 2), (82, .if_icmp .ne 6, 3), (85, .iinc 3 1, 3), (88, .iinc 6 1, 3), (91, .goto (-34), 3), (94, .iinc 4 1, 3), (97, .goto (-92), 3), (100, .iload_n 3, 1), (101, .ireturn, 1)]
set_option maxRecDepth 100000 in
theorem kX0_curvePoints_ok : ∀ q ∈ kX0_curvePoints, decode cX0_curvePoints q.1 = .ok (q.2.1, q.2.2) := by decide +kernel
def kX0_neighbours : List (Nat × Instr × Nat) := [(0, .iconst 0, 1), (1, .istore 4, 2), (3, .iconst 1, 1), (4, .istore 5, 2), (6, .iload 5, 2), (8, .aload_n 0, 1), (9, .getfield 24, 3), (12, .getfield 34, 3), (15, .if_icmp .ge 48, 3), (18, .aload_n 0, 1), (19, .getfield 24, 3), (22, .iload 5, 2), (24, .iload_n 1, 1), (25, .iload_n 2, 1), (26, .invokevirtual 48, 3), (29, .ifCond .eq 28, 3), (32, .aload_n 0, 1), (33, .getfield 24, 3), (36, .aload_n 0, 1), (37, .getfield 24, 3), (40, .iconst 1, 1), (41, .iload 5, 2), (43, .invokevirtual 45, 3), (46, .iload_n 1, 1), (47, .iload_n 3, 1), (48, .invokevirtual 48, 3), (51, .ifCond .eq 6, 3), (54, .iinc 4 1, 3), (57, .iinc 5 1, 3), (60, .goto (-54), 3), (63, .iload 4, 2), (65, .ireturn, 1)]
set_option maxRecDepth 100000 in
theorem kX0_neighbours_ok : ∀ q ∈ kX0_neighbours, decode cX0_neighbours q.1 = .ok (q.2.1, q.2.2) := by decide +kernel
def kX0_evenDifferences : List (Nat × Instr × Nat) := [(0, .aload_n 0, 1), (1, .getfield 20, 3), (4, .iconst 0, 1), (5, .invokestatic 52, 3), (8, .iconst 0, 1), (9, .istore_n 2, 1), (10, .iload_n 2, 1), (11, .aload_n 0, 1), (12, .getfield 24, 3), (15, .getfield 34, 3), (18, .if_icmp .ge 59, 3), (21, .iconst 0, 1), (22, .istore_n 3, 1), (23, .iload_n 3, 1), (24, .aload_n 0, 1), (25, .getfield 24, 3), (28, .getfield 34, 3), (31, .if_icmp .ge 40, 3), (34, .iload_n 1, 1), (35, .iload_n 2, 1), (36, .ishr, 1), (37, .iload_n 1, 1), (38, .iload_n 3, 1), (39, .ishr, 1), (40, .iand, 1), (41, .iconst 1, 1), (42, .iand, 1), (43, .iconst 1, 1), (44, .if_icmp .ne 21, 3), (47, .aload_n 0, 1), (48, .getfield 20, 3), (51, .aload_n 0, 1), (52, .getfield 24, 3), (55, .iload_n 2, 1), (56, .iload_n 3, 1), (57, .invokevirtual 55, 3), (60, .dup2, 1), (61, .iaload, 1), (62, .iconst 1, 1), (63, .iadd, 1), (64, .iastore, 1), (65, .iinc 3 1, 3), (68, .goto (-45), 3), (71, .iinc 2 1, 3), (74, .goto (-64), 3), (77, .iconst 2, 1), (78, .istore_n 2, 1), (79, .iload_n 2, 1), (80, .aload_n 0, 1), (81, .getfield 24, 3), (84, .getfield 34, 3), (87, .if_icmp .ge 26, 3), (90, .aload_n 0, 1), (91, .getfield 20, 3), (94, .iload_n 2, 1), (95, .iaload, 1), (96, .aload_n 0, 1), (97, .getfield 20, 3), (100, .iconst 1, 1), (101, .iaload, 1), (102, .if_icmp .eq 5, 3), (105, .iconst (-1), 1), (106, .ireturn, 1), (107, .iinc 2 1, 3), (110, .goto (-31), 3), (113, .aload_n 0, 1), (114, .getfield 20, 3), (117, .iconst 1, 1), (118, .iaload, 1), (119, .ireturn, 1)]
set_option maxRecDepth 100000 in
theorem kX0_evenDifferences_ok : ∀ q ∈ kX0_evenDifferences, decode cX0_evenDifferences q.1 = .ok (q.2.1, q.2.2) := by decide +kernel
def kX1_init : List (Nat × Instr × Nat) := [(0, .aload_n 0, 1), (1, .invokespecial 3, 3), (4, .aload_n 0, 1), (5, .sipush 729, 3), (8, .newarray .int, 2), (10, .putfield 11, 3), (13, .aload_n 0, 1), (14, .bipush 27, 2), (16, .newarray .int, 2), (18, .putfield 15, 3), (21, .aload_n 0, 1), (22, .bipush 27, 2), (24, .newarray .int, 2), (26, .putfield 18, 3), (29, .aload_n 0, 1), (30, .sipush 729, 3), (33, .newarray .int, 2), (35, .putfield 21, 3), (38, .aload_n 0, 1), (39, .bipush 27, 2), (41, .newarray .int, 2), (43, .putfield 24, 3), (46, .aload_n 0, 1), (47, .bipush 27, 2), (49, .newarray .int, 2), (51, .putfield 27, 3), (54, .aload_n 0, 1), (55, .bipush 27, 2), (57, .newarray .int, 2), (59, .putfield 30, 3), (62, .aload_n 0, 1), (63, .iconst 5, 1), (64, .newarray .int, 2), (66, .putfield 33, 3), (69, .return_, 1)]
set_option maxRecDepth 100000 in
theorem kX1_init_ok : ∀ q ∈ kX1_init, decode cX1_init q.1 = .ok (q.2.1, q.2.2) := by decide +kernel
def kX1_sizeOf : List (Nat × Instr × Nat) := [(0, .iconst 0, 1), (1, .istore_n 2, 1), (2, .getstatic 36, 3), (5, .astore_n 3, 1), (6, .aload_n 3, 1), (7, .arraylength, 1), (8, .istore 4, 2), (10, .iconst 0, 1), (11, .istore 5, 2), (13, .iload 5, 2), (15, .iload 4, 2), (17, .if_icmp .ge 29, 3), (20, .aload_n 3, 1), (21, .iload 5, 2), (23, .iaload, 1), (24, .istore 6, 2), (26, .iload_n 2, 1), (27, .iload 6, 2), (29, .iload_n 0, 1), (30, .if_icmp .ne 7, 3), (33, .iconst 1, 1), (34, .goto 4, 3), (37, .iconst 0, 1), (38, .ior, 1), (39, .istore_n 2, 1), (40, .iinc 5 1, 3), (43, .goto (-30), 3), (46, .iload_n 2, 1), (47, .ifCond .eq 8, 3), (50, .iload_n 1, 1), (51, .iconst 1, 1), (52, .if_icmp .ge 5, 3), (55, .iconst (-1), 1), (56, .ireturn, 1), (57, .iconst 1, 1), (58, .istore_n 3, 1), (59, .iconst 0, 1), (60, .istore 4, 2), (62, .iload 4, 2), (64, .iload_n 1, 1), (65, .if_icmp .ge 19, 3), (68, .iload_n 3, 1), (69, .bipush 27, 2), (71, .if_icmp .gt 13, 3), (74, .iload_n 3, 1), (75, .iload_n 0, 1), (76, .imul, 1), (77, .istore_n 3, 1), (78, .iinc 4 1, 3), (81, .goto (-19), 3), (84, .iload_n 3, 1), (85, .bipush 27, 2), (87, .if_icmp .gt 7, 3), (90, .iload_n 3, 1), (91, .goto 4, 3), (94, .iconst (-1), 1), (95, .ireturn, 1)]
set_option maxRecDepth 100000 in
theorem kX1_sizeOf_ok : ∀ q ∈ kX1_sizeOf, decode cX1_sizeOf q.1 = .ok (q.2.1, q.2.2) := by decide +kernel
def kX1_become : List (Nat × Instr × Nat) := [(0, .aload_n 0, 1), (1, .iload_n 1, 1), (2, .putfield 39, 3), (5, .aload_n 0, 1), (6, .iload_n 2, 1), (7, .putfield 43, 3), (10, .aload_n 0, 1), (11, .iload_n 3, 1), (12, .putfield 46, 3), (15, .aload_n 0, 1), (16, .invokevirtual 49, 3), (19, .aload_n 0, 1), (20, .invokevirtual 52, 3), (23, .aload_n 0, 1), (24, .invokevirtual 55, 3), (27, .aload_n 0, 1), (28, .invokevirtual 58, 3), (31, .aload_n 0, 1), (32, .invokevirtual 61, 3), (35, .return_, 1)]
set_option maxRecDepth 100000 in
theorem kX1_become_ok : ∀ q ∈ kX1_become, decode cX1_become q.1 = .ok (q.2.1, q.2.2) := by decide +kernel
def kX1_has : List (Nat × Instr × Nat) := [(0, .iload_n 1, 1), (1, .ifCond .lt 15, 3), (4, .iload_n 1, 1), (5, .aload_n 0, 1), (6, .getfield 46, 3), (9, .if_icmp .ge 7, 3), (12, .iconst 1, 1), (13, .goto 4, 3), (16, .iconst 0, 1), (17, .ireturn, 1)]
set_option maxRecDepth 100000 in
theorem kX1_has_ok : ∀ q ∈ kX1_has, decode cX1_has q.1 = .ok (q.2.1, q.2.2) := by decide +kernel
def kX1_hasCharacter : List (Nat × Instr × Nat) := [(0, .iload_n 1, 1), (1, .ifCond .lt 17, 3), (4, .iload_n 1, 1), (5, .aload_n 0, 1), (6, .getfield 46, 3), (9, .iconst 1, 1), (10, .isub, 1), (11, .if_icmp .ge 7, 3), (14, .iconst 1, 1), (15, .goto 4, 3), (18, .iconst 0, 1), (19, .ireturn, 1)]
set_option maxRecDepth 100000 in
theorem kX1_hasCharacter_ok : ∀ q ∈ kX1_hasCharacter, decode cX1_hasCharacter q.1 = .ok (q.2.1, q.2.2) := by decide +kernel
def kX1_hasClasses : List (Nat × Instr × Nat) := [(0, .iload_n 1, 1), (1, .iconst 1, 1), (2, .if_icmp .lt 18, 3), (5, .aload_n 0, 1), (6, .getfield 46, 3), (9, .iconst 1, 1), (10, .isub, 1), (11, .iload_n 1, 1), (12, .irem, 1), (13, .ifCond .ne 7, 3), (16, .iconst 1, 1), (17, .goto 4, 3), (20, .iconst 0, 1), (21, .ireturn, 1)]
set_option maxRecDepth 100000 in
theorem kX1_hasClasses_ok : ∀ q ∈ kX1_hasClasses, decode cX1_hasClasses q.1 = .ok (q.2.1, q.2.2) := by decide +kernel
def kX1_hasClass : List (Nat × Instr × Nat) := [(0, .aload_n 0, 1), (1, .iload_n 1, 1), (2, .invokevirtual 64, 3), (5, .ifCond .eq 16, 3), (8, .iload_n 2, 1), (9, .ifCond .lt 12, 3), (12, .iload_n 2, 1), (13, .iload_n 1, 1), (14, .if_icmp .ge 7, 3), (17, .iconst 1, 1), (18, .goto 4, 3), (21, .iconst 0, 1), (22, .ireturn, 1)]
set_option maxRecDepth 100000 in
theorem kX1_hasClass_ok : ∀ q ∈ kX1_hasClass, decode cX1_hasClass q.1 = .ok (q.2.1, q.2.2) := by decide +kernel
def kX1_plus : List (Nat × Instr × Nat) := [(0, .aload_n 0, 1), (1, .getfield 11, 3), (4, .iload_n 1, 1), (5, .aload_n 0, 1), (6, .getfield 46, 3), (9, .imul, 1), (10, .iload_n 2, 1), (11, .iadd, 1), (12, .iaload, 1), (13, .ireturn, 1)]
set_option maxRecDepth 100000 in
theorem kX1_plus_ok : ∀ q ∈ kX1_plus, decode cX1_plus q.1 = .ok (q.2.1, q.2.2) := by decide +kernel
def kX1_minus : List (Nat × Instr × Nat) := [(0, .aload_n 0, 1), (1, .iload_n 1, 1), (2, .aload_n 0, 1), (3, .getfield 15, 3), (6, .iload_n 2, 1), (7, .iaload, 1), (8, .invokevirtual 68, 3), (11, .ireturn, 1)]
set_option maxRecDepth 100000 in
theorem kX1_minus_ok : ∀ q ∈ kX1_minus, decode cX1_minus q.1 = .ok (q.2.1, q.2.2) := by decide +kernel
def kX1_times : List (Nat × Instr × Nat) := [(0, .aload_n 0, 1), (1, .getfield 21, 3), (4, .iload_n 1, 1), (5, .aload_n 0, 1), (6, .getfield 46, 3), (9, .imul, 1), (10, .iload_n 2, 1), (11, .iadd, 1), (12, .iaload, 1), (13, .ireturn, 1)]
set_option maxRecDepth 100000 in
theorem kX1_times_ok : ∀ q ∈ kX1_times, decode cX1_times q.1 = .ok (q.2.1, q.2.2) := by decide +kernel
def kX1_over : List (Nat × Instr × Nat) := [(0, .aload_n 0, 1), (1, .iload_n 1, 1), (2, .aload_n 0, 1), (3, .getfield 24, 3), (6, .aload_n 0, 1), (7, .getfield 46, 3), (10, .iconst 1, 1), (11, .isub, 1), (12, .aload_n 0, 1), (13, .getfield 27, 3), (16, .iload_n 2, 1), (17, .iaload, 1), (18, .isub, 1), (19, .aload_n 0, 1), (20, .getfield 46, 3), (23, .iconst 1, 1), (24, .isub, 1), (25, .irem, 1), (26, .iaload, 1), (27, .invokevirtual 72, 3), (30, .ireturn, 1)]
set_option maxRecDepth 100000 in
theorem kX1_over_ok : ∀ q ∈ kX1_over, decode cX1_over q.1 = .ok (q.2.1, q.2.2) := by decide +kernel
def kX1_raised : List (Nat × Instr × Nat) := [(0, .iload_n 1, 1), (1, .ifCond .ne 7, 3), (4, .iconst 0, 1), (5, .goto 23, 3), (8, .aload_n 0, 1), (9, .getfield 24, 3), (12, .aload_n 0, 1), (13, .getfield 27, 3), (16, .iload_n 1, 1), (17, .iaload, 1), (18, .iload_n 2, 1), (19, .imul, 1), (20, .aload_n 0, 1), (21, .getfield 46, 3), (24, .iconst 1, 1), (25, .isub, 1), (26, .irem, 1), (27, .iaload, 1), (28, .ireturn, 1)]
set_option maxRecDepth 100000 in
theorem kX1_raised_ok : ∀ q ∈ kX1_raised, decode cX1_raised q.1 = .ok (q.2.1, q.2.2) := by decide +kernel
def kX1_logOf : List (Nat × Instr × Nat) := [(0, .aload_n 0, 1), (1, .getfield 27, 3), (4, .iload_n 1, 1), (5, .iaload, 1), (6, .ireturn, 1)]
set_option maxRecDepth 100000 in
theorem kX1_logOf_ok : ∀ q ∈ kX1_logOf, decode cX1_logOf q.1 = .ok (q.2.1, q.2.2) := by decide +kernel
def kX1_traceOf : List (Nat × Instr × Nat) := [(0, .aload_n 0, 1), (1, .getfield 30, 3), (4, .iload_n 1, 1), (5, .iaload, 1), (6, .ireturn, 1)]
set_option maxRecDepth 100000 in
theorem kX1_traceOf_ok : ∀ q ∈ kX1_traceOf, decode cX1_traceOf q.1 = .ok (q.2.1, q.2.2) := by decide +kernel
def kX1_normOf : List (Nat × Instr × Nat) := [(0, .aload_n 0, 1), (1, .iload_n 1, 1), (2, .aload_n 0, 1), (3, .getfield 46, 3), (6, .iconst 1, 1), (7, .isub, 1), (8, .aload_n 0, 1), (9, .getfield 39, 3), (12, .iconst 1, 1), (13, .isub, 1), (14, .idiv, 1), (15, .invokevirtual 75, 3), (18, .ireturn, 1)]
set_option maxRecDepth 100000 in
theorem kX1_normOf_ok : ∀ q ∈ kX1_normOf, decode cX1_normOf q.1 = .ok (q.2.1, q.2.2) := by decide +kernel
def kX1_inClass : List (Nat × Instr × Nat) := [(0, .iload_n 1, 1), (1, .ifCond .eq 19, 3), (4, .aload_n 0, 1), (5, .getfield 27, 3), (8, .iload_n 1, 1), (9, .iaload, 1), (10, .iload_n 2, 1), (11, .irem, 1), (12, .iload_n 3, 1), (13, .if_icmp .ne 7, 3), (16, .iconst 1, 1), (17, .goto 4, 3), (20, .iconst 0, 1), (21, .ireturn, 1)]
set_option maxRecDepth 100000 in
theorem kX1_inClass_ok : ∀ q ∈ kX1_inClass, decode cX1_inClass q.1 = .ok (q.2.1, q.2.2) := by decide +kernel
def kX1_findLeast : List (Nat × Instr × Nat) := [(0, .aload_n 0, 1), (1, .getfield 33, 3), (4, .iconst 0, 1), (5, .invokestatic 78, 3), (8, .aload_n 0, 1), (9, .getfield 33, 3), (12, .iconst 0, 1), (13, .iconst 1, 1), (14, .iastore, 1), (15, .iconst 0, 1), (16, .istore_n 2, 1), (17, .iload_n 1, 1), (18, .istore_n 3, 1), (19, .iinc 2 1, 3), (22, .iload_n 2, 1), (23, .istore 4, 2), (25, .iload 4, 2), (27, .ifCond .lt 54, 3), (30, .iload 4, 2), (32, .ifCond .le 15, 3), (35, .aload_n 0, 1), (36, .getfield 33, 3), (39, .iload 4, 2), (41, .iconst 1, 1), (42, .isub, 1), (43, .iaload, 1), (44, .goto 4, 3), (47, .iconst 0, 1), (48, .istore 5, 2), (50, .aload_n 0, 1), (51, .getfield 33, 3), (54, .iload 4, 2), (56, .aload_n 0, 1), (57, .iload 5, 2), (59, .aload_n 0, 1), (60, .iload_n 3, 1), (61, .aload_n 0, 1), (62, .getfield 33, 3), (65, .iload 4, 2), (67, .iaload, 1), (68, .invokevirtual 72, 3), (71, .invokevirtual 84, 3), (74, .iastore, 1), (75, .iinc 4 (-1), 3), (78, .goto (-53), 3), (81, .aload_n 0, 1), (82, .iload_n 3, 1), (83, .aload_n 0, 1), (84, .getfield 39, 3), (87, .invokevirtual 75, 3), (90, .istore_n 3, 1), (91, .iload_n 3, 1), (92, .iload_n 1, 1), (93, .if_icmp .eq 11, 3), (96, .iload_n 2, 1), (97, .aload_n 0, 1), (98, .getfield 43, 3), (101, .if_icmp .lt (-82), 3), (104, .iload_n 2, 1), (105, .ireturn, 1)]
set_option maxRecDepth 100000 in
theorem kX1_findLeast_ok : ∀ q ∈ kX1_findLeast, decode cX1_findLeast q.1 = .ok (q.2.1, q.2.2) := by decide +kernel
def kX1_leastAt : List (Nat × Instr × Nat) := [(0, .aload_n 0, 1), (1, .getfield 33, 3), (4, .iload_n 1, 1), (5, .iaload, 1), (6, .ireturn, 1)]
set_option maxRecDepth 100000 in
theorem kX1_leastAt_ok : ∀ q ∈ kX1_leastAt, decode cX1_leastAt q.1 = .ok (q.2.1, q.2.2) := by decide +kernel
def kX1_fillSums : List (Nat × Instr × Nat) := [(0, .iconst 0, 1), (1, .istore_n 1, 1), (2, .iload_n 1, 1), (3, .aload_n 0, 1), (4, .getfield 46, 3), (7, .if_icmp .ge 57, 3), (10, .iconst 0, 1), (11, .istore_n 2, 1), (12, .iload_n 2, 1), (13, .aload_n 0, 1), (14, .getfield 46, 3), (17, .if_icmp .ge 41, 3), (20, .aload_n 0, 1), (21, .iload_n 1, 1), (22, .iload_n 2, 1), (23, .invokevirtual 87, 3), (26, .istore_n 3, 1), (27, .aload_n 0, 1), (28, .getfield 11, 3), (31, .iload_n 1, 1), (32, .aload_n 0, 1), (33, .getfield 46, 3), (36, .imul, 1), (37, .iload_n 2, 1), (38, .iadd, 1), (39, .iload_n 3, 1), (40, .iastore, 1), (41, .iload_n 3, 1), (42, .ifCond .ne 10, 3), (45, .aload_n 0, 1), (46, .getfield 15, 3), (49, .iload_n 1, 1), (50, .iload_n 2, 1), (51, .iastore, 1), (52, .iinc 2 1, 3), (55, .goto (-43), 3), (58, .iinc 1 1, 3), (61, .goto (-59), 3), (64, .return_, 1)]
set_option maxRecDepth 100000 in
theorem kX1_fillSums_ok : ∀ q ∈ kX1_fillSums, decode cX1_fillSums q.1 = .ok (q.2.1, q.2.2) := by decide +kernel
def kX1_addedDigits : List (Nat × Instr × Nat) := [(0, .iconst 0, 1), (1, .istore_n 3, 1), (2, .iconst 1, 1), (3, .istore 4, 2), (5, .iload 4, 2), (7, .aload_n 0, 1), (8, .getfield 46, 3), (11, .if_icmp .ge 35, 3), (14, .iload_n 3, 1), (15, .iload_n 1, 1), (16, .iload 4, 2), (18, .idiv, 1), (19, .iload_n 2, 1), (20, .iload 4, 2), (22, .idiv, 1), (23, .iadd, 1), (24, .aload_n 0, 1), (25, .getfield 39, 3), (28, .irem, 1), (29, .iload 4, 2), (31, .imul, 1), (32, .iadd, 1), (33, .istore_n 3, 1), (34, .iload 4, 2), (36, .aload_n 0, 1), (37, .getfield 39, 3), (40, .imul, 1), (41, .istore 4, 2), (43, .goto (-38), 3), (46, .iload_n 3, 1), (47, .ireturn, 1)]
set_option maxRecDepth 100000 in
theorem kX1_addedDigits_ok : ∀ q ∈ kX1_addedDigits, decode cX1_addedDigits q.1 = .ok (q.2.1, q.2.2) := by decide +kernel
def kX1_findModulus : List (Nat × Instr × Nat) := [(0, .aload_n 0, 1), (1, .iconst (-1), 1), (2, .putfield 90, 3), (5, .aload_n 0, 1), (6, .dup, 1), (7, .getfield 90, 3), (10, .iconst 1, 1), (11, .iadd, 1), (12, .putfield 90, 3), (15, .aload_n 0, 1), (16, .invokevirtual 93, 3), (19, .aload_n 0, 1), (20, .getfield 90, 3), (23, .aload_n 0, 1), (24, .getfield 46, 3), (27, .iconst 1, 1), (28, .isub, 1), (29, .if_icmp .ge 10, 3), (32, .aload_n 0, 1), (33, .invokevirtual 96, 3), (36, .ifCond .ne (-31), 3), (39, .return_, 1)]
set_option maxRecDepth 100000 in
theorem kX1_findModulus_ok : ∀ q ∈ kX1_findModulus, decode cX1_findModulus q.1 = .ok (q.2.1, q.2.2) := by decide +kernel
def kX1_fillShifts : List (Nat × Instr × Nat) := [(0, .aload_n 0, 1), (1, .getfield 46, 3), (4, .aload_n 0, 1), (5, .getfield 39, 3), (8, .idiv, 1), (9, .istore_n 1, 1), (10, .iconst 0, 1), (11, .istore_n 2, 1), (12, .iload_n 2, 1), (13, .aload_n 0, 1), (14, .getfield 46, 3), (17, .if_icmp .ge 52, 3), (20, .iload_n 2, 1), (21, .iload_n 1, 1), (22, .irem, 1), (23, .aload_n 0, 1), (24, .getfield 39, 3), (27, .imul, 1), (28, .istore_n 3, 1), (29, .iconst 0, 1), (30, .istore 4, 2), (32, .iload 4, 2), (34, .iload_n 2, 1), (35, .iload_n 1, 1), (36, .idiv, 1), (37, .if_icmp .ge 19, 3), (40, .aload_n 0, 1), (41, .iload_n 3, 1), (42, .aload_n 0, 1), (43, .getfield 90, 3), (46, .invokevirtual 84, 3), (49, .istore_n 3, 1), (50, .iinc 4 1, 3), (53, .goto (-21), 3), (56, .aload_n 0, 1), (57, .getfield 18, 3), (60, .iload_n 2, 1), (61, .iload_n 3, 1), (62, .iastore, 1), (63, .iinc 2 1, 3), (66, .goto (-54), 3), (69, .return_, 1)]
set_option maxRecDepth 100000 in
theorem kX1_fillShifts_ok : ∀ q ∈ kX1_fillShifts, decode cX1_fillShifts q.1 = .ok (q.2.1, q.2.2) := by decide +kernel
def kX1_isProduct : List (Nat × Instr × Nat) := [(0, .aload_n 0, 1), (1, .getfield 39, 3), (4, .istore_n 1, 1), (5, .iload_n 1, 1), (6, .aload_n 0, 1), (7, .getfield 46, 3), (10, .if_icmp .ge 39, 3), (13, .aload_n 0, 1), (14, .getfield 39, 3), (17, .istore_n 2, 1), (18, .iload_n 2, 1), (19, .aload_n 0, 1), (20, .getfield 46, 3), (23, .if_icmp .ge 20, 3), (26, .aload_n 0, 1), (27, .iload_n 1, 1), (28, .iload_n 2, 1), (29, .invokevirtual 100, 3), (32, .ifCond .ne 5, 3), (35, .iconst 1, 1), (36, .ireturn, 1), (37, .iinc 2 1, 3), (40, .goto (-22), 3), (43, .iinc 1 1, 3), (46, .goto (-41), 3), (49, .iconst 0, 1), (50, .ireturn, 1)]
set_option maxRecDepth 100000 in
theorem kX1_isProduct_ok : ∀ q ∈ kX1_isProduct, decode cX1_isProduct q.1 = .ok (q.2.1, q.2.2) := by decide +kernel
def kX1_fillProducts : List (Nat × Instr × Nat) := [(0, .iconst 0, 1), (1, .istore_n 1, 1), (2, .iload_n 1, 1), (3, .aload_n 0, 1), (4, .getfield 46, 3), (7, .if_icmp .ge 44, 3), (10, .iconst 0, 1), (11, .istore_n 2, 1), (12, .iload_n 2, 1), (13, .aload_n 0, 1), (14, .getfield 46, 3), (17, .if_icmp .ge 28, 3), (20, .aload_n 0, 1), (21, .getfield 21, 3), (24, .iload_n 1, 1), (25, .aload_n 0, 1), (26, .getfield 46, 3), (29, .imul, 1), (30, .iload_n 2, 1), (31, .iadd, 1), (32, .aload_n 0, 1), (33, .iload_n 1, 1), (34, .iload_n 2, 1), (35, .invokevirtual 100, 3), (38, .iastore, 1), (39, .iinc 2 1, 3), (42, .goto (-30), 3), (45, .iinc 1 1, 3), (48, .goto (-46), 3), (51, .return_, 1)]
set_option maxRecDepth 100000 in
theorem kX1_fillProducts_ok : ∀ q ∈ kX1_fillProducts, decode cX1_fillProducts q.1 = .ok (q.2.1, q.2.2) := by decide +kernel
def kX1_multiplied : List (Nat × Instr × Nat) := [(0, .iconst 0, 1), (1, .istore_n 3, 1), (2, .aload_n 0, 1), (3, .getfield 46, 3), (6, .aload_n 0, 1), (7, .getfield 39, 3), (10, .idiv, 1), (11, .istore 4, 2), (13, .iload 4, 2), (15, .ifCond .le 52, 3), (18, .aload_n 0, 1), (19, .getfield 18, 3), (22, .iload_n 3, 1), (23, .iaload, 1), (24, .istore_n 3, 1), (25, .iconst 0, 1), (26, .istore 5, 2), (28, .iload 5, 2), (30, .iload_n 2, 1), (31, .iload 4, 2), (33, .idiv, 1), (34, .aload_n 0, 1), (35, .getfield 39, 3), (38, .irem, 1), (39, .if_icmp .ge 16, 3), (42, .aload_n 0, 1), (43, .iload_n 3, 1), (44, .iload_n 1, 1), (45, .invokevirtual 68, 3), (48, .istore_n 3, 1), (49, .iinc 5 1, 3), (52, .goto (-24), 3), (55, .iload 4, 2), (57, .aload_n 0, 1), (58, .getfield 39, 3), (61, .idiv, 1), (62, .istore 4, 2), (64, .goto (-51), 3), (67, .iload_n 3, 1), (68, .ireturn, 1)]
set_option maxRecDepth 100000 in
theorem kX1_multiplied_ok : ∀ q ∈ kX1_multiplied, decode cX1_multiplied q.1 = .ok (q.2.1, q.2.2) := by decide +kernel
def kX1_findGenerator : List (Nat × Instr × Nat) := [(0, .aload_n 0, 1), (1, .iconst 0, 1), (2, .putfield 103, 3), (5, .aload_n 0, 1), (6, .dup, 1), (7, .getfield 103, 3), (10, .iconst 1, 1), (11, .iadd, 1), (12, .putfield 103, 3), (15, .aload_n 0, 1), (16, .invokevirtual 106, 3), (19, .ifCond .ne 16, 3), (22, .aload_n 0, 1), (23, .getfield 103, 3), (26, .aload_n 0, 1), (27, .getfield 46, 3), (30, .iconst 1, 1), (31, .isub, 1), (32, .if_icmp .lt (-27), 3), (35, .return_, 1)]
set_option maxRecDepth 100000 in
theorem kX1_findGenerator_ok : ∀ q ∈ kX1_findGenerator, decode cX1_findGenerator q.1 = .ok (q.2.1, q.2.2) := by decide +kernel
def kX1_walkPowers : List (Nat × Instr × Nat) := [(0, .iconst 1, 1), (1, .istore_n 1, 1), (2, .iconst 0, 1), (3, .istore_n 2, 1), (4, .iload_n 2, 1), (5, .aload_n 0, 1), (6, .getfield 46, 3), (9, .iconst 1, 1), (10, .isub, 1), (11, .if_icmp .ge 54, 3), (14, .aload_n 0, 1), (15, .getfield 24, 3), (18, .iload_n 2, 1), (19, .iload_n 1, 1), (20, .iastore, 1), (21, .aload_n 0, 1), (22, .getfield 27, 3), (25, .iload_n 1, 1), (26, .iload_n 2, 1), (27, .iastore, 1), (28, .aload_n 0, 1), (29, .iload_n 1, 1), (30, .aload_n 0, 1), (31, .getfield 103, 3), (34, .invokevirtual 72, 3), (37, .istore_n 1, 1), (38, .iload_n 1, 1), (39, .iconst 1, 1), (40, .if_icmp .ne 19, 3), (43, .iload_n 2, 1), (44, .aload_n 0, 1), (45, .getfield 46, 3), (48, .iconst 2, 1), (49, .isub, 1), (50, .if_icmp .ne 7, 3), (53, .iconst 1, 1), (54, .goto 4, 3), (57, .iconst 0, 1), (58, .ireturn, 1), (59, .iinc 2 1, 3), (62, .goto (-58), 3), (65, .iconst 0, 1), (66, .ireturn, 1)]
set_option maxRecDepth 100000 in
theorem kX1_walkPowers_ok : ∀ q ∈ kX1_walkPowers, decode cX1_walkPowers q.1 = .ok (q.2.1, q.2.2) := by decide +kernel
def kX1_fillTraces : List (Nat × Instr × Nat) := [(0, .iconst 0, 1), (1, .istore_n 1, 1), (2, .iload_n 1, 1), (3, .aload_n 0, 1), (4, .getfield 46, 3), (7, .if_icmp .ge 55, 3), (10, .iconst 0, 1), (11, .istore_n 2, 1), (12, .iload_n 1, 1), (13, .istore_n 3, 1), (14, .iconst 0, 1), (15, .istore 4, 2), (17, .iload 4, 2), (19, .aload_n 0, 1), (20, .getfield 43, 3), (23, .if_icmp .ge 26, 3), (26, .aload_n 0, 1), (27, .iload_n 2, 1), (28, .iload_n 3, 1), (29, .invokevirtual 68, 3), (32, .istore_n 2, 1), (33, .aload_n 0, 1), (34, .iload_n 3, 1), (35, .aload_n 0, 1), (36, .getfield 39, 3), (39, .invokevirtual 75, 3), (42, .istore_n 3, 1), (43, .iinc 4 1, 3), (46, .goto (-29), 3), (49, .aload_n 0, 1), (50, .getfield 30, 3), (53, .iload_n 1, 1), (54, .iload_n 2, 1), (55, .iastore, 1), (56, .iinc 1 1, 3), (59, .goto (-57), 3), (62, .return_, 1)]
set_option maxRecDepth 100000 in
theorem kX1_fillTraces_ok : ∀ q ∈ kX1_fillTraces, decode cX1_fillTraces q.1 = .ok (q.2.1, q.2.2) := by decide +kernel
def kX2_init : List (Nat × Instr × Nat) := [(0, .aload_n 0, 1), (1, .invokespecial 3, 3), (4, .aload_n 0, 1), (5, .sipush 200, 3), (8, .newarray .int, 2), (10, .putfield 9, 3), (13, .aload_n 0, 1), (14, .sipush 200, 3), (17, .newarray .int, 2), (19, .putfield 15, 3), (22, .aload_n 0, 1), (23, .sipush 200, 3), (26, .newarray .int, 2), (28, .putfield 18, 3), (31, .aload_n 0, 1), (32, .sipush 200, 3), (35, .newarray .int, 2), (37, .putfield 21, 3), (40, .return_, 1)]
set_option maxRecDepth 100000 in
theorem kX2_init_ok : ∀ q ∈ kX2_init, decode cX2_init q.1 = .ok (q.2.1, q.2.2) := by decide +kernel
def kX2_add : List (Nat × Instr × Nat) := [(0, .aload_n 0, 1), (1, .getfield 24, 3), (4, .sipush 200, 3), (7, .if_icmp .ge 54, 3), (10, .aload_n 0, 1), (11, .getfield 9, 3), (14, .aload_n 0, 1), (15, .getfield 24, 3), (18, .iload_n 1, 1), (19, .iastore, 1), (20, .aload_n 0, 1), (21, .getfield 15, 3), (24, .aload_n 0, 1), (25, .getfield 24, 3), (28, .iload_n 2, 1), (29, .iastore, 1), (30, .aload_n 0, 1), (31, .getfield 18, 3), (34, .aload_n 0, 1), (35, .getfield 24, 3), (38, .iload_n 3, 1), (39, .iastore, 1), (40, .aload_n 0, 1), (41, .getfield 21, 3), (44, .aload_n 0, 1), (45, .getfield 24, 3), (48, .iload 4, 2), (50, .iastore, 1), (51, .aload_n 0, 1), (52, .dup, 1), (53, .getfield 24, 3), (56, .iconst 1, 1), (57, .iadd, 1), (58, .putfield 24, 3), (61, .return_, 1)]
set_option maxRecDepth 100000 in
theorem kX2_add_ok : ∀ q ∈ kX2_add, decode cX2_add q.1 = .ok (q.2.1, q.2.2) := by decide +kernel
def kX3_init : List (Nat × Instr × Nat) := [(0, .aload_n 0, 1), (1, .invokespecial 3, 3), (4, .aload_n 0, 1), (5, .new 9, 3), (8, .dup, 1), (9, .invokespecial 11, 3), (12, .putfield 12, 3), (15, .aload_n 0, 1), (16, .aload_n 1, 1), (17, .putfield 18, 3), (20, .aload_n 0, 1), (21, .aload_n 2, 1), (22, .putfield 22, 3), (25, .aload_n 0, 1), (26, .aload_n 3, 1), (27, .putfield 26, 3), (30, .return_, 1)]
set_option maxRecDepth 100000 in
theorem kX3_init_ok : ∀ q ∈ kX3_init, decode cX3_init q.1 = .ok (q.2.1, q.2.2) := by decide +kernel
def kX3_read : List (Nat × Instr × Nat) := [(0, .aload_n 0, 1), (1, .getfield 12, 3), (4, .iconst 0, 1), (5, .putfield 30, 3), (8, .aload_n 0, 1), (9, .iconst 0, 1), (10, .putfield 34, 3), (13, .aload_n 0, 1), (14, .iconst (-1), 1), (15, .putfield 37, 3), (18, .aload_n 0, 1), (19, .iload_n 1, 1), (20, .aload_n 0, 1), (21, .getfield 26, 3), (24, .arraylength, 1), (25, .invokestatic 40, 3), (28, .putfield 46, 3), (31, .aload_n 0, 1), (32, .iconst 0, 1), (33, .putfield 47, 3), (36, .aload_n 0, 1), (37, .iconst 0, 1), (38, .putfield 50, 3), (41, .aload_n 0, 1), (42, .invokevirtual 53, 3), (45, .aload_n 0, 1), (46, .invokevirtual 56, 3), (49, .aload_n 0, 1), (50, .getfield 59, 3), (53, .iconst (-1), 1), (54, .if_icmp .eq 8, 3), (57, .aload_n 0, 1), (58, .iconst 1, 1), (59, .invokevirtual 62, 3), (62, .return_, 1)]
set_option maxRecDepth 100000 in
theorem kX3_read_ok : ∀ q ∈ kX3_read, decode cX3_read q.1 = .ok (q.2.1, q.2.2) := by decide +kernel
def kX3_readSum : List (Nat × Instr × Nat) := [(0, .aload_n 0, 1), (1, .invokevirtual 66, 3), (4, .iconst 0, 1), (5, .istore_n 1, 1), (6, .iload_n 1, 1), (7, .aload_n 0, 1), (8, .getfield 46, 3), (11, .if_icmp .ge 63, 3), (14, .aload_n 0, 1), (15, .getfield 59, 3), (18, .bipush 43, 2), (20, .if_icmp .eq 12, 3), (23, .aload_n 0, 1), (24, .getfield 59, 3), (27, .bipush 45, 2), (29, .if_icmp .ne 45, 3), (32, .aload_n 0, 1), (33, .getfield 59, 3), (36, .bipush 43, 2), (38, .if_icmp .ne 8, 3), (41, .bipush 9, 2), (43, .goto 5, 3), (46, .bipush 10, 2), (48, .istore_n 2, 1), (49, .aload_n 0, 1), (50, .invokevirtual 53, 3), (53, .aload_n 0, 1), (54, .invokevirtual 66, 3), (57, .aload_n 0, 1), (58, .getfield 12, 3), (61, .iload_n 2, 1), (62, .iconst 0, 1), (63, .iconst 0, 1), (64, .iconst 0, 1), (65, .invokevirtual 69, 3), (68, .iinc 1 1, 3), (71, .goto (-65), 3), (74, .return_, 1)]
set_option maxRecDepth 100000 in
theorem kX3_readSum_ok : ∀ q ∈ kX3_readSum, decode cX3_readSum q.1 = .ok (q.2.1, q.2.2) := by decide +kernel
def kX3_readProduct : List (Nat × Instr × Nat) := [(0, .aload_n 0, 1), (1, .invokevirtual 73, 3), (4, .iconst 0, 1), (5, .istore_n 1, 1), (6, .iload_n 1, 1), (7, .aload_n 0, 1), (8, .getfield 46, 3), (11, .if_icmp .ge 38, 3), (14, .aload_n 0, 1), (15, .getfield 59, 3), (18, .bipush 42, 2), (20, .if_icmp .ne 29, 3), (23, .aload_n 0, 1), (24, .invokevirtual 53, 3), (27, .aload_n 0, 1), (28, .invokevirtual 73, 3), (31, .aload_n 0, 1), (32, .getfield 12, 3), (35, .bipush 11, 2), (37, .iconst 0, 1), (38, .iconst 0, 1), (39, .iconst 0, 1), (40, .invokevirtual 69, 3), (43, .iinc 1 1, 3), (46, .goto (-40), 3), (49, .return_, 1)]
set_option maxRecDepth 100000 in
theorem kX3_readProduct_ok : ∀ q ∈ kX3_readProduct, decode cX3_readProduct q.1 = .ok (q.2.1, q.2.2) := by decide +kernel
def kX3_readFactor : List (Nat × Instr × Nat) := [(0, .aload_n 0, 1), (1, .invokevirtual 76, 3), (4, .aload_n 0, 1), (5, .getfield 59, 3), (8, .bipush 94, 2), (10, .if_icmp .ne 36, 3), (13, .aload_n 0, 1), (14, .invokevirtual 53, 3), (17, .aload_n 0, 1), (18, .getfield 12, 3), (21, .bipush 12, 2), (23, .aload_n 0, 1), (24, .aload_n 0, 1), (25, .getfield 79, 3), (28, .bipush 20, 2), (30, .if_icmp .gt 7, 3), (33, .iconst 1, 1), (34, .goto 4, 3), (37, .iconst 0, 1), (38, .invokevirtual 82, 3), (41, .iconst 0, 1), (42, .iconst 0, 1), (43, .invokevirtual 69, 3), (46, .return_, 1)]
set_option maxRecDepth 100000 in
theorem kX3_readFactor_ok : ∀ q ∈ kX3_readFactor, decode cX3_readFactor q.1 = .ok (q.2.1, q.2.2) := by decide +kernel
def kX3_readAtom : List (Nat × Instr × Nat) := [(0, .aload_n 0, 1), (1, .getfield 59, 3), (4, .lookupswitch 156 #[(-2, 100), (35, 142), (40, 149), (45, 149), (103, 114), (106, 121), (107, 128), (109, 149), (112, 135), (122, 107), (126, 149)], 100), (104, .aload_n 0, 1), (105, .invokevirtual 86, 3), (108, .goto 57, 3), (111, .aload_n 0, 1), (112, .invokevirtual 89, 3), (115, .goto 50, 3), (118, .aload_n 0, 1), (119, .invokevirtual 92, 3), (122, .goto 43, 3), (125, .aload_n 0, 1), (126, .invokevirtual 95, 3), (129, .goto 36, 3), (132, .aload_n 0, 1), (133, .invokevirtual 98, 3), (136, .goto 29, 3), (139, .aload_n 0, 1), (140, .invokevirtual 101, 3), (143, .goto 22, 3), (146, .aload_n 0, 1), (147, .invokevirtual 104, 3), (150, .goto 15, 3), (153, .aload_n 0, 1), (154, .invokevirtual 107, 3), (157, .goto 8, 3), (160, .aload_n 0, 1), (161, .iconst 1, 1), (162, .invokevirtual 62, 3), (165, .return_, 1)]
set_option maxRecDepth 100000 in
theorem kX3_readAtom_ok : ∀ q ∈ kX3_readAtom, decode cX3_readAtom q.1 = .ok (q.2.1, q.2.2) := by decide +kernel
def kX3_readWhole : List (Nat × Instr × Nat) := [(0, .aload_n 0, 1), (1, .getfield 12, 3), (4, .iconst 0, 1), (5, .aload_n 0, 1), (6, .aload_n 0, 1), (7, .getfield 79, 3), (10, .sipush 10000, 3), (13, .if_icmp .ge 7, 3), (16, .iconst 1, 1), (17, .goto 4, 3), (20, .iconst 0, 1), (21, .invokevirtual 82, 3), (24, .iconst 0, 1), (25, .iconst 0, 1), (26, .invokevirtual 69, 3), (29, .return_, 1)]
set_option maxRecDepth 100000 in
theorem kX3_readWhole_ok : ∀ q ∈ kX3_readWhole, decode cX3_readWhole q.1 = .ok (q.2.1, q.2.2) := by decide +kernel
def kX3_readRoot : List (Nat × Instr × Nat) := [(0, .aload_n 0, 1), (1, .invokevirtual 53, 3), (4, .aload_n 0, 1), (5, .getfield 12, 3), (8, .iconst 1, 1), (9, .aload_n 0, 1), (10, .aload_n 0, 1), (11, .getfield 79, 3), (14, .aload_n 0, 1), (15, .getfield 22, 3), (18, .getfield 110, 3), (21, .if_icmp .ge 7, 3), (24, .iconst 1, 1), (25, .goto 4, 3), (28, .iconst 0, 1), (29, .invokevirtual 82, 3), (32, .iconst 0, 1), (33, .iconst 0, 1), (34, .invokevirtual 69, 3), (37, .return_, 1)]
set_option maxRecDepth 100000 in
theorem kX3_readRoot_ok : ∀ q ∈ kX3_readRoot, decode cX3_readRoot q.1 = .ok (q.2.1, q.2.2) := by decide +kernel
def kX3_readGauss : List (Nat × Instr × Nat) := [(0, .aload_n 0, 1), (1, .invokevirtual 53, 3), (4, .aload_n 0, 1), (5, .aload_n 0, 1), (6, .getfield 79, 3), (9, .aload_n 0, 1), (10, .getfield 18, 3), (13, .getfield 115, 3), (16, .iconst 1, 1), (17, .isub, 1), (18, .if_icmp .ge 7, 3), (21, .iconst 1, 1), (22, .goto 4, 3), (25, .iconst 0, 1), (26, .invokevirtual 82, 3), (29, .istore_n 1, 1), (30, .aload_n 0, 1), (31, .bipush 46, 2), (33, .invokevirtual 120, 3), (36, .aload_n 0, 1), (37, .getfield 12, 3), (40, .iconst 2, 1), (41, .iload_n 1, 1), (42, .aload_n 0, 1), (43, .aload_n 0, 1), (44, .getfield 79, 3), (47, .aload_n 0, 1), (48, .getfield 18, 3), (51, .getfield 115, 3), (54, .if_icmp .ge 7, 3), (57, .iconst 1, 1), (58, .goto 4, 3), (61, .iconst 0, 1), (62, .invokevirtual 82, 3), (65, .iconst 0, 1), (66, .invokevirtual 69, 3), (69, .return_, 1)]
set_option maxRecDepth 100000 in
theorem kX3_readGauss_ok : ∀ q ∈ kX3_readGauss, decode cX3_readGauss q.1 = .ok (q.2.1, q.2.2) := by decide +kernel
def kX3_readJacobi : List (Nat × Instr × Nat) := [(0, .aload_n 0, 1), (1, .invokevirtual 53, 3), (4, .aload_n 0, 1), (5, .aload_n 0, 1), (6, .getfield 79, 3), (9, .aload_n 0, 1), (10, .getfield 18, 3), (13, .getfield 115, 3), (16, .iconst 1, 1), (17, .isub, 1), (18, .if_icmp .ge 7, 3), (21, .iconst 1, 1), (22, .goto 4, 3), (25, .iconst 0, 1), (26, .invokevirtual 82, 3), (29, .istore_n 1, 1), (30, .aload_n 0, 1), (31, .bipush 46, 2), (33, .invokevirtual 120, 3), (36, .aload_n 0, 1), (37, .aload_n 0, 1), (38, .getfield 79, 3), (41, .aload_n 0, 1), (42, .getfield 18, 3), (45, .getfield 115, 3), (48, .iconst 1, 1), (49, .isub, 1), (50, .if_icmp .ge 7, 3), (53, .iconst 1, 1), (54, .goto 4, 3), (57, .iconst 0, 1), (58, .invokevirtual 82, 3), (61, .istore_n 2, 1), (62, .aload_n 0, 1), (63, .bipush 46, 2), (65, .invokevirtual 120, 3), (68, .aload_n 0, 1), (69, .getfield 12, 3), (72, .iconst 3, 1), (73, .iload_n 1, 1), (74, .iload_n 2, 1), (75, .aload_n 0, 1), (76, .aload_n 0, 1), (77, .getfield 79, 3), (80, .aload_n 0, 1), (81, .getfield 18, 3), (84, .getfield 115, 3), (87, .if_icmp .ge 7, 3), (90, .iconst 1, 1), (91, .goto 4, 3), (94, .iconst 0, 1), (95, .invokevirtual 82, 3), (98, .invokevirtual 69, 3), (101, .return_, 1)]
set_option maxRecDepth 100000 in
theorem kX3_readJacobi_ok : ∀ q ∈ kX3_readJacobi, decode cX3_readJacobi q.1 = .ok (q.2.1, q.2.2) := by decide +kernel
def kX3_readKloosterman : List (Nat × Instr × Nat) := [(0, .aload_n 0, 1), (1, .invokevirtual 53, 3), (4, .aload_n 0, 1), (5, .aload_n 0, 1), (6, .getfield 79, 3), (9, .aload_n 0, 1), (10, .getfield 18, 3), (13, .getfield 115, 3), (16, .if_icmp .ge 7, 3), (19, .iconst 1, 1), (20, .goto 4, 3), (23, .iconst 0, 1), (24, .invokevirtual 82, 3), (27, .istore_n 1, 1), (28, .aload_n 0, 1), (29, .bipush 46, 2), (31, .invokevirtual 120, 3), (34, .aload_n 0, 1), (35, .getfield 12, 3), (38, .iconst 4, 1), (39, .iload_n 1, 1), (40, .aload_n 0, 1), (41, .aload_n 0, 1), (42, .getfield 79, 3), (45, .aload_n 0, 1), (46, .getfield 18, 3), (49, .getfield 115, 3), (52, .if_icmp .ge 7, 3), (55, .iconst 1, 1), (56, .goto 4, 3), (59, .iconst 0, 1), (60, .invokevirtual 82, 3), (63, .iconst 0, 1), (64, .invokevirtual 69, 3), (67, .return_, 1)]
set_option maxRecDepth 100000 in
theorem kX3_readKloosterman_ok : ∀ q ∈ kX3_readKloosterman, decode cX3_readKloosterman q.1 = .ok (q.2.1, q.2.2) := by decide +kernel
def kX3_readPeriod : List (Nat × Instr × Nat) := [(0, .aload_n 0, 1), (1, .invokevirtual 53, 3), (4, .aload_n 0, 1), (5, .aload_n 0, 1), (6, .getfield 18, 3), (9, .aload_n 0, 1), (10, .getfield 79, 3), (13, .invokevirtual 123, 3), (16, .invokevirtual 82, 3), (19, .istore_n 1, 1), (20, .aload_n 0, 1), (21, .bipush 46, 2), (23, .invokevirtual 120, 3), (26, .aload_n 0, 1), (27, .getfield 12, 3), (30, .iconst 5, 1), (31, .iload_n 1, 1), (32, .aload_n 0, 1), (33, .aload_n 0, 1), (34, .getfield 79, 3), (37, .iload_n 1, 1), (38, .if_icmp .ge 7, 3), (41, .iconst 1, 1), (42, .goto 4, 3), (45, .iconst 0, 1), (46, .invokevirtual 82, 3), (49, .iconst 0, 1), (50, .invokevirtual 69, 3), (53, .return_, 1)]
set_option maxRecDepth 100000 in
theorem kX3_readPeriod_ok : ∀ q ∈ kX3_readPeriod, decode cX3_readPeriod q.1 = .ok (q.2.1, q.2.2) := by decide +kernel
def kX3_readPlace : List (Nat × Instr × Nat) := [(0, .aload_n 0, 1), (1, .invokevirtual 53, 3), (4, .aload_n 0, 1), (5, .getfield 12, 3), (8, .bipush 6, 2), (10, .aload_n 0, 1), (11, .aload_n 0, 1), (12, .getfield 79, 3), (15, .bipush 8, 2), (17, .if_icmp .ge 7, 3), (20, .iconst 1, 1), (21, .goto 4, 3), (24, .iconst 0, 1), (25, .invokevirtual 82, 3), (28, .iconst 0, 1), (29, .iconst 0, 1), (30, .invokevirtual 69, 3), (33, .return_, 1)]
set_option maxRecDepth 100000 in
theorem kX3_readPlace_ok : ∀ q ∈ kX3_readPlace, decode cX3_readPlace q.1 = .ok (q.2.1, q.2.2) := by decide +kernel
def kX3_readOpening : List (Nat × Instr × Nat) := [(0, .aload_n 0, 1), (1, .getfield 50, 3), (4, .bipush 6, 2), (6, .if_icmp .ne 9, 3), (9, .aload_n 0, 1), (10, .iconst 3, 1), (11, .invokevirtual 62, 3), (14, .return_, 1), (15, .aload_n 0, 1), (16, .getfield 59, 3), (19, .istore_n 1, 1), (20, .aload_n 0, 1), (21, .dup, 1), (22, .getfield 50, 3), (25, .iconst 1, 1), (26, .iadd, 1), (27, .putfield 50, 3), (30, .aload_n 0, 1), (31, .invokevirtual 53, 3), (34, .iload_n 1, 1), (35, .bipush 40, 2), (37, .if_icmp .ne 16, 3), (40, .aload_n 0, 1), (41, .invokevirtual 56, 3), (44, .aload_n 0, 1), (45, .bipush 41, 2), (47, .invokevirtual 120, 3), (50, .goto 99, 3), (53, .iload_n 1, 1), (54, .bipush 45, 2), (56, .if_icmp .ne 22, 3), (59, .aload_n 0, 1), (60, .invokevirtual 76, 3), (63, .aload_n 0, 1), (64, .getfield 12, 3), (67, .bipush 7, 2), (69, .iconst 0, 1), (70, .iconst 0, 1), (71, .iconst 0, 1), (72, .invokevirtual 69, 3), (75, .goto 74, 3), (78, .iload_n 1, 1), (79, .bipush 126, 2), (81, .if_icmp .ne 30, 3), (84, .aload_n 0, 1), (85, .invokevirtual 76, 3), (88, .aload_n 0, 1), (89, .getfield 12, 3), (92, .bipush 8, 2), (94, .aload_n 0, 1), (95, .getfield 22, 3), (98, .getfield 110, 3), (101, .iconst 1, 1), (102, .isub, 1), (103, .iconst 0, 1), (104, .iconst 0, 1), (105, .invokevirtual 69, 3), (108, .goto 41, 3), (111, .aload_n 0, 1), (112, .aload_n 0, 1), (113, .getfield 22, 3), (116, .aload_n 0, 1), (117, .getfield 79, 3), (120, .invokevirtual 127, 3), (123, .invokevirtual 82, 3), (126, .istore_n 2, 1), (127, .aload_n 0, 1), (128, .bipush 46, 2), (130, .invokevirtual 120, 3), (133, .aload_n 0, 1), (134, .invokevirtual 76, 3), (137, .aload_n 0, 1), (138, .getfield 12, 3), (141, .bipush 8, 2), (143, .iload_n 2, 1), (144, .iconst 0, 1), (145, .iconst 0, 1), (146, .invokevirtual 69, 3), (149, .aload_n 0, 1), (150, .dup, 1), (151, .getfield 50, 3), (154, .iconst 1, 1), (155, .isub, 1), (156, .putfield 50, 3), (159, .return_, 1)]
set_option maxRecDepth 100000 in
theorem kX3_readOpening_ok : ∀ q ∈ kX3_readOpening, decode cX3_readOpening q.1 = .ok (q.2.1, q.2.2) := by decide +kernel
def kX3_readNumber : List (Nat × Instr × Nat) := [(0, .aload_n 0, 1), (1, .getfield 59, 3), (4, .bipush (-2), 2), (6, .if_icmp .eq 10, 3), (9, .aload_n 0, 1), (10, .iconst 1, 1), (11, .invokevirtual 62, 3), (14, .iconst 0, 1), (15, .ireturn, 1), (16, .iload_n 1, 1), (17, .ifCond .ne 10, 3), (20, .aload_n 0, 1), (21, .iconst 2, 1), (22, .invokevirtual 62, 3), (25, .iconst 0, 1), (26, .ireturn, 1), (27, .aload_n 0, 1), (28, .getfield 79, 3), (31, .istore_n 2, 1), (32, .aload_n 0, 1), (33, .invokevirtual 53, 3), (36, .iload_n 2, 1), (37, .ireturn, 1)]
set_option maxRecDepth 100000 in
theorem kX3_readNumber_ok : ∀ q ∈ kX3_readNumber, decode cX3_readNumber q.1 = .ok (q.2.1, q.2.2) := by decide +kernel
def kX3_skip : List (Nat × Instr × Nat) := [(0, .aload_n 0, 1), (1, .getfield 59, 3), (4, .iload_n 1, 1), (5, .if_icmp .ne 10, 3), (8, .aload_n 0, 1), (9, .invokevirtual 53, 3), (12, .goto 8, 3), (15, .aload_n 0, 1), (16, .iconst 1, 1), (17, .invokevirtual 62, 3), (20, .return_, 1)]
set_option maxRecDepth 100000 in
theorem kX3_skip_ok : ∀ q ∈ kX3_skip, decode cX3_skip q.1 = .ok (q.2.1, q.2.2) := by decide +kernel
def kX3_refuse : List (Nat × Instr × Nat) := [(0, .aload_n 0, 1), (1, .getfield 34, 3), (4, .ifCond .ne 16, 3), (7, .aload_n 0, 1), (8, .iload_n 1, 1), (9, .putfield 34, 3), (12, .aload_n 0, 1), (13, .aload_n 0, 1), (14, .getfield 130, 3), (17, .putfield 37, 3), (20, .aload_n 0, 1), (21, .aload_n 0, 1), (22, .getfield 46, 3), (25, .putfield 47, 3), (28, .aload_n 0, 1), (29, .iconst (-1), 1), (30, .putfield 59, 3), (33, .return_, 1)]
set_option maxRecDepth 100000 in
theorem kX3_refuse_ok : ∀ q ∈ kX3_refuse, decode cX3_refuse q.1 = .ok (q.2.1, q.2.2) := by decide +kernel
def kX3_advance : List (Nat × Instr × Nat) := [(0, .aload_n 0, 1), (1, .getfield 47, 3), (4, .aload_n 0, 1), (5, .getfield 46, 3), (8, .if_icmp .ge 44, 3), (11, .aload_n 0, 1), (12, .getfield 26, 3), (15, .aload_n 0, 1), (16, .getfield 47, 3), (19, .iaload, 1), (20, .bipush 32, 2), (22, .if_icmp .eq 17, 3), (25, .aload_n 0, 1), (26, .getfield 26, 3), (29, .aload_n 0, 1), (30, .getfield 47, 3), (33, .iaload, 1), (34, .bipush 10, 2), (36, .if_icmp .ne 16, 3), (39, .aload_n 0, 1), (40, .dup, 1), (41, .getfield 47, 3), (44, .iconst 1, 1), (45, .iadd, 1), (46, .putfield 47, 3), (49, .goto (-49), 3), (52, .aload_n 0, 1), (53, .aload_n 0, 1), (54, .getfield 47, 3), (57, .putfield 130, 3), (60, .aload_n 0, 1), (61, .iconst 0, 1), (62, .putfield 79, 3), (65, .aload_n 0, 1), (66, .getfield 47, 3), (69, .aload_n 0, 1), (70, .getfield 46, 3), (73, .if_icmp .ge 61, 3), (76, .aload_n 0, 1), (77, .getfield 26, 3), (80, .aload_n 0, 1), (81, .getfield 47, 3), (84, .iaload, 1), (85, .invokestatic 133, 3), (88, .ifCond .eq 46, 3), (91, .aload_n 0, 1), (92, .aload_n 0, 1), (93, .getfield 79, 3), (96, .bipush 10, 2), (98, .imul, 1), (99, .aload_n 0, 1), (100, .getfield 26, 3), (103, .aload_n 0, 1), (104, .getfield 47, 3), (107, .iaload, 1), (108, .iadd, 1), (109, .bipush 48, 2), (111, .isub, 1), (112, .sipush 10000, 3), (115, .invokestatic 40, 3), (118, .putfield 79, 3), (121, .aload_n 0, 1), (122, .dup, 1), (123, .getfield 47, 3), (126, .iconst 1, 1), (127, .iadd, 1), (128, .putfield 47, 3), (131, .goto (-66), 3), (134, .aload_n 0, 1), (135, .getfield 47, 3), (138, .aload_n 0, 1), (139, .getfield 130, 3), (142, .if_icmp .le 12, 3), (145, .aload_n 0, 1), (146, .bipush (-2), 2), (148, .putfield 59, 3), (151, .goto 45, 3), (154, .aload_n 0, 1), (155, .getfield 47, 3), (158, .aload_n 0, 1), (159, .getfield 46, 3), (162, .if_icmp .ge 29, 3), (165, .aload_n 0, 1), (166, .aload_n 0, 1), (167, .getfield 26, 3), (170, .aload_n 0, 1), (171, .getfield 47, 3), (174, .iaload, 1), (175, .putfield 59, 3), (178, .aload_n 0, 1), (179, .dup, 1), (180, .getfield 47, 3), (183, .iconst 1, 1), (184, .iadd, 1), (185, .putfield 47, 3), (188, .goto 8, 3), (191, .aload_n 0, 1), (192, .iconst (-1), 1), (193, .putfield 59, 3), (196, .return_, 1)]
set_option maxRecDepth 100000 in
theorem kX3_advance_ok : ∀ q ∈ kX3_advance, decode cX3_advance q.1 = .ok (q.2.1, q.2.2) := by decide +kernel
end
section
def kX3_isFigure : List (Nat × Instr × Nat) := [(0, .iload_n 0, 1), (1, .bipush 48, 2), (3, .if_icmp .lt 13, 3), (6, .iload_n 0, 1), (7, .bipush 57, 2), (9, .if_icmp .gt 7, 3), (12, .iconst 1, 1), (13, .goto 4, 3), (16, .iconst 0, 1), (17, .ireturn, 1)]
set_option maxRecDepth 100000 in
theorem kX3_isFigure_ok : ∀ q ∈ kX3_isFigure, decode cX3_isFigure q.1 = .ok (q.2.1, q.2.2) := by decide +kernel
def kX4_init : List (Nat × Instr × Nat) := [(0, .aload_n 0, 1), (1, .invokespecial 3, 3), (4, .aload_n 0, 1), (5, .sipush 506, 3), (8, .newarray .boolean, 2), (10, .putfield 11, 3), (13, .aload_n 0, 1), (14, .sipush 253, 3), (17, .newarray .long, 2), (19, .putfield 15, 3), (22, .aload_n 0, 1), (23, .sipush 220, 3), (26, .newarray .int, 2), (28, .putfield 19, 3), (31, .aload_n 0, 1), (32, .sipush 220, 3), (35, .newarray .int, 2), (37, .putfield 23, 3), (40, .return_, 1)]
set_option maxRecDepth 100000 in
theorem kX4_init_ok : ∀ q ∈ kX4_init, decode cX4_init q.1 = .ok (q.2.1, q.2.2) := by decide +kernel
def kX4_become : List (Nat × Instr × Nat) := [(0, .aload_n 0, 1), (1, .iload_n 1, 1), (2, .putfield 26, 3), (5, .aload_n 0, 1), (6, .aload_n 0, 1), (7, .getfield 26, 3), (10, .iconst 2, 1), (11, .idiv, 1), (12, .putfield 30, 3), (15, .aload_n 0, 1), (16, .invokevirtual 33, 3), (19, .aload_n 0, 1), (20, .invokevirtual 36, 3), (23, .aload_n 0, 1), (24, .invokevirtual 39, 3), (27, .return_, 1)]
set_option maxRecDepth 100000 in
theorem kX4_become_ok : ∀ q ∈ kX4_become, decode cX4_become q.1 = .ok (q.2.1, q.2.2) := by decide +kernel
def kX4_moves : List (Nat × Instr × Nat) := [(0, .iload_n 1, 1), (1, .ifCond .lt 24, 3), (4, .iload_n 1, 1), (5, .aload_n 0, 1), (6, .getfield 26, 3), (9, .if_icmp .ge 16, 3), (12, .aload_n 0, 1), (13, .getfield 11, 3), (16, .iload_n 1, 1), (17, .baload, 1), (18, .ifCond .eq 7, 3), (21, .iconst 1, 1), (22, .goto 4, 3), (25, .iconst 0, 1), (26, .ireturn, 1)]
set_option maxRecDepth 100000 in
theorem kX4_moves_ok : ∀ q ∈ kX4_moves, decode cX4_moves q.1 = .ok (q.2.1, q.2.2) := by decide +kernel
def kX4_clear : List (Nat × Instr × Nat) := [(0, .aload_n 0, 1), (1, .getfield 15, 3), (4, .lconst 0, 1), (5, .invokestatic 42, 3), (8, .return_, 1)]
set_option maxRecDepth 100000 in
theorem kX4_clear_ok : ∀ q ∈ kX4_clear, decode cX4_clear q.1 = .ok (q.2.1, q.2.2) := by decide +kernel
def kX4_add : List (Nat × Instr × Nat) := [(0, .iload_n 3, 1), (1, .aload_n 0, 1), (2, .getfield 26, 3), (5, .irem, 1), (6, .istore 4, 2), (8, .iload 4, 2), (10, .aload_n 0, 1), (11, .getfield 30, 3), (14, .if_icmp .ge 17, 3), (17, .aload_n 0, 1), (18, .getfield 15, 3), (21, .iload 4, 2), (23, .dup2, 1), (24, .laload, 1), (25, .lload_n 1, 1), (26, .ladd, 1), (27, .lastore, 1), (28, .goto 19, 3), (31, .aload_n 0, 1), (32, .getfield 15, 3), (35, .iload 4, 2), (37, .aload_n 0, 1), (38, .getfield 30, 3), (41, .isub, 1), (42, .dup2, 1), (43, .laload, 1), (44, .lload_n 1, 1), (45, .lsub, 1), (46, .lastore, 1), (47, .return_, 1)]
set_option maxRecDepth 100000 in
theorem kX4_add_ok : ∀ q ∈ kX4_add, decode cX4_add q.1 = .ok (q.2.1, q.2.2) := by decide +kernel
def kX4_addValue : List (Nat × Instr × Nat) := [(0, .iconst 0, 1), (1, .istore_n 3, 1), (2, .iload_n 3, 1), (3, .aload_n 0, 1), (4, .getfield 48, 3), (7, .if_icmp .ge 25, 3), (10, .aload_n 0, 1), (11, .getfield 15, 3), (14, .iload_n 3, 1), (15, .dup2, 1), (16, .laload, 1), (17, .aload_n 1, 1), (18, .iload_n 3, 1), (19, .iaload, 1), (20, .i2l, 1), (21, .iload_n 2, 1), (22, .i2l, 1), (23, .lmul, 1), (24, .ladd, 1), (25, .lastore, 1), (26, .iinc 3 1, 3), (29, .goto (-27), 3), (32, .return_, 1)]
set_option maxRecDepth 100000 in
theorem kX4_addValue_ok : ∀ q ∈ kX4_addValue, decode cX4_addValue q.1 = .ok (q.2.1, q.2.2) := by decide +kernel
def kX4_multiply : List (Nat × Instr × Nat) := [(0, .aload_n 0, 1), (1, .invokevirtual 51, 3), (4, .iconst 0, 1), (5, .istore_n 3, 1), (6, .iload_n 3, 1), (7, .aload_n 0, 1), (8, .getfield 48, 3), (11, .if_icmp .ge 25, 3), (14, .aload_n 1, 1), (15, .iload_n 3, 1), (16, .iaload, 1), (17, .ifCond .eq 13, 3), (20, .aload_n 0, 1), (21, .aload_n 2, 1), (22, .aload_n 1, 1), (23, .iload_n 3, 1), (24, .iaload, 1), (25, .i2l, 1), (26, .iload_n 3, 1), (27, .invokevirtual 54, 3), (30, .iinc 3 1, 3), (33, .goto (-27), 3), (36, .return_, 1)]
set_option maxRecDepth 100000 in
theorem kX4_multiply_ok : ∀ q ∈ kX4_multiply, decode cX4_multiply q.1 = .ok (q.2.1, q.2.2) := by decide +kernel
def kX4_move : List (Nat × Instr × Nat) := [(0, .aload_n 0, 1), (1, .invokevirtual 51, 3), (4, .aload_n 0, 1), (5, .aload_n 1, 1), (6, .iload_n 2, 1), (7, .invokevirtual 58, 3), (10, .return_, 1)]
set_option maxRecDepth 100000 in
theorem kX4_move_ok : ∀ q ∈ kX4_move, decode cX4_move q.1 = .ok (q.2.1, q.2.2) := by decide +kernel
def kX4_moveRoot : List (Nat × Instr × Nat) := [(0, .aload_n 0, 1), (1, .invokevirtual 51, 3), (4, .iconst 0, 1), (5, .istore_n 2, 1), (6, .iload_n 2, 1), (7, .aload_n 0, 1), (8, .getfield 26, 3), (11, .if_icmp .ge 26, 3), (14, .aload_n 0, 1), (15, .getfield 11, 3), (18, .iload_n 2, 1), (19, .baload, 1), (20, .ifCond .eq 11, 3), (23, .aload_n 0, 1), (24, .lconst 1, 1), (25, .iload_n 2, 1), (26, .iload_n 1, 1), (27, .imul, 1), (28, .invokevirtual 62, 3), (31, .iinc 2 1, 3), (34, .goto (-28), 3), (37, .return_, 1)]
set_option maxRecDepth 100000 in
theorem kX4_moveRoot_ok : ∀ q ∈ kX4_moveRoot, decode cX4_moveRoot q.1 = .ok (q.2.1, q.2.2) := by decide +kernel
def kX4_take : List (Nat × Instr × Nat) := [(0, .aload_n 0, 1), (1, .invokevirtual 66, 3), (4, .iconst 0, 1), (5, .istore_n 2, 1), (6, .iload_n 2, 1), (7, .aload_n 0, 1), (8, .getfield 48, 3), (11, .if_icmp .ge 37, 3), (14, .aload_n 0, 1), (15, .getfield 15, 3), (18, .iload_n 2, 1), (19, .laload, 1), (20, .ldc2_w 69, 3), (23, .lcmp, 1), (24, .ifCond .lt 16, 3), (27, .aload_n 0, 1), (28, .getfield 15, 3), (31, .iload_n 2, 1), (32, .laload, 1), (33, .ldc2_w 71, 3), (36, .lcmp, 1), (37, .ifCond .le 5, 3), (40, .iconst 0, 1), (41, .ireturn, 1), (42, .iinc 2 1, 3), (45, .goto (-39), 3), (48, .iconst 0, 1), (49, .istore_n 2, 1), (50, .iload_n 2, 1), (51, .aload_n 0, 1), (52, .getfield 48, 3), (55, .if_icmp .ge 19, 3), (58, .aload_n 1, 1), (59, .iload_n 2, 1), (60, .aload_n 0, 1), (61, .getfield 15, 3), (64, .iload_n 2, 1), (65, .laload, 1), (66, .l2i, 1), (67, .iastore, 1), (68, .iinc 2 1, 3), (71, .goto (-21), 3), (74, .iconst 1, 1), (75, .ireturn, 1)]
set_option maxRecDepth 100000 in
theorem kX4_take_ok : ∀ q ∈ kX4_take, decode cX4_take q.1 = .ok (q.2.1, q.2.2) := by decide +kernel
def kX4_terms : List (Nat × Instr × Nat) := [(0, .iconst 0, 1), (1, .istore_n 2, 1), (2, .iconst 0, 1), (3, .istore_n 3, 1), (4, .iload_n 3, 1), (5, .aload_n 0, 1), (6, .getfield 48, 3), (9, .if_icmp .ge 18, 3), (12, .aload_n 1, 1), (13, .iload_n 3, 1), (14, .iaload, 1), (15, .ifCond .eq 6, 3), (18, .iinc 2 1, 3), (21, .iinc 3 1, 3), (24, .goto (-20), 3), (27, .iload_n 2, 1), (28, .ireturn, 1)]
set_option maxRecDepth 100000 in
theorem kX4_terms_ok : ∀ q ∈ kX4_terms, decode cX4_terms q.1 = .ok (q.2.1, q.2.2) := by decide +kernel
def kX4_isWhole : List (Nat × Instr × Nat) := [(0, .aload_n 0, 1), (1, .aload_n 1, 1), (2, .invokevirtual 73, 3), (5, .aload_n 1, 1), (6, .iconst 0, 1), (7, .iaload, 1), (8, .ifCond .ne 7, 3), (11, .iconst 0, 1), (12, .goto 4, 3), (15, .iconst 1, 1), (16, .if_icmp .ne 7, 3), (19, .iconst 1, 1), (20, .goto 4, 3), (23, .iconst 0, 1), (24, .ireturn, 1)]
set_option maxRecDepth 100000 in
theorem kX4_isWhole_ok : ∀ q ∈ kX4_isWhole, decode cX4_isWhole q.1 = .ok (q.2.1, q.2.2) := by decide +kernel
def kX4_alikeValues : List (Nat × Instr × Nat) := [(0, .iconst 0, 1), (1, .istore_n 3, 1), (2, .iload_n 3, 1), (3, .aload_n 0, 1), (4, .getfield 48, 3), (7, .if_icmp .ge 20, 3), (10, .aload_n 1, 1), (11, .iload_n 3, 1), (12, .iaload, 1), (13, .aload_n 2, 1), (14, .iload_n 3, 1), (15, .iaload, 1), (16, .if_icmp .eq 5, 3), (19, .iconst 0, 1), (20, .ireturn, 1), (21, .iinc 3 1, 3), (24, .goto (-22), 3), (27, .iconst 1, 1), (28, .ireturn, 1)]
set_option maxRecDepth 100000 in
theorem kX4_alikeValues_ok : ∀ q ∈ kX4_alikeValues, decode cX4_alikeValues q.1 = .ok (q.2.1, q.2.2) := by decide +kernel
def kX4_staysWhenMoved : List (Nat × Instr × Nat) := [(0, .aload_n 0, 1), (1, .aload_n 1, 1), (2, .iload_n 2, 1), (3, .invokevirtual 77, 3), (6, .aload_n 0, 1), (7, .invokevirtual 66, 3), (10, .iconst 0, 1), (11, .istore_n 3, 1), (12, .iload_n 3, 1), (13, .aload_n 0, 1), (14, .getfield 48, 3), (17, .if_icmp .ge 25, 3), (20, .aload_n 0, 1), (21, .getfield 15, 3), (24, .iload_n 3, 1), (25, .laload, 1), (26, .aload_n 1, 1), (27, .iload_n 3, 1), (28, .iaload, 1), (29, .i2l, 1), (30, .lcmp, 1), (31, .ifCond .eq 5, 3), (34, .iconst 0, 1), (35, .ireturn, 1), (36, .iinc 3 1, 3), (39, .goto (-27), 3), (42, .iconst 1, 1), (43, .ireturn, 1)]
set_option maxRecDepth 100000 in
theorem kX4_staysWhenMoved_ok : ∀ q ∈ kX4_staysWhenMoved, decode cX4_staysWhenMoved q.1 = .ok (q.2.1, q.2.2) := by decide +kernel
def kX4_unlikeMovings : List (Nat × Instr × Nat) := [(0, .iconst 1, 1), (1, .istore_n 2, 1), (2, .iconst 2, 1), (3, .istore_n 3, 1), (4, .iload_n 3, 1), (5, .aload_n 0, 1), (6, .getfield 26, 3), (9, .if_icmp .ge 30, 3), (12, .aload_n 0, 1), (13, .getfield 11, 3), (16, .iload_n 3, 1), (17, .baload, 1), (18, .ifCond .eq 15, 3), (21, .aload_n 0, 1), (22, .aload_n 1, 1), (23, .iload_n 3, 1), (24, .invokevirtual 80, 3), (27, .ifCond .eq 6, 3), (30, .iinc 2 1, 3), (33, .iinc 3 1, 3), (36, .goto (-32), 3), (39, .aload_n 0, 1), (40, .getfield 48, 3), (43, .iload_n 2, 1), (44, .idiv, 1), (45, .ireturn, 1)]
set_option maxRecDepth 100000 in
theorem kX4_unlikeMovings_ok : ∀ q ∈ kX4_unlikeMovings, decode cX4_unlikeMovings q.1 = .ok (q.2.1, q.2.2) := by decide +kernel
def kX4_firstStay : List (Nat × Instr × Nat) := [(0, .iconst 2, 1), (1, .istore_n 2, 1), (2, .iload_n 2, 1), (3, .aload_n 0, 1), (4, .getfield 26, 3), (7, .if_icmp .ge 29, 3), (10, .aload_n 0, 1), (11, .getfield 11, 3), (14, .iload_n 2, 1), (15, .baload, 1), (16, .ifCond .eq 14, 3), (19, .aload_n 0, 1), (20, .aload_n 1, 1), (21, .iload_n 2, 1), (22, .invokevirtual 80, 3), (25, .ifCond .eq 5, 3), (28, .iload_n 2, 1), (29, .ireturn, 1), (30, .iinc 2 1, 3), (33, .goto (-31), 3), (36, .iconst (-1), 1), (37, .ireturn, 1)]
set_option maxRecDepth 100000 in
theorem kX4_firstStay_ok : ∀ q ∈ kX4_firstStay, decode cX4_firstStay q.1 = .ok (q.2.1, q.2.2) := by decide +kernel
def kX4_allMovings : List (Nat × Instr × Nat) := [(0, .aload_n 0, 1), (1, .invokevirtual 51, 3), (4, .iconst 0, 1), (5, .istore_n 2, 1), (6, .iload_n 2, 1), (7, .aload_n 0, 1), (8, .getfield 26, 3), (11, .if_icmp .ge 24, 3), (14, .aload_n 0, 1), (15, .getfield 11, 3), (18, .iload_n 2, 1), (19, .baload, 1), (20, .ifCond .eq 9, 3), (23, .aload_n 0, 1), (24, .aload_n 1, 1), (25, .iload_n 2, 1), (26, .invokevirtual 58, 3), (29, .iinc 2 1, 3), (32, .goto (-26), 3), (35, .aload_n 0, 1), (36, .invokevirtual 66, 3), (39, .aload_n 0, 1), (40, .getfield 15, 3), (43, .iconst 0, 1), (44, .laload, 1), (45, .lreturn, 1)]
set_option maxRecDepth 100000 in
theorem kX4_allMovings_ok : ∀ q ∈ kX4_allMovings, decode cX4_allMovings q.1 = .ok (q.2.1, q.2.2) := by decide +kernel
def kX4_addMoved : List (Nat × Instr × Nat) := [(0, .iconst 0, 1), (1, .istore_n 3, 1), (2, .iload_n 3, 1), (3, .aload_n 0, 1), (4, .getfield 48, 3), (7, .if_icmp .ge 26, 3), (10, .aload_n 1, 1), (11, .iload_n 3, 1), (12, .iaload, 1), (13, .ifCond .eq 14, 3), (16, .aload_n 0, 1), (17, .aload_n 1, 1), (18, .iload_n 3, 1), (19, .iaload, 1), (20, .i2l, 1), (21, .iload_n 3, 1), (22, .iload_n 2, 1), (23, .imul, 1), (24, .invokevirtual 62, 3), (27, .iinc 3 1, 3), (30, .goto (-28), 3), (33, .return_, 1)]
set_option maxRecDepth 100000 in
theorem kX4_addMoved_ok : ∀ q ∈ kX4_addMoved, decode cX4_addMoved q.1 = .ok (q.2.1, q.2.2) := by decide +kernel
def kX4_addShifted : List (Nat × Instr × Nat) := [(0, .iconst 0, 1), (1, .istore 5, 2), (3, .iload 5, 2), (5, .aload_n 0, 1), (6, .getfield 48, 3), (9, .if_icmp .ge 67, 3), (12, .iload 5, 2), (14, .iload 4, 2), (16, .iadd, 1), (17, .istore 6, 2), (19, .iload 6, 2), (21, .aload_n 0, 1), (22, .getfield 30, 3), (25, .if_icmp .ge 23, 3), (28, .aload_n 0, 1), (29, .getfield 15, 3), (32, .iload 6, 2), (34, .dup2, 1), (35, .laload, 1), (36, .lload_n 2, 1), (37, .aload_n 1, 1), (38, .iload 5, 2), (40, .iaload, 1), (41, .i2l, 1), (42, .lmul, 1), (43, .ladd, 1), (44, .lastore, 1), (45, .goto 25, 3), (48, .aload_n 0, 1), (49, .getfield 15, 3), (52, .iload 6, 2), (54, .aload_n 0, 1), (55, .getfield 30, 3), (58, .isub, 1), (59, .dup2, 1), (60, .laload, 1), (61, .lload_n 2, 1), (62, .aload_n 1, 1), (63, .iload 5, 2), (65, .iaload, 1), (66, .i2l, 1), (67, .lmul, 1), (68, .lsub, 1), (69, .lastore, 1), (70, .iinc 5 1, 3), (73, .goto (-70), 3), (76, .return_, 1)]
set_option maxRecDepth 100000 in
theorem kX4_addShifted_ok : ∀ q ∈ kX4_addShifted, decode cX4_addShifted q.1 = .ok (q.2.1, q.2.2) := by decide +kernel
def kX4_reduce : List (Nat × Instr × Nat) := [(0, .aload_n 0, 1), (1, .getfield 30, 3), (4, .iconst 1, 1), (5, .isub, 1), (6, .istore_n 1, 1), (7, .iload_n 1, 1), (8, .aload_n 0, 1), (9, .getfield 48, 3), (12, .if_icmp .lt 79, 3), (15, .aload_n 0, 1), (16, .getfield 15, 3), (19, .iload_n 1, 1), (20, .laload, 1), (21, .lstore_n 2, 1), (22, .aload_n 0, 1), (23, .getfield 15, 3), (26, .iload_n 1, 1), (27, .lconst 0, 1), (28, .lastore, 1), (29, .iconst 0, 1), (30, .istore 4, 2), (32, .lload_n 2, 1), (33, .lconst 0, 1), (34, .lcmp, 1), (35, .ifCond .eq 50, 3), (38, .iload 4, 2), (40, .aload_n 0, 1), (41, .getfield 84, 3), (44, .if_icmp .ge 41, 3), (47, .aload_n 0, 1), (48, .getfield 15, 3), (51, .iload_n 1, 1), (52, .aload_n 0, 1), (53, .getfield 48, 3), (56, .isub, 1), (57, .aload_n 0, 1), (58, .getfield 19, 3), (61, .iload 4, 2), (63, .iaload, 1), (64, .iadd, 1), (65, .dup2, 1), (66, .laload, 1), (67, .lload_n 2, 1), (68, .aload_n 0, 1), (69, .getfield 23, 3), (72, .iload 4, 2), (74, .iaload, 1), (75, .i2l, 1), (76, .lmul, 1), (77, .lsub, 1), (78, .lastore, 1), (79, .iinc 4 1, 3), (82, .goto (-50), 3), (85, .iinc 1 (-1), 3), (88, .goto (-81), 3), (91, .return_, 1)]
set_option maxRecDepth 100000 in
theorem kX4_reduce_ok : ∀ q ∈ kX4_reduce, decode cX4_reduce q.1 = .ok (q.2.1, q.2.2) := by decide +kernel
def kX4_findMovings : List (Nat × Instr × Nat) := [(0, .iconst 0, 1), (1, .istore_n 1, 1), (2, .iload_n 1, 1), (3, .aload_n 0, 1), (4, .getfield 26, 3), (7, .if_icmp .ge 16, 3), (10, .aload_n 0, 1), (11, .getfield 11, 3), (14, .iload_n 1, 1), (15, .iconst 1, 1), (16, .bastore, 1), (17, .iinc 1 1, 3), (20, .goto (-18), 3), (23, .iconst 2, 1), (24, .istore_n 1, 1), (25, .iload_n 1, 1), (26, .aload_n 0, 1), (27, .getfield 26, 3), (30, .if_icmp .gt 42, 3), (33, .iconst 0, 1), (34, .istore_n 2, 1), (35, .aload_n 0, 1), (36, .getfield 26, 3), (39, .iload_n 1, 1), (40, .irem, 1), (41, .ifCond .ne 25, 3), (44, .iload_n 2, 1), (45, .aload_n 0, 1), (46, .getfield 26, 3), (49, .if_icmp .ge 17, 3), (52, .aload_n 0, 1), (53, .getfield 11, 3), (56, .iload_n 2, 1), (57, .iconst 0, 1), (58, .bastore, 1), (59, .iload_n 2, 1), (60, .iload_n 1, 1), (61, .iadd, 1), (62, .istore_n 2, 1), (63, .goto (-28), 3), (66, .iinc 1 1, 3), (69, .goto (-44), 3), (72, .aload_n 0, 1), (73, .iconst 0, 1), (74, .putfield 48, 3), (77, .iconst 0, 1), (78, .istore_n 1, 1), (79, .iload_n 1, 1), (80, .aload_n 0, 1), (81, .getfield 26, 3), (84, .if_icmp .ge 28, 3), (87, .aload_n 0, 1), (88, .getfield 11, 3), (91, .iload_n 1, 1), (92, .baload, 1), (93, .ifCond .eq 13, 3), (96, .aload_n 0, 1), (97, .dup, 1), (98, .getfield 48, 3), (101, .iconst 1, 1), (102, .iadd, 1), (103, .putfield 48, 3), (106, .iinc 1 1, 3), (109, .goto (-30), 3), (112, .return_, 1)]
set_option maxRecDepth 100000 in
theorem kX4_findMovings_ok : ∀ q ∈ kX4_findMovings, decode cX4_findMovings q.1 = .ok (q.2.1, q.2.2) := by decide +kernel
def kX4_gatherCyclotomic : List (Nat × Instr × Nat) := [(0, .aload_n 0, 1), (1, .invokevirtual 51, 3), (4, .aload_n 0, 1), (5, .getfield 15, 3), (8, .iconst 0, 1), (9, .lconst 1, 1), (10, .lastore, 1), (11, .iconst 1, 1), (12, .istore_n 1, 1), (13, .iload_n 1, 1), (14, .aload_n 0, 1), (15, .getfield 26, 3), (18, .if_icmp .gt 111, 3), (21, .aload_n 0, 1), (22, .getfield 26, 3), (25, .iload_n 1, 1), (26, .irem, 1), (27, .ifCond .ne 15, 3), (30, .aload_n 0, 1), (31, .getfield 26, 3), (34, .iload_n 1, 1), (35, .idiv, 1), (36, .invokestatic 87, 3), (39, .goto 4, 3), (42, .iconst 0, 1), (43, .istore_n 2, 1), (44, .iload_n 2, 1), (45, .iconst 1, 1), (46, .if_icmp .ne 39, 3), (49, .aload_n 0, 1), (50, .getfield 48, 3), (53, .istore_n 3, 1), (54, .iload_n 3, 1), (55, .iload_n 1, 1), (56, .if_icmp .lt 26, 3), (59, .aload_n 0, 1), (60, .getfield 15, 3), (63, .iload_n 3, 1), (64, .dup2, 1), (65, .laload, 1), (66, .aload_n 0, 1), (67, .getfield 15, 3), (70, .iload_n 3, 1), (71, .iload_n 1, 1), (72, .isub, 1), (73, .laload, 1), (74, .lsub, 1), (75, .lastore, 1), (76, .iinc 3 (-1), 3), (79, .goto (-25), 3), (82, .goto 41, 3), (85, .iload_n 2, 1), (86, .iconst (-1), 1), (87, .if_icmp .ne 36, 3), (90, .iload_n 1, 1), (91, .istore_n 3, 1), (92, .iload_n 3, 1), (93, .aload_n 0, 1), (94, .getfield 48, 3), (97, .if_icmp .gt 26, 3), (100, .aload_n 0, 1), (101, .getfield 15, 3), (104, .iload_n 3, 1), (105, .dup2, 1), (106, .laload, 1), (107, .aload_n 0, 1), (108, .getfield 15, 3), (111, .iload_n 3, 1), (112, .iload_n 1, 1), (113, .isub, 1), (114, .laload, 1), (115, .ladd, 1), (116, .lastore, 1), (117, .iinc 3 1, 3), (120, .goto (-28), 3), (123, .iinc 1 1, 3), (126, .goto (-113), 3), (129, .return_, 1)]
set_option maxRecDepth 100000 in
theorem kX4_gatherCyclotomic_ok : ∀ q ∈ kX4_gatherCyclotomic, decode cX4_gatherCyclotomic q.1 = .ok (q.2.1, q.2.2) := by decide +kernel
def kX4_keepTerms : List (Nat × Instr × Nat) := [(0, .aload_n 0, 1), (1, .iconst 0, 1), (2, .putfield 84, 3), (5, .iconst 0, 1), (6, .istore_n 1, 1), (7, .iload_n 1, 1), (8, .aload_n 0, 1), (9, .getfield 48, 3), (12, .if_icmp .ge 56, 3), (15, .aload_n 0, 1), (16, .getfield 15, 3), (19, .iload_n 1, 1), (20, .laload, 1), (21, .lconst 0, 1), (22, .lcmp, 1), (23, .ifCond .eq 39, 3), (26, .aload_n 0, 1), (27, .getfield 19, 3), (30, .aload_n 0, 1), (31, .getfield 84, 3), (34, .iload_n 1, 1), (35, .iastore, 1), (36, .aload_n 0, 1), (37, .getfield 23, 3), (40, .aload_n 0, 1), (41, .getfield 84, 3), (44, .aload_n 0, 1), (45, .getfield 15, 3), (48, .iload_n 1, 1), (49, .laload, 1), (50, .l2i, 1), (51, .iastore, 1), (52, .aload_n 0, 1), (53, .dup, 1), (54, .getfield 84, 3), (57, .iconst 1, 1), (58, .iadd, 1), (59, .putfield 84, 3), (62, .iinc 1 1, 3), (65, .goto (-58), 3), (68, .return_, 1)]
set_option maxRecDepth 100000 in
theorem kX4_keepTerms_ok : ∀ q ∈ kX4_keepTerms, decode cX4_keepTerms q.1 = .ok (q.2.1, q.2.2) := by decide +kernel
def kX4_moebius : List (Nat × Instr × Nat) := [(0, .iconst 1, 1), (1, .istore_n 1, 1), (2, .iload_n 0, 1), (3, .istore_n 2, 1), (4, .iconst 2, 1), (5, .istore_n 3, 1), (6, .iload_n 3, 1), (7, .iload_n 0, 1), (8, .if_icmp .gt 30, 3), (11, .iload_n 2, 1), (12, .iload_n 3, 1), (13, .irem, 1), (14, .ifCond .ne 10, 3), (17, .iload_n 2, 1), (18, .iload_n 3, 1), (19, .idiv, 1), (20, .istore_n 2, 1), (21, .iload_n 1, 1), (22, .ineg, 1), (23, .istore_n 1, 1), (24, .iload_n 2, 1), (25, .iload_n 3, 1), (26, .irem, 1), (27, .ifCond .ne 5, 3), (30, .iconst 0, 1), (31, .ireturn, 1), (32, .iinc 3 1, 3), (35, .goto (-29), 3), (38, .iload_n 1, 1), (39, .ireturn, 1)]
set_option maxRecDepth 100000 in
theorem kX4_moebius_ok : ∀ q ∈ kX4_moebius, decode cX4_moebius q.1 = .ok (q.2.1, q.2.2) := by decide +kernel
def kX5_init : List (Nat × Instr × Nat) := [(0, .aload_n 0, 1), (1, .invokespecial 5, 3), (4, .aload_n 0, 1), (5, .sipush 2640, 3), (8, .newarray .byte, 2), (10, .putfield 13, 3), (13, .return_, 1)]
set_option maxRecDepth 100000 in
theorem kX5_init_ok : ∀ q ∈ kX5_init, decode cX5_init q.1 = .ok (q.2.1, q.2.2) := by decide +kernel
def kX5_write : List (Nat × Instr × Nat) := [(0, .aload_n 0, 1), (1, .iconst 0, 1), (2, .putfield 17, 3), (5, .iload_n 2, 1), (6, .iconst 1, 1), (7, .isub, 1), (8, .istore_n 3, 1), (9, .iload_n 3, 1), (10, .ifCond .lt 23, 3), (13, .aload_n 1, 1), (14, .iload_n 3, 1), (15, .iaload, 1), (16, .ifCond .eq 11, 3), (19, .aload_n 0, 1), (20, .aload_n 1, 1), (21, .iload_n 3, 1), (22, .iaload, 1), (23, .iload_n 3, 1), (24, .invokevirtual 21, 3), (27, .iinc 3 (-1), 3), (30, .goto (-21), 3), (33, .aload_n 0, 1), (34, .getfield 17, 3), (37, .ifCond .ne 9, 3), (40, .aload_n 0, 1), (41, .bipush 48, 2), (43, .invokevirtual 25, 3), (46, .aload_n 0, 1), (47, .getfield 17, 3), (50, .ireturn, 1)]
set_option maxRecDepth 100000 in
theorem kX5_write_ok : ∀ q ∈ kX5_write, decode cX5_write q.1 = .ok (q.2.1, q.2.2) := by decide +kernel
def kX5_byteAt : List (Nat × Instr × Nat) := [(0, .iload_n 1, 1), (1, .ifCond .lt 20, 3), (4, .iload_n 1, 1), (5, .aload_n 0, 1), (6, .getfield 17, 3), (9, .if_icmp .ge 12, 3), (12, .aload_n 0, 1), (13, .getfield 13, 3), (16, .iload_n 1, 1), (17, .baload, 1), (18, .goto 4, 3), (21, .iconst (-1), 1), (22, .ireturn, 1)]
set_option maxRecDepth 100000 in
theorem kX5_byteAt_ok : ∀ q ∈ kX5_byteAt, decode cX5_byteAt q.1 = .ok (q.2.1, q.2.2) := by decide +kernel
def kX5_putTerm : List (Nat × Instr × Nat) := [(0, .iload_n 1, 1), (1, .ifCond .ge 12, 3), (4, .aload_n 0, 1), (5, .bipush 45, 2), (7, .invokevirtual 25, 3), (10, .goto 16, 3), (13, .aload_n 0, 1), (14, .getfield 17, 3), (17, .ifCond .le 9, 3), (20, .aload_n 0, 1), (21, .bipush 43, 2), (23, .invokevirtual 25, 3), (26, .iload_n 1, 1), (27, .invokestatic 29, 3), (30, .istore_n 3, 1), (31, .iload_n 3, 1), (32, .iconst 1, 1), (33, .if_icmp .ne 7, 3), (36, .iload_n 2, 1), (37, .ifCond .ne 8, 3), (40, .aload_n 0, 1), (41, .iload_n 3, 1), (42, .invokevirtual 35, 3), (45, .iload_n 2, 1), (46, .ifCond .le 9, 3), (49, .aload_n 0, 1), (50, .bipush 122, 2), (52, .invokevirtual 25, 3), (55, .iload_n 2, 1), (56, .iconst 1, 1), (57, .if_icmp .le 8, 3), (60, .aload_n 0, 1), (61, .iload_n 2, 1), (62, .invokevirtual 35, 3), (65, .return_, 1)]
set_option maxRecDepth 100000 in
theorem kX5_putTerm_ok : ∀ q ∈ kX5_putTerm, decode cX5_putTerm q.1 = .ok (q.2.1, q.2.2) := by decide +kernel
def kX5_putNumber : List (Nat × Instr × Nat) := [(0, .ldc 38, 2), (2, .istore_n 2, 1), (3, .iload_n 2, 1), (4, .ifCond .le 29, 3), (7, .iload_n 1, 1), (8, .iload_n 2, 1), (9, .if_icmp .lt 16, 3), (12, .aload_n 0, 1), (13, .bipush 48, 2), (15, .iload_n 1, 1), (16, .iload_n 2, 1), (17, .idiv, 1), (18, .bipush 10, 2), (20, .irem, 1), (21, .iadd, 1), (22, .invokevirtual 25, 3), (25, .iload_n 2, 1), (26, .bipush 10, 2), (28, .idiv, 1), (29, .istore_n 2, 1), (30, .goto (-27), 3), (33, .return_, 1)]
set_option maxRecDepth 100000 in
theorem kX5_putNumber_ok : ∀ q ∈ kX5_putNumber, decode cX5_putNumber q.1 = .ok (q.2.1, q.2.2) := by decide +kernel
def kX5_put : List (Nat × Instr × Nat) := [(0, .aload_n 0, 1), (1, .getfield 17, 3), (4, .sipush 2640, 3), (7, .if_icmp .ge 24, 3), (10, .aload_n 0, 1), (11, .getfield 13, 3), (14, .aload_n 0, 1), (15, .getfield 17, 3), (18, .iload_n 1, 1), (19, .i2b, 1), (20, .bastore, 1), (21, .aload_n 0, 1), (22, .dup, 1), (23, .getfield 17, 3), (26, .iconst 1, 1), (27, .iadd, 1), (28, .putfield 17, 3), (31, .return_, 1)]
set_option maxRecDepth 100000 in
theorem kX5_put_ok : ∀ q ∈ kX5_put, decode cX5_put q.1 = .ok (q.2.1, q.2.2) := by decide +kernel
def kX6_init : List (Nat × Instr × Nat) := [(0, .aload_n 0, 1), (1, .invokespecial 3, 3), (4, .aload_n 0, 1), (5, .aload_n 1, 1), (6, .putfield 9, 3), (9, .aload_n 0, 1), (10, .aload_n 2, 1), (11, .putfield 15, 3), (14, .aload_n 0, 1), (15, .aload_n 3, 1), (16, .putfield 19, 3), (19, .return_, 1)]
set_option maxRecDepth 100000 in
theorem kX6_init_ok : ∀ q ∈ kX6_init, decode cX6_init q.1 = .ok (q.2.1, q.2.2) := by decide +kernel
def kX6_characterAt : List (Nat × Instr × Nat) := [(0, .iload_n 2, 1), (1, .ifCond .ne 13, 3), (4, .iload_n 1, 1), (5, .ifCond .ne 7, 3), (8, .iconst 0, 1), (9, .goto 4, 3), (12, .iconst (-1), 1), (13, .ireturn, 1), (14, .aload_n 0, 1), (15, .getfield 9, 3), (18, .getfield 23, 3), (21, .aload_n 0, 1), (22, .getfield 9, 3), (25, .iload_n 2, 1), (26, .invokevirtual 29, 3), (29, .imul, 1), (30, .iload_n 1, 1), (31, .imul, 1), (32, .aload_n 0, 1), (33, .getfield 15, 3), (36, .getfield 33, 3), (39, .irem, 1), (40, .ireturn, 1)]
set_option maxRecDepth 100000 in
theorem kX6_characterAt_ok : ∀ q ∈ kX6_characterAt, decode cX6_characterAt q.1 = .ok (q.2.1, q.2.2) := by decide +kernel
def kX6_gauss : List (Nat × Instr × Nat) := [(0, .aload_n 0, 1), (1, .getfield 15, 3), (4, .invokevirtual 38, 3), (7, .iconst 0, 1), (8, .istore_n 3, 1), (9, .iload_n 3, 1), (10, .aload_n 0, 1), (11, .getfield 9, 3), (14, .getfield 41, 3), (17, .if_icmp .ge 33, 3), (20, .aload_n 0, 1), (21, .iconst 1, 1), (22, .aload_n 0, 1), (23, .iload_n 1, 1), (24, .iload_n 3, 1), (25, .invokevirtual 44, 3), (28, .aload_n 0, 1), (29, .aload_n 0, 1), (30, .getfield 9, 3), (33, .iload_n 2, 1), (34, .iload_n 3, 1), (35, .invokevirtual 48, 3), (38, .invokevirtual 51, 3), (41, .invokevirtual 54, 3), (44, .iinc 3 1, 3), (47, .goto (-38), 3), (50, .return_, 1)]
set_option maxRecDepth 100000 in
theorem kX6_gauss_ok : ∀ q ∈ kX6_gauss, decode cX6_gauss q.1 = .ok (q.2.1, q.2.2) := by decide +kernel
def kX6_jacobi : List (Nat × Instr × Nat) := [(0, .aload_n 0, 1), (1, .getfield 15, 3), (4, .invokevirtual 38, 3), (7, .iconst 0, 1), (8, .istore 4, 2), (10, .iload 4, 2), (12, .aload_n 0, 1), (13, .getfield 9, 3), (16, .getfield 41, 3), (19, .if_icmp .ge 36, 3), (22, .aload_n 0, 1), (23, .iconst 1, 1), (24, .aload_n 0, 1), (25, .iload_n 1, 1), (26, .iload 4, 2), (28, .invokevirtual 44, 3), (31, .aload_n 0, 1), (32, .iload_n 2, 1), (33, .aload_n 0, 1), (34, .getfield 9, 3), (37, .iload_n 3, 1), (38, .iload 4, 2), (40, .invokevirtual 58, 3), (43, .invokevirtual 44, 3), (46, .invokevirtual 54, 3), (49, .iinc 4 1, 3), (52, .goto (-42), 3), (55, .return_, 1)]
set_option maxRecDepth 100000 in
theorem kX6_jacobi_ok : ∀ q ∈ kX6_jacobi, decode cX6_jacobi q.1 = .ok (q.2.1, q.2.2) := by decide +kernel
def kX6_kloosterman : List (Nat × Instr × Nat) := [(0, .aload_n 0, 1), (1, .getfield 15, 3), (4, .invokevirtual 38, 3), (7, .iconst 1, 1), (8, .istore_n 3, 1), (9, .iload_n 3, 1), (10, .aload_n 0, 1), (11, .getfield 9, 3), (14, .getfield 41, 3), (17, .if_icmp .ge 46, 3), (20, .aload_n 0, 1), (21, .getfield 15, 3), (24, .lconst 1, 1), (25, .aload_n 0, 1), (26, .aload_n 0, 1), (27, .getfield 9, 3), (30, .aload_n 0, 1), (31, .getfield 9, 3), (34, .iload_n 1, 1), (35, .iload_n 3, 1), (36, .invokevirtual 48, 3), (39, .aload_n 0, 1), (40, .getfield 9, 3), (43, .iload_n 2, 1), (44, .iload_n 3, 1), (45, .invokevirtual 61, 3), (48, .invokevirtual 64, 3), (51, .invokevirtual 51, 3), (54, .invokevirtual 67, 3), (57, .iinc 3 1, 3), (60, .goto (-51), 3), (63, .return_, 1)]
set_option maxRecDepth 100000 in
theorem kX6_kloosterman_ok : ∀ q ∈ kX6_kloosterman, decode cX6_kloosterman q.1 = .ok (q.2.1, q.2.2) := by decide +kernel
def kX6_period : List (Nat × Instr × Nat) := [(0, .aload_n 0, 1), (1, .getfield 15, 3), (4, .invokevirtual 38, 3), (7, .iconst 1, 1), (8, .istore_n 3, 1), (9, .iload_n 3, 1), (10, .aload_n 0, 1), (11, .getfield 9, 3), (14, .getfield 41, 3), (17, .if_icmp .ge 35, 3), (20, .aload_n 0, 1), (21, .getfield 9, 3), (24, .iload_n 3, 1), (25, .iload_n 1, 1), (26, .iload_n 2, 1), (27, .invokevirtual 71, 3), (30, .ifCond .eq 16, 3), (33, .aload_n 0, 1), (34, .getfield 15, 3), (37, .lconst 1, 1), (38, .aload_n 0, 1), (39, .iload_n 3, 1), (40, .invokevirtual 51, 3), (43, .invokevirtual 67, 3), (46, .iinc 3 1, 3), (49, .goto (-40), 3), (52, .return_, 1)]
set_option maxRecDepth 100000 in
theorem kX6_period_ok : ∀ q ∈ kX6_period, decode cX6_period q.1 = .ok (q.2.1, q.2.2) := by decide +kernel
def kX6_spectrum : List (Nat × Instr × Nat) := [(0, .aload_n 0, 1), (1, .getfield 15, 3), (4, .invokevirtual 38, 3), (7, .iconst 0, 1), (8, .istore_n 2, 1), (9, .iload_n 2, 1), (10, .aload_n 0, 1), (11, .getfield 9, 3), (14, .getfield 41, 3), (17, .if_icmp .ge 36, 3), (20, .aload_n 0, 1), (21, .getfield 15, 3), (24, .aload_n 0, 1), (25, .getfield 19, 3), (28, .iload_n 2, 1), (29, .iaload, 1), (30, .i2l, 1), (31, .aload_n 0, 1), (32, .aload_n 0, 1), (33, .getfield 9, 3), (36, .iload_n 1, 1), (37, .iload_n 2, 1), (38, .invokevirtual 48, 3), (41, .invokevirtual 51, 3), (44, .invokevirtual 67, 3), (47, .iinc 2 1, 3), (50, .goto (-41), 3), (53, .return_, 1)]
set_option maxRecDepth 100000 in
theorem kX6_spectrum_ok : ∀ q ∈ kX6_spectrum, decode cX6_spectrum q.1 = .ok (q.2.1, q.2.2) := by decide +kernel
def kX6_mellin : List (Nat × Instr × Nat) := [(0, .aload_n 0, 1), (1, .getfield 15, 3), (4, .invokevirtual 38, 3), (7, .iconst 0, 1), (8, .istore_n 2, 1), (9, .iload_n 2, 1), (10, .aload_n 0, 1), (11, .getfield 9, 3), (14, .getfield 41, 3), (17, .if_icmp .ge 26, 3), (20, .aload_n 0, 1), (21, .aload_n 0, 1), (22, .getfield 19, 3), (25, .iload_n 2, 1), (26, .iaload, 1), (27, .aload_n 0, 1), (28, .iload_n 1, 1), (29, .iload_n 2, 1), (30, .invokevirtual 44, 3), (33, .iconst 0, 1), (34, .invokevirtual 54, 3), (37, .iinc 2 1, 3), (40, .goto (-31), 3), (43, .return_, 1)]
set_option maxRecDepth 100000 in
theorem kX6_mellin_ok : ∀ q ∈ kX6_mellin, decode cX6_mellin q.1 = .ok (q.2.1, q.2.2) := by decide +kernel
def kX6_waveAt : List (Nat × Instr × Nat) := [(0, .aload_n 0, 1), (1, .getfield 9, 3), (4, .getfield 41, 3), (7, .iconst 1, 1), (8, .isub, 1), (9, .aload_n 0, 1), (10, .getfield 9, 3), (13, .iload_n 1, 1), (14, .invokevirtual 75, 3), (17, .imul, 1), (18, .ireturn, 1)]
set_option maxRecDepth 100000 in
theorem kX6_waveAt_ok : ∀ q ∈ kX6_waveAt, decode cX6_waveAt q.1 = .ok (q.2.1, q.2.2) := by decide +kernel
def kX6_addBoth : List (Nat × Instr × Nat) := [(0, .iload_n 2, 1), (1, .iconst (-1), 1), (2, .if_icmp .eq 20, 3), (5, .iload_n 3, 1), (6, .iconst (-1), 1), (7, .if_icmp .eq 15, 3), (10, .aload_n 0, 1), (11, .getfield 15, 3), (14, .iload_n 1, 1), (15, .i2l, 1), (16, .iload_n 2, 1), (17, .iload_n 3, 1), (18, .iadd, 1), (19, .invokevirtual 67, 3), (22, .return_, 1)]
set_option maxRecDepth 100000 in
theorem kX6_addBoth_ok : ∀ q ∈ kX6_addBoth, decode cX6_addBoth q.1 = .ok (q.2.1, q.2.2) := by decide +kernel
def kX7_init : List (Nat × Instr × Nat) := [(0, .aload_n 0, 1), (1, .invokespecial 3, 3), (4, .aload_n 0, 1), (5, .sipush 4096, 3), (8, .newarray .int, 2), (10, .putfield 11, 3), (13, .aload_n 0, 1), (14, .aload_n 1, 1), (15, .putfield 15, 3), (18, .return_, 1)]
set_option maxRecDepth 100000 in
theorem kX7_init_ok : ∀ q ∈ kX7_init, decode cX7_init q.1 = .ok (q.2.1, q.2.2) := by decide +kernel
def kX7_sizeOf : List (Nat × Instr × Nat) := [(0, .iload_n 1, 1), (1, .iconst 1, 1), (2, .if_icmp .ge 5, 3), (5, .iconst (-1), 1), (6, .ireturn, 1), (7, .iconst 1, 1), (8, .istore_n 2, 1), (9, .iconst 0, 1), (10, .istore_n 3, 1), (11, .iload_n 3, 1), (12, .iload_n 1, 1), (13, .if_icmp .ge 26, 3), (16, .iload_n 2, 1), (17, .sipush 4096, 3), (20, .if_icmp .gt 19, 3), (23, .iload_n 2, 1), (24, .aload_n 0, 1), (25, .getfield 15, 3), (28, .getfield 19, 3), (31, .imul, 1), (32, .istore_n 2, 1), (33, .iinc 3 1, 3), (36, .goto (-25), 3), (39, .iload_n 2, 1), (40, .sipush 4096, 3), (43, .if_icmp .gt 7, 3), (46, .iload_n 2, 1), (47, .goto 4, 3), (50, .iconst (-1), 1), (51, .ireturn, 1)]
set_option maxRecDepth 100000 in
theorem kX7_sizeOf_ok : ∀ q ∈ kX7_sizeOf, decode cX7_sizeOf q.1 = .ok (q.2.1, q.2.2) := by decide +kernel
def kX7_ways : List (Nat × Instr × Nat) := [(0, .aload_n 0, 1), (1, .iload_n 3, 1), (2, .putfield 25, 3), (5, .iload_n 1, 1), (6, .iconst 1, 1), (7, .if_icmp .eq 8, 3), (10, .iload_n 2, 1), (11, .iconst 1, 1), (12, .if_icmp .ne 8, 3), (15, .aload_n 0, 1), (16, .getfield 25, 3), (19, .ireturn, 1), (20, .aload_n 0, 1), (21, .invokevirtual 28, 3), (24, .iconst 0, 1), (25, .istore 4, 2), (27, .iconst 0, 1), (28, .istore 5, 2), (30, .iload 5, 2), (32, .aload_n 0, 1), (33, .getfield 25, 3), (36, .if_icmp .ge 33, 3), (39, .iload 4, 2), (41, .aload_n 0, 1), (42, .iload 5, 2), (44, .iload_n 1, 1), (45, .invokevirtual 31, 3), (48, .aload_n 0, 1), (49, .aload_n 0, 1), (50, .iload 5, 2), (52, .invokevirtual 35, 3), (55, .iload_n 2, 1), (56, .invokevirtual 31, 3), (59, .imul, 1), (60, .iadd, 1), (61, .istore 4, 2), (63, .iinc 5 1, 3), (66, .goto (-36), 3), (69, .iload 4, 2), (71, .ireturn, 1)]
set_option maxRecDepth 100000 in
theorem kX7_ways_ok : ∀ q ∈ kX7_ways, decode cX7_ways q.1 = .ok (q.2.1, q.2.2) := by decide +kernel
def kX7_roots : List (Nat × Instr × Nat) := [(0, .iload_n 1, 1), (1, .ifCond .ne 5, 3), (4, .iconst 1, 1), (5, .ireturn, 1), (6, .aload_n 0, 1), (7, .getfield 11, 3), (10, .iload_n 1, 1), (11, .iaload, 1), (12, .iload_n 2, 1), (13, .irem, 1), (14, .ifCond .ne 7, 3), (17, .iload_n 2, 1), (18, .goto 4, 3), (21, .iconst 0, 1), (22, .ireturn, 1)]
set_option maxRecDepth 100000 in
theorem kX7_roots_ok : ∀ q ∈ kX7_roots, decode cX7_roots q.1 = .ok (q.2.1, q.2.2) := by decide +kernel
def kX7_oneLess : List (Nat × Instr × Nat) := [(0, .aload_n 0, 1), (1, .getfield 15, 3), (4, .iconst 1, 1), (5, .iload_n 1, 1), (6, .aload_n 0, 1), (7, .getfield 15, 3), (10, .getfield 19, 3), (13, .irem, 1), (14, .invokevirtual 39, 3), (17, .istore_n 2, 1), (18, .aload_n 0, 1), (19, .getfield 15, 3), (22, .getfield 19, 3), (25, .istore_n 3, 1), (26, .iload_n 3, 1), (27, .aload_n 0, 1), (28, .getfield 25, 3), (31, .if_icmp .ge 40, 3), (34, .iload_n 2, 1), (35, .aload_n 0, 1), (36, .getfield 15, 3), (39, .iconst 0, 1), (40, .iload_n 1, 1), (41, .iload_n 3, 1), (42, .idiv, 1), (43, .aload_n 0, 1), (44, .getfield 15, 3), (47, .getfield 19, 3), (50, .irem, 1), (51, .invokevirtual 39, 3), (54, .iload_n 3, 1), (55, .imul, 1), (56, .iadd, 1), (57, .istore_n 2, 1), (58, .iload_n 3, 1), (59, .aload_n 0, 1), (60, .getfield 15, 3), (63, .getfield 19, 3), (66, .imul, 1), (67, .istore_n 3, 1), (68, .goto (-42), 3), (71, .iload_n 2, 1), (72, .ireturn, 1)]
set_option maxRecDepth 100000 in
theorem kX7_oneLess_ok : ∀ q ∈ kX7_oneLess, decode cX7_oneLess q.1 = .ok (q.2.1, q.2.2) := by decide +kernel
def kX7_fillLogs : List (Nat × Instr × Nat) := [(0, .aload_n 0, 1), (1, .getfield 42, 3), (4, .aload_n 0, 1), (5, .getfield 15, 3), (8, .getfield 19, 3), (11, .if_icmp .ne 15, 3), (14, .aload_n 0, 1), (15, .getfield 45, 3), (18, .aload_n 0, 1), (19, .getfield 25, 3), (22, .if_icmp .ne 4, 3), (25, .return_, 1), (26, .aload_n 0, 1), (27, .aload_n 0, 1), (28, .getfield 15, 3), (31, .getfield 19, 3), (34, .putfield 42, 3), (37, .aload_n 0, 1), (38, .aload_n 0, 1), (39, .getfield 25, 3), (42, .putfield 45, 3), (45, .iconst 1, 1), (46, .istore_n 1, 1), (47, .iload_n 1, 1), (48, .aload_n 0, 1), (49, .getfield 25, 3), (52, .if_icmp .ge 30, 3), (55, .iload_n 1, 1), (56, .aload_n 0, 1), (57, .getfield 15, 3), (60, .getfield 19, 3), (63, .irem, 1), (64, .ifCond .eq 12, 3), (67, .aload_n 0, 1), (68, .iload_n 1, 1), (69, .invokevirtual 48, 3), (72, .ifCond .eq 4, 3), (75, .return_, 1), (76, .iinc 1 1, 3), (79, .goto (-32), 3), (82, .return_, 1)]
set_option maxRecDepth 100000 in
theorem kX7_fillLogs_ok : ∀ q ∈ kX7_fillLogs, decode cX7_fillLogs q.1 = .ok (q.2.1, q.2.2) := by decide +kernel
def kX7_walkPowers : List (Nat × Instr × Nat) := [(0, .iconst 1, 1), (1, .istore_n 2, 1), (2, .iconst 0, 1), (3, .istore_n 3, 1), (4, .iload_n 3, 1), (5, .aload_n 0, 1), (6, .getfield 25, 3), (9, .iconst 1, 1), (10, .isub, 1), (11, .if_icmp .ge 44, 3), (14, .aload_n 0, 1), (15, .getfield 11, 3), (18, .iload_n 2, 1), (19, .iload_n 3, 1), (20, .iastore, 1), (21, .aload_n 0, 1), (22, .iload_n 2, 1), (23, .iload_n 1, 1), (24, .invokevirtual 52, 3), (27, .istore_n 2, 1), (28, .iload_n 2, 1), (29, .iconst 1, 1), (30, .if_icmp .ne 19, 3), (33, .iload_n 3, 1), (34, .aload_n 0, 1), (35, .getfield 25, 3), (38, .iconst 2, 1), (39, .isub, 1), (40, .if_icmp .ne 7, 3), (43, .iconst 1, 1), (44, .goto 4, 3), (47, .iconst 0, 1), (48, .ireturn, 1), (49, .iinc 3 1, 3), (52, .goto (-48), 3), (55, .iconst 0, 1), (56, .ireturn, 1)]
set_option maxRecDepth 100000 in
theorem kX7_walkPowers_ok : ∀ q ∈ kX7_walkPowers, decode cX7_walkPowers q.1 = .ok (q.2.1, q.2.2) := by decide +kernel
def kX7_timesT : List (Nat × Instr × Nat) := [(0, .aload_n 0, 1), (1, .getfield 25, 3), (4, .aload_n 0, 1), (5, .getfield 15, 3), (8, .getfield 19, 3), (11, .idiv, 1), (12, .istore_n 3, 1), (13, .iload_n 1, 1), (14, .iload_n 3, 1), (15, .idiv, 1), (16, .istore 4, 2), (18, .iload_n 1, 1), (19, .iload_n 3, 1), (20, .irem, 1), (21, .aload_n 0, 1), (22, .getfield 15, 3), (25, .getfield 19, 3), (28, .imul, 1), (29, .istore 5, 2), (31, .iconst 0, 1), (32, .istore 6, 2), (34, .iconst 1, 1), (35, .istore 7, 2), (37, .iload 7, 2), (39, .aload_n 0, 1), (40, .getfield 25, 3), (43, .if_icmp .ge 71, 3), (46, .aload_n 0, 1), (47, .getfield 15, 3), (50, .iload 4, 2), (52, .iload_n 2, 1), (53, .iload 7, 2), (55, .idiv, 1), (56, .aload_n 0, 1), (57, .getfield 15, 3), (60, .getfield 19, 3), (63, .irem, 1), (64, .invokevirtual 55, 3), (67, .istore 8, 2), (69, .iload 6, 2), (71, .aload_n 0, 1), (72, .getfield 15, 3), (75, .iload 5, 2), (77, .iload 7, 2), (79, .idiv, 1), (80, .aload_n 0, 1), (81, .getfield 15, 3), (84, .getfield 19, 3), (87, .irem, 1), (88, .iload 8, 2), (90, .invokevirtual 58, 3), (93, .iload 7, 2), (95, .imul, 1), (96, .iadd, 1), (97, .istore 6, 2), (99, .iload 7, 2), (101, .aload_n 0, 1), (102, .getfield 15, 3), (105, .getfield 19, 3), (108, .imul, 1), (109, .istore 7, 2), (111, .goto (-74), 3), (114, .iload 6, 2), (116, .ireturn, 1)]
set_option maxRecDepth 100000 in
theorem kX7_timesT_ok : ∀ q ∈ kX7_timesT, decode cX7_timesT q.1 = .ok (q.2.1, q.2.2) := by decide +kernel
def kX8_init : List (Nat × Instr × Nat) := [(0, .aload_n 0, 1), (1, .invokespecial 1, 3), (4, .aload_n 0, 1), (5, .bipush 16, 2), (7, .sipush 220, 3), (10, .multianewarray 11 2, 4), (14, .putfield 13, 3), (17, .aload_n 0, 1), (18, .aload_n 1, 1), (19, .putfield 16, 3), (22, .aload_n 0, 1), (23, .aload_n 2, 1), (24, .putfield 20, 3), (27, .aload_n 0, 1), (28, .aload_n 3, 1), (29, .putfield 24, 3), (32, .return_, 1)]
set_option maxRecDepth 100000 in
theorem kX8_init_ok : ∀ q ∈ kX8_init, decode cX8_init q.1 = .ok (q.2.1, q.2.2) := by decide +kernel
def kX8_run : List (Nat × Instr × Nat) := [(0, .aload_n 0, 1), (1, .iconst 0, 1), (2, .putfield 27, 3), (5, .iconst 0, 1), (6, .istore_n 2, 1), (7, .iload_n 2, 1), (8, .aload_n 1, 1), (9, .getfield 31, 3), (12, .if_icmp .ge 20, 3), (15, .aload_n 0, 1), (16, .aload_n 1, 1), (17, .iload_n 2, 1), (18, .invokevirtual 36, 3), (21, .ifCond .ne 5, 3), (24, .iconst 0, 1), (25, .ireturn, 1), (26, .iinc 2 1, 3), (29, .goto (-22), 3), (32, .aload_n 0, 1), (33, .getfield 27, 3), (36, .iconst 1, 1), (37, .if_icmp .ne 7, 3), (40, .iconst 1, 1), (41, .goto 4, 3), (44, .iconst 0, 1), (45, .ireturn, 1)]
set_option maxRecDepth 100000 in
theorem kX8_run_ok : ∀ q ∈ kX8_run, decode cX8_run q.1 = .ok (q.2.1, q.2.2) := by decide +kernel
def kX8_result : List (Nat × Instr × Nat) := [(0, .aload_n 0, 1), (1, .getfield 13, 3), (4, .iconst 0, 1), (5, .aaload, 1), (6, .areturn, 1)]
set_option maxRecDepth 100000 in
theorem kX8_result_ok : ∀ q ∈ kX8_result, decode cX8_result q.1 = .ok (q.2.1, q.2.2) := by decide +kernel
def kX8_work : List (Nat × Instr × Nat) := [(0, .aload_n 1, 1), (1, .getfield 40, 3), (4, .iload_n 2, 1), (5, .iaload, 1), (6, .istore_n 3, 1), (7, .aload_n 1, 1), (8, .getfield 44, 3), (11, .iload_n 2, 1), (12, .iaload, 1), (13, .tableswitch 73 7 12 #[39, 44, 50, 56, 62, 67], 39), (52, .aload_n 0, 1), (53, .invokevirtual 47, 3), (56, .ireturn, 1), (57, .aload_n 0, 1), (58, .iload_n 3, 1), (59, .invokevirtual 51, 3), (62, .ireturn, 1), (63, .aload_n 0, 1), (64, .iconst 1, 1), (65, .invokevirtual 55, 3), (68, .ireturn, 1), (69, .aload_n 0, 1), (70, .iconst (-1), 1), (71, .invokevirtual 55, 3), (74, .ireturn, 1), (75, .aload_n 0, 1), (76, .invokevirtual 58, 3), (79, .ireturn, 1), (80, .aload_n 0, 1), (81, .iload_n 3, 1), (82, .invokevirtual 61, 3), (85, .ireturn, 1), (86, .aload_n 0, 1), (87, .aload_n 1, 1), (88, .iload_n 2, 1), (89, .invokevirtual 64, 3), (92, .ireturn, 1)]
set_option maxRecDepth 100000 in
theorem kX8_work_ok : ∀ q ∈ kX8_work, decode cX8_work q.1 = .ok (q.2.1, q.2.2) := by decide +kernel
def kX8_push : List (Nat × Instr × Nat) := [(0, .aload_n 0, 1), (1, .getfield 27, 3), (4, .bipush 16, 2), (6, .if_icmp .lt 5, 3), (9, .iconst 0, 1), (10, .ireturn, 1), (11, .aload_n 1, 1), (12, .getfield 40, 3), (15, .iload_n 2, 1), (16, .iaload, 1), (17, .istore_n 3, 1), (18, .aload_n 1, 1), (19, .getfield 67, 3), (22, .iload_n 2, 1), (23, .iaload, 1), (24, .istore 4, 2), (26, .aload_n 1, 1), (27, .getfield 44, 3), (30, .iload_n 2, 1), (31, .iaload, 1), (32, .tableswitch 121 1 6 #[112, 40, 53, 72, 85, 98], 40), (72, .aload_n 0, 1), (73, .getfield 20, 3), (76, .iload_n 3, 1), (77, .iload 4, 2), (79, .invokevirtual 70, 3), (82, .goto 77, 3), (85, .aload_n 0, 1), (86, .getfield 20, 3), (89, .iload_n 3, 1), (90, .iload 4, 2), (92, .aload_n 1, 1), (93, .getfield 76, 3), (96, .iload_n 2, 1), (97, .iaload, 1), (98, .invokevirtual 79, 3), (101, .goto 58, 3), (104, .aload_n 0, 1), (105, .getfield 20, 3), (108, .iload_n 3, 1), (109, .iload 4, 2), (111, .invokevirtual 83, 3), (114, .goto 45, 3), (117, .aload_n 0, 1), (118, .getfield 20, 3), (121, .iload_n 3, 1), (122, .iload 4, 2), (124, .invokevirtual 86, 3), (127, .goto 32, 3), (130, .aload_n 0, 1), (131, .aload_n 0, 1), (132, .getfield 24, 3), (135, .iload_n 3, 1), (136, .aaload, 1), (137, .iconst 1, 1), (138, .invokevirtual 89, 3), (141, .goto 18, 3), (144, .aload_n 0, 1), (145, .iconst 1, 1), (146, .iload_n 3, 1), (147, .invokevirtual 93, 3), (150, .goto 9, 3), (153, .aload_n 0, 1), (154, .iload_n 3, 1), (155, .iconst 0, 1), (156, .invokevirtual 93, 3), (159, .aload_n 0, 1), (160, .dup, 1), (161, .getfield 27, 3), (164, .iconst 1, 1), (165, .iadd, 1), (166, .putfield 27, 3), (169, .aload_n 0, 1), (170, .getfield 16, 3), (173, .aload_n 0, 1), (174, .getfield 13, 3), (177, .aload_n 0, 1), (178, .getfield 27, 3), (181, .iconst 1, 1), (182, .isub, 1), (183, .aaload, 1), (184, .invokevirtual 96, 3), (187, .ireturn, 1)]
set_option maxRecDepth 100000 in
theorem kX8_push_ok : ∀ q ∈ kX8_push, decode cX8_push q.1 = .ok (q.2.1, q.2.2) := by decide +kernel
end
section
def kX8_gather : List (Nat × Instr × Nat) := [(0, .aload_n 0, 1), (1, .getfield 16, 3), (4, .invokevirtual 100, 3), (7, .aload_n 0, 1), (8, .getfield 16, 3), (11, .aload_n 1, 1), (12, .iload_n 2, 1), (13, .invokevirtual 103, 3), (16, .return_, 1)]
set_option maxRecDepth 100000 in
theorem kX8_gather_ok : ∀ q ∈ kX8_gather, decode cX8_gather q.1 = .ok (q.2.1, q.2.2) := by decide +kernel
def kX8_gatherRoot : List (Nat × Instr × Nat) := [(0, .aload_n 0, 1), (1, .getfield 16, 3), (4, .invokevirtual 100, 3), (7, .aload_n 0, 1), (8, .getfield 16, 3), (11, .iload_n 1, 1), (12, .i2l, 1), (13, .iload_n 2, 1), (14, .invokevirtual 106, 3), (17, .return_, 1)]
set_option maxRecDepth 100000 in
theorem kX8_gatherRoot_ok : ∀ q ∈ kX8_gatherRoot, decode cX8_gatherRoot q.1 = .ok (q.2.1, q.2.2) := by decide +kernel
def kX8_negate : List (Nat × Instr × Nat) := [(0, .aload_n 0, 1), (1, .getfield 27, 3), (4, .iconst 1, 1), (5, .if_icmp .ge 5, 3), (8, .iconst 0, 1), (9, .ireturn, 1), (10, .aload_n 0, 1), (11, .getfield 13, 3), (14, .aload_n 0, 1), (15, .getfield 27, 3), (18, .iconst 1, 1), (19, .isub, 1), (20, .aaload, 1), (21, .astore_n 1, 1), (22, .aload_n 0, 1), (23, .aload_n 1, 1), (24, .iconst (-1), 1), (25, .invokevirtual 89, 3), (28, .aload_n 0, 1), (29, .getfield 16, 3), (32, .aload_n 1, 1), (33, .invokevirtual 96, 3), (36, .ireturn, 1)]
set_option maxRecDepth 100000 in
theorem kX8_negate_ok : ∀ q ∈ kX8_negate, decode cX8_negate q.1 = .ok (q.2.1, q.2.2) := by decide +kernel
def kX8_move : List (Nat × Instr × Nat) := [(0, .aload_n 0, 1), (1, .getfield 27, 3), (4, .iconst 1, 1), (5, .if_icmp .ge 5, 3), (8, .iconst 0, 1), (9, .ireturn, 1), (10, .aload_n 0, 1), (11, .getfield 13, 3), (14, .aload_n 0, 1), (15, .getfield 27, 3), (18, .iconst 1, 1), (19, .isub, 1), (20, .aaload, 1), (21, .astore_n 2, 1), (22, .aload_n 0, 1), (23, .getfield 16, 3), (26, .aload_n 2, 1), (27, .iload_n 1, 1), (28, .invokevirtual 110, 3), (31, .aload_n 0, 1), (32, .getfield 16, 3), (35, .aload_n 2, 1), (36, .invokevirtual 96, 3), (39, .ireturn, 1)]
set_option maxRecDepth 100000 in
theorem kX8_move_ok : ∀ q ∈ kX8_move, decode cX8_move q.1 = .ok (q.2.1, q.2.2) := by decide +kernel
def kX8_join : List (Nat × Instr × Nat) := [(0, .aload_n 0, 1), (1, .getfield 27, 3), (4, .iconst 2, 1), (5, .if_icmp .ge 5, 3), (8, .iconst 0, 1), (9, .ireturn, 1), (10, .aload_n 0, 1), (11, .dup, 1), (12, .getfield 27, 3), (15, .iconst 1, 1), (16, .isub, 1), (17, .putfield 27, 3), (20, .aload_n 0, 1), (21, .aload_n 0, 1), (22, .getfield 13, 3), (25, .aload_n 0, 1), (26, .getfield 27, 3), (29, .iconst 1, 1), (30, .isub, 1), (31, .aaload, 1), (32, .iconst 1, 1), (33, .invokevirtual 89, 3), (36, .aload_n 0, 1), (37, .getfield 16, 3), (40, .aload_n 0, 1), (41, .getfield 13, 3), (44, .aload_n 0, 1), (45, .getfield 27, 3), (48, .aaload, 1), (49, .iload_n 1, 1), (50, .invokevirtual 103, 3), (53, .aload_n 0, 1), (54, .getfield 16, 3), (57, .aload_n 0, 1), (58, .getfield 13, 3), (61, .aload_n 0, 1), (62, .getfield 27, 3), (65, .iconst 1, 1), (66, .isub, 1), (67, .aaload, 1), (68, .invokevirtual 96, 3), (71, .ireturn, 1)]
set_option maxRecDepth 100000 in
theorem kX8_join_ok : ∀ q ∈ kX8_join, decode cX8_join q.1 = .ok (q.2.1, q.2.2) := by decide +kernel
def kX8_multiply : List (Nat × Instr × Nat) := [(0, .aload_n 0, 1), (1, .getfield 27, 3), (4, .iconst 2, 1), (5, .if_icmp .ge 5, 3), (8, .iconst 0, 1), (9, .ireturn, 1), (10, .aload_n 0, 1), (11, .dup, 1), (12, .getfield 27, 3), (15, .iconst 1, 1), (16, .isub, 1), (17, .putfield 27, 3), (20, .aload_n 0, 1), (21, .getfield 16, 3), (24, .aload_n 0, 1), (25, .getfield 13, 3), (28, .aload_n 0, 1), (29, .getfield 27, 3), (32, .iconst 1, 1), (33, .isub, 1), (34, .aaload, 1), (35, .aload_n 0, 1), (36, .getfield 13, 3), (39, .aload_n 0, 1), (40, .getfield 27, 3), (43, .aaload, 1), (44, .invokevirtual 112, 3), (47, .aload_n 0, 1), (48, .getfield 16, 3), (51, .aload_n 0, 1), (52, .getfield 13, 3), (55, .aload_n 0, 1), (56, .getfield 27, 3), (59, .iconst 1, 1), (60, .isub, 1), (61, .aaload, 1), (62, .invokevirtual 96, 3), (65, .ireturn, 1)]
set_option maxRecDepth 100000 in
theorem kX8_multiply_ok : ∀ q ∈ kX8_multiply, decode cX8_multiply q.1 = .ok (q.2.1, q.2.2) := by decide +kernel
def kX8_raise : List (Nat × Instr × Nat) := [(0, .aload_n 0, 1), (1, .getfield 27, 3), (4, .iconst 1, 1), (5, .if_icmp .lt 12, 3), (8, .aload_n 0, 1), (9, .getfield 27, 3), (12, .bipush 16, 2), (14, .if_icmp .lt 5, 3), (17, .iconst 0, 1), (18, .ireturn, 1), (19, .aload_n 0, 1), (20, .getfield 13, 3), (23, .aload_n 0, 1), (24, .getfield 27, 3), (27, .iconst 1, 1), (28, .isub, 1), (29, .aaload, 1), (30, .astore_n 2, 1), (31, .iload_n 1, 1), (32, .ifCond .ne 18, 3), (35, .aload_n 0, 1), (36, .iconst 1, 1), (37, .iconst 0, 1), (38, .invokevirtual 93, 3), (41, .aload_n 0, 1), (42, .getfield 16, 3), (45, .aload_n 2, 1), (46, .invokevirtual 96, 3), (49, .ireturn, 1), (50, .aload_n 0, 1), (51, .getfield 13, 3), (54, .aload_n 0, 1), (55, .getfield 27, 3), (58, .aaload, 1), (59, .astore_n 3, 1), (60, .aload_n 2, 1), (61, .iconst 0, 1), (62, .aload_n 3, 1), (63, .iconst 0, 1), (64, .aload_n 0, 1), (65, .getfield 16, 3), (68, .getfield 115, 3), (71, .invokestatic 118, 3), (74, .iconst 2, 1), (75, .istore 4, 2), (77, .iload 4, 2), (79, .iload_n 1, 1), (80, .if_icmp .gt 31, 3), (83, .aload_n 0, 1), (84, .getfield 16, 3), (87, .aload_n 2, 1), (88, .aload_n 3, 1), (89, .invokevirtual 112, 3), (92, .aload_n 0, 1), (93, .getfield 16, 3), (96, .aload_n 2, 1), (97, .invokevirtual 96, 3), (100, .ifCond .ne 5, 3), (103, .iconst 0, 1), (104, .ireturn, 1), (105, .iinc 4 1, 3), (108, .goto (-31), 3), (111, .iconst 1, 1), (112, .ireturn, 1)]
set_option maxRecDepth 100000 in
theorem kX8_raise_ok : ∀ q ∈ kX8_raise, decode cX8_raise q.1 = .ok (q.2.1, q.2.2) := by decide +kernel
def kX9_init : List (Nat × Instr × Nat) := [(0, .aload_n 0, 1), (1, .invokespecial 1, 3), (4, .aload_n 0, 1), (5, .new 7, 3), (8, .dup, 1), (9, .invokespecial 9, 3), (12, .putfield 10, 3), (15, .aload_n 0, 1), (16, .new 16, 3), (19, .dup, 1), (20, .invokespecial 18, 3), (23, .putfield 19, 3), (26, .aload_n 0, 1), (27, .bipush 8, 2), (29, .sipush 220, 3), (32, .multianewarray 23 2, 4), (36, .putfield 25, 3), (39, .aload_n 0, 1), (40, .bipush 27, 2), (42, .newarray .int, 2), (44, .putfield 28, 3), (47, .aload_n 0, 1), (48, .sipush 200, 3), (51, .newarray .int, 2), (53, .putfield 32, 3), (56, .aload_n 0, 1), (57, .new 35, 3), (60, .dup, 1), (61, .aload_n 0, 1), (62, .getfield 10, 3), (65, .aload_n 0, 1), (66, .getfield 19, 3), (69, .aload_n 0, 1), (70, .getfield 28, 3), (73, .invokespecial 37, 3), (76, .putfield 40, 3), (79, .aload_n 0, 1), (80, .new 44, 3), (83, .dup, 1), (84, .aload_n 0, 1), (85, .getfield 10, 3), (88, .invokespecial 46, 3), (91, .putfield 49, 3), (94, .aload_n 0, 1), (95, .new 53, 3), (98, .dup, 1), (99, .aload_n 0, 1), (100, .getfield 10, 3), (103, .invokespecial 55, 3), (106, .putfield 56, 3), (109, .aload_n 0, 1), (110, .new 60, 3), (113, .dup, 1), (114, .aload_n 0, 1), (115, .getfield 10, 3), (118, .aload_n 0, 1), (119, .getfield 19, 3), (122, .aload_n 0, 1), (123, .getfield 32, 3), (126, .invokespecial 62, 3), (129, .putfield 63, 3), (132, .aload_n 0, 1), (133, .new 67, 3), (136, .dup, 1), (137, .aload_n 0, 1), (138, .getfield 19, 3), (141, .aload_n 0, 1), (142, .getfield 40, 3), (145, .aload_n 0, 1), (146, .getfield 25, 3), (149, .invokespecial 69, 3), (152, .putfield 72, 3), (155, .aload_n 0, 1), (156, .new 76, 3), (159, .dup, 1), (160, .invokespecial 78, 3), (163, .putfield 79, 3), (166, .aload_n 0, 1), (167, .iconst (-1), 1), (168, .putfield 83, 3), (171, .aload_n 0, 1), (172, .iconst 2, 1), (173, .iconst 1, 1), (174, .iconst 2, 1), (175, .invokevirtual 87, 3), (178, .return_, 1)]
set_option maxRecDepth 100000 in
theorem kX9_init_ok : ∀ q ∈ kX9_init, decode cX9_init q.1 = .ok (q.2.1, q.2.2) := by decide +kernel
def kX9_field : List (Nat × Instr × Nat) := [(0, .iload_n 1, 1), (1, .iload_n 2, 1), (2, .invokestatic 91, 3), (5, .istore_n 3, 1), (6, .iload_n 3, 1), (7, .iconst (-1), 1), (8, .if_icmp .ne 5, 3), (11, .iconst (-1), 1), (12, .ireturn, 1), (13, .aload_n 0, 1), (14, .iload_n 1, 1), (15, .iload_n 2, 1), (16, .iload_n 3, 1), (17, .invokevirtual 87, 3), (20, .iload_n 3, 1), (21, .ireturn, 1)]
set_option maxRecDepth 100000 in
theorem kX9_field_ok : ∀ q ∈ kX9_field, decode cX9_field q.1 = .ok (q.2.1, q.2.2) := by decide +kernel
def kX9_feed : List (Nat × Instr × Nat) := [(0, .aload_n 0, 1), (1, .getfield 95, 3), (4, .bipush 20, 2), (6, .iadd, 1), (7, .sipush 200, 3), (10, .if_icmp .le 5, 3), (13, .iconst (-1), 1), (14, .ireturn, 1), (15, .aload_n 0, 1), (16, .iload_n 1, 1), (17, .invokevirtual 98, 3), (20, .aload_n 0, 1), (21, .iload_n 2, 1), (22, .invokevirtual 98, 3), (25, .aload_n 0, 1), (26, .iload_n 3, 1), (27, .invokevirtual 98, 3), (30, .aload_n 0, 1), (31, .iload 4, 2), (33, .invokevirtual 98, 3), (36, .aload_n 0, 1), (37, .iload 5, 2), (39, .invokevirtual 98, 3), (42, .aload_n 0, 1), (43, .getfield 95, 3), (46, .ireturn, 1)]
set_option maxRecDepth 100000 in
theorem kX9_feed_ok : ∀ q ∈ kX9_feed, decode cX9_feed q.1 = .ok (q.2.1, q.2.2) := by decide +kernel
def kX9_tell : List (Nat × Instr × Nat) := [(0, .aload_n 0, 1), (1, .iload_n 1, 1), (2, .invokevirtual 102, 3), (5, .ifCond .eq 15, 3), (8, .iload_n 2, 1), (9, .ifCond .lt 11, 3), (12, .iload_n 2, 1), (13, .aload_n 0, 1), (14, .getfield 95, 3), (17, .if_icmp .le 13, 3), (20, .new 106, 3), (23, .dup, 1), (24, .ldc 108, 2), (26, .invokespecial 110, 3), (29, .athrow, 1), (30, .aload_n 0, 1), (31, .iconst 0, 1), (32, .putfield 95, 3), (35, .aload_n 0, 1), (36, .getfield 63, 3), (39, .iload_n 2, 1), (40, .invokevirtual 113, 3), (43, .aload_n 0, 1), (44, .aload_n 0, 1), (45, .getfield 63, 3), (48, .getfield 116, 3), (51, .putfield 83, 3), (54, .aload_n 0, 1), (55, .getfield 63, 3), (58, .getfield 117, 3), (61, .ifCond .eq 14, 3), (64, .bipush (-10), 2), (66, .aload_n 0, 1), (67, .getfield 63, 3), (70, .getfield 117, 3), (73, .isub, 1), (74, .ireturn, 1), (75, .aload_n 0, 1), (76, .getfield 72, 3), (79, .aload_n 0, 1), (80, .getfield 63, 3), (83, .getfield 120, 3), (86, .invokevirtual 124, 3), (89, .ifCond .ne 6, 3), (92, .bipush (-2), 2), (94, .ireturn, 1), (95, .aload_n 0, 1), (96, .getfield 72, 3), (99, .invokevirtual 128, 3), (102, .iconst 0, 1), (103, .aload_n 0, 1), (104, .getfield 25, 3), (107, .iload_n 1, 1), (108, .aaload, 1), (109, .iconst 0, 1), (110, .aload_n 0, 1), (111, .getfield 19, 3), (114, .getfield 132, 3), (117, .invokestatic 135, 3), (120, .aload_n 0, 1), (121, .getfield 19, 3), (124, .aload_n 0, 1), (125, .getfield 25, 3), (128, .iload_n 1, 1), (129, .aaload, 1), (130, .invokevirtual 141, 3), (133, .ireturn, 1)]
set_option maxRecDepth 100000 in
theorem kX9_tell_ok : ∀ q ∈ kX9_tell, decode cX9_tell q.1 = .ok (q.2.1, q.2.2) := by decide +kernel
def kX9_fault : List (Nat × Instr × Nat) := [(0, .aload_n 0, 1), (1, .getfield 83, 3), (4, .ireturn, 1)]
set_option maxRecDepth 100000 in
theorem kX9_fault_ok : ∀ q ∈ kX9_fault, decode cX9_fault q.1 = .ok (q.2.1, q.2.2) := by decide +kernel
def kX9_count : List (Nat × Instr × Nat) := [(0, .iload_n 1, 1), (1, .tableswitch 108 0 7 #[47, 55, 63, 71, 79, 87, 95, 103], 47), (48, .aload_n 0, 1), (49, .getfield 10, 3), (52, .getfield 145, 3), (55, .ireturn, 1), (56, .aload_n 0, 1), (57, .getfield 10, 3), (60, .getfield 148, 3), (63, .ireturn, 1), (64, .aload_n 0, 1), (65, .getfield 10, 3), (68, .getfield 151, 3), (71, .ireturn, 1), (72, .aload_n 0, 1), (73, .getfield 19, 3), (76, .getfield 154, 3), (79, .ireturn, 1), (80, .aload_n 0, 1), (81, .getfield 19, 3), (84, .getfield 132, 3), (87, .ireturn, 1), (88, .aload_n 0, 1), (89, .getfield 10, 3), (92, .getfield 157, 3), (95, .ireturn, 1), (96, .aload_n 0, 1), (97, .getfield 10, 3), (100, .getfield 160, 3), (103, .ireturn, 1), (104, .aload_n 0, 1), (105, .getfield 95, 3), (108, .ireturn, 1), (109, .new 163, 3), (112, .dup, 1), (113, .ldc 165, 2), (115, .invokespecial 167, 3), (118, .athrow, 1)]
set_option maxRecDepth 100000 in
theorem kX9_count_ok : ∀ q ∈ kX9_count, decode cX9_count q.1 = .ok (q.2.1, q.2.2) := by decide +kernel
def kX9_element : List (Nat × Instr × Nat) := [(0, .aload_n 0, 1), (1, .iload_n 2, 1), (2, .invokevirtual 168, 3), (5, .aload_n 0, 1), (6, .iload_n 3, 1), (7, .invokevirtual 168, 3), (10, .iload_n 1, 1), (11, .ifCond .ne 13, 3), (14, .aload_n 0, 1), (15, .getfield 10, 3), (18, .iload_n 2, 1), (19, .iload_n 3, 1), (20, .invokevirtual 171, 3), (23, .ireturn, 1), (24, .iload_n 1, 1), (25, .iconst 1, 1), (26, .if_icmp .ne 13, 3), (29, .aload_n 0, 1), (30, .getfield 10, 3), (33, .iload_n 2, 1), (34, .iload_n 3, 1), (35, .invokevirtual 174, 3), (38, .ireturn, 1), (39, .iload_n 1, 1), (40, .iconst 2, 1), (41, .if_icmp .ne 13, 3), (44, .aload_n 0, 1), (45, .getfield 10, 3), (48, .iload_n 2, 1), (49, .iload_n 3, 1), (50, .invokevirtual 177, 3), (53, .ireturn, 1), (54, .iload_n 1, 1), (55, .iconst 3, 1), (56, .if_icmp .ne 17, 3), (59, .iload_n 3, 1), (60, .ifCond .eq 13, 3), (63, .aload_n 0, 1), (64, .getfield 10, 3), (67, .iload_n 2, 1), (68, .iload_n 3, 1), (69, .invokevirtual 180, 3), (72, .ireturn, 1), (73, .new 163, 3), (76, .dup, 1), (77, .ldc 183, 2), (79, .invokespecial 167, 3), (82, .athrow, 1)]
set_option maxRecDepth 100000 in
theorem kX9_element_ok : ∀ q ∈ kX9_element, decode cX9_element q.1 = .ok (q.2.1, q.2.2) := by decide +kernel
def kX9_log : List (Nat × Instr × Nat) := [(0, .aload_n 0, 1), (1, .iload_n 1, 1), (2, .invokevirtual 168, 3), (5, .iload_n 1, 1), (6, .ifCond .ne 13, 3), (9, .new 163, 3), (12, .dup, 1), (13, .ldc 185, 2), (15, .invokespecial 167, 3), (18, .athrow, 1), (19, .aload_n 0, 1), (20, .getfield 10, 3), (23, .iload_n 1, 1), (24, .invokevirtual 187, 3), (27, .ireturn, 1)]
set_option maxRecDepth 100000 in
theorem kX9_log_ok : ∀ q ∈ kX9_log, decode cX9_log q.1 = .ok (q.2.1, q.2.2) := by decide +kernel
def kX9_trace : List (Nat × Instr × Nat) := [(0, .aload_n 0, 1), (1, .iload_n 1, 1), (2, .invokevirtual 168, 3), (5, .aload_n 0, 1), (6, .getfield 10, 3), (9, .iload_n 1, 1), (10, .invokevirtual 191, 3), (13, .ireturn, 1)]
set_option maxRecDepth 100000 in
theorem kX9_trace_ok : ∀ q ∈ kX9_trace, decode cX9_trace q.1 = .ok (q.2.1, q.2.2) := by decide +kernel
def kX9_character : List (Nat × Instr × Nat) := [(0, .aload_n 0, 1), (1, .iload_n 1, 1), (2, .invokevirtual 194, 3), (5, .aload_n 0, 1), (6, .iload_n 2, 1), (7, .invokevirtual 168, 3), (10, .aload_n 0, 1), (11, .getfield 40, 3), (14, .iload_n 1, 1), (15, .iload_n 2, 1), (16, .invokevirtual 197, 3), (19, .ireturn, 1)]
set_option maxRecDepth 100000 in
theorem kX9_character_ok : ∀ q ∈ kX9_character, decode cX9_character q.1 = .ok (q.2.1, q.2.2) := by decide +kernel
def kX9_order : List (Nat × Instr × Nat) := [(0, .aload_n 0, 1), (1, .iload_n 1, 1), (2, .invokevirtual 194, 3), (5, .aload_n 0, 1), (6, .getfield 10, 3), (9, .getfield 151, 3), (12, .iconst 1, 1), (13, .isub, 1), (14, .istore_n 2, 1), (15, .iconst 1, 1), (16, .istore_n 3, 1), (17, .iload_n 3, 1), (18, .iload_n 2, 1), (19, .if_icmp .ge 19, 3), (22, .iload_n 3, 1), (23, .iload_n 1, 1), (24, .imul, 1), (25, .iload_n 2, 1), (26, .irem, 1), (27, .ifCond .ne 5, 3), (30, .iload_n 3, 1), (31, .ireturn, 1), (32, .iinc 3 1, 3), (35, .goto (-18), 3), (38, .iload_n 2, 1), (39, .ireturn, 1)]
set_option maxRecDepth 100000 in
theorem kX9_order_ok : ∀ q ∈ kX9_order, decode cX9_order q.1 = .ok (q.2.1, q.2.2) := by decide +kernel
def kX9_coefficient : List (Nat × Instr × Nat) := [(0, .aload_n 0, 1), (1, .iload_n 1, 1), (2, .invokevirtual 200, 3), (5, .iload_n 2, 1), (6, .ifCond .lt 14, 3), (9, .iload_n 2, 1), (10, .aload_n 0, 1), (11, .getfield 19, 3), (14, .getfield 132, 3), (17, .if_icmp .lt 13, 3), (20, .new 163, 3), (23, .dup, 1), (24, .ldc 203, 2), (26, .invokespecial 167, 3), (29, .athrow, 1), (30, .aload_n 0, 1), (31, .getfield 25, 3), (34, .iload_n 1, 1), (35, .aaload, 1), (36, .iload_n 2, 1), (37, .iaload, 1), (38, .ireturn, 1)]
set_option maxRecDepth 100000 in
theorem kX9_coefficient_ok : ∀ q ∈ kX9_coefficient, decode cX9_coefficient q.1 = .ok (q.2.1, q.2.2) := by decide +kernel
def kX9_of : List (Nat × Instr × Nat) := [(0, .aload_n 0, 1), (1, .iload_n 1, 1), (2, .invokevirtual 200, 3), (5, .aload_n 0, 1), (6, .getfield 25, 3), (9, .iload_n 1, 1), (10, .aaload, 1), (11, .astore_n 3, 1), (12, .iload_n 2, 1), (13, .tableswitch 121 0 5 #[39, 49, 66, 92, 102, 111], 39), (52, .aload_n 0, 1), (53, .getfield 19, 3), (56, .aload_n 3, 1), (57, .invokevirtual 141, 3), (60, .i2l, 1), (61, .lreturn, 1), (62, .aload_n 0, 1), (63, .getfield 19, 3), (66, .aload_n 3, 1), (67, .invokevirtual 205, 3), (70, .ifCond .eq 7, 3), (73, .lconst 1, 1), (74, .goto 4, 3), (77, .lconst 0, 1), (78, .lreturn, 1), (79, .aload_n 0, 1), (80, .getfield 19, 3), (83, .aload_n 3, 1), (84, .aload_n 0, 1), (85, .getfield 19, 3), (88, .getfield 154, 3), (91, .iconst 1, 1), (92, .isub, 1), (93, .invokevirtual 209, 3), (96, .ifCond .eq 7, 3), (99, .lconst 1, 1), (100, .goto 4, 3), (103, .lconst 0, 1), (104, .lreturn, 1), (105, .aload_n 0, 1), (106, .getfield 19, 3), (109, .aload_n 3, 1), (110, .invokevirtual 213, 3), (113, .i2l, 1), (114, .lreturn, 1), (115, .aload_n 0, 1), (116, .getfield 19, 3), (119, .aload_n 3, 1), (120, .invokevirtual 216, 3), (123, .lreturn, 1), (124, .aload_n 0, 1), (125, .getfield 19, 3), (128, .aload_n 3, 1), (129, .invokevirtual 220, 3), (132, .i2l, 1), (133, .lreturn, 1), (134, .new 163, 3), (137, .dup, 1), (138, .ldc 223, 2), (140, .invokespecial 167, 3), (143, .athrow, 1)]
set_option maxRecDepth 100000 in
theorem kX9_of_ok : ∀ q ∈ kX9_of, decode cX9_of q.1 = .ok (q.2.1, q.2.2) := by decide +kernel
def kX9_same : List (Nat × Instr × Nat) := [(0, .aload_n 0, 1), (1, .iload_n 1, 1), (2, .invokevirtual 200, 3), (5, .aload_n 0, 1), (6, .iload_n 2, 1), (7, .invokevirtual 200, 3), (10, .aload_n 0, 1), (11, .getfield 19, 3), (14, .aload_n 0, 1), (15, .getfield 25, 3), (18, .iload_n 1, 1), (19, .aaload, 1), (20, .aload_n 0, 1), (21, .getfield 25, 3), (24, .iload_n 2, 1), (25, .aaload, 1), (26, .invokevirtual 225, 3), (29, .ireturn, 1)]
set_option maxRecDepth 100000 in
theorem kX9_same_ok : ∀ q ∈ kX9_same, decode cX9_same q.1 = .ok (q.2.1, q.2.2) := by decide +kernel
def kX9_make : List (Nat × Instr × Nat) := [(0, .aload_n 0, 1), (1, .iload_n 1, 1), (2, .invokevirtual 102, 3), (5, .ifCond .eq 16, 3), (8, .aload_n 0, 1), (9, .iload_n 2, 1), (10, .iload_n 3, 1), (11, .iload 4, 2), (13, .iload 5, 2), (15, .invokevirtual 229, 3), (18, .ifCond .ne 5, 3), (21, .iconst (-1), 1), (22, .ireturn, 1), (23, .iload_n 2, 1), (24, .tableswitch 138 0 6 #[44, 57, 72, 85, 98, 116, 127], 44), (68, .aload_n 0, 1), (69, .getfield 40, 3), (72, .iload_n 3, 1), (73, .iload 4, 2), (75, .invokevirtual 233, 3), (78, .goto 92, 3), (81, .aload_n 0, 1), (82, .getfield 40, 3), (85, .iload_n 3, 1), (86, .iload 4, 2), (88, .iload 5, 2), (90, .invokevirtual 237, 3), (93, .goto 77, 3), (96, .aload_n 0, 1), (97, .getfield 40, 3), (100, .iload_n 3, 1), (101, .iload 4, 2), (103, .invokevirtual 240, 3), (106, .goto 64, 3), (109, .aload_n 0, 1), (110, .getfield 40, 3), (113, .iload_n 3, 1), (114, .iload 4, 2), (116, .invokevirtual 243, 3), (119, .goto 51, 3), (122, .aload_n 0, 1), (123, .getfield 19, 3), (126, .aload_n 0, 1), (127, .getfield 25, 3), (130, .iload_n 3, 1), (131, .aaload, 1), (132, .iload 4, 2), (134, .invokevirtual 246, 3), (137, .goto 33, 3), (140, .aload_n 0, 1), (141, .getfield 40, 3), (144, .iload_n 3, 1), (145, .invokevirtual 250, 3), (148, .goto 22, 3), (151, .aload_n 0, 1), (152, .getfield 40, 3), (155, .iload_n 3, 1), (156, .invokevirtual 253, 3), (159, .goto 11, 3), (162, .aload_n 0, 1), (163, .getfield 19, 3), (166, .iload_n 3, 1), (167, .invokevirtual 256, 3), (170, .aload_n 0, 1), (171, .getfield 19, 3), (174, .aload_n 0, 1), (175, .getfield 25, 3), (178, .iload_n 1, 1), (179, .aaload, 1), (180, .invokevirtual 259, 3), (183, .ifCond .eq 19, 3), (186, .aload_n 0, 1), (187, .getfield 19, 3), (190, .aload_n 0, 1), (191, .getfield 25, 3), (194, .iload_n 1, 1), (195, .aaload, 1), (196, .invokevirtual 141, 3), (199, .goto 5, 3), (202, .bipush (-2), 2), (204, .ireturn, 1)]
set_option maxRecDepth 100000 in
theorem kX9_make_ok : ∀ q ∈ kX9_make, decode cX9_make q.1 = .ok (q.2.1, q.2.2) := by decide +kernel
def kX9_divide : List (Nat × Instr × Nat) := [(0, .aload_n 0, 1), (1, .iload_n 1, 1), (2, .invokevirtual 102, 3), (5, .ifCond .eq 15, 3), (8, .aload_n 0, 1), (9, .iload_n 2, 1), (10, .invokevirtual 102, 3), (13, .ifCond .eq 7, 3), (16, .iload_n 3, 1), (17, .ifCond .ne 5, 3), (20, .iconst (-1), 1), (21, .ireturn, 1), (22, .aload_n 0, 1), (23, .getfield 25, 3), (26, .iload_n 2, 1), (27, .aaload, 1), (28, .astore 4, 2), (30, .iconst 0, 1), (31, .istore 5, 2), (33, .iload 5, 2), (35, .aload_n 0, 1), (36, .getfield 19, 3), (39, .getfield 132, 3), (42, .if_icmp .ge 21, 3), (45, .aload 4, 2), (47, .iload 5, 2), (49, .iaload, 1), (50, .iload_n 3, 1), (51, .irem, 1), (52, .ifCond .eq 5, 3), (55, .iconst (-1), 1), (56, .ireturn, 1), (57, .iinc 5 1, 3), (60, .goto (-27), 3), (63, .aload_n 0, 1), (64, .getfield 25, 3), (67, .iload_n 1, 1), (68, .aaload, 1), (69, .astore 5, 2), (71, .iconst 0, 1), (72, .istore 6, 2), (74, .iload 6, 2), (76, .aload_n 0, 1), (77, .getfield 19, 3), (80, .getfield 132, 3), (83, .if_icmp .ge 21, 3), (86, .aload 5, 2), (88, .iload 6, 2), (90, .aload 4, 2), (92, .iload 6, 2), (94, .iaload, 1), (95, .iload_n 3, 1), (96, .idiv, 1), (97, .iastore, 1), (98, .iinc 6 1, 3), (101, .goto (-27), 3), (104, .aload_n 0, 1), (105, .getfield 19, 3), (108, .aload 5, 2), (110, .invokevirtual 141, 3), (113, .ireturn, 1)]
set_option maxRecDepth 100000 in
theorem kX9_divide_ok : ∀ q ∈ kX9_divide, decode cX9_divide q.1 = .ok (q.2.1, q.2.2) := by decide +kernel
def kX9_solutions : List (Nat × Instr × Nat) := [(0, .aload_n 0, 1), (1, .iload_n 1, 1), (2, .invokevirtual 168, 3), (5, .aload_n 0, 1), (6, .iload_n 3, 1), (7, .invokevirtual 168, 3), (10, .aload_n 0, 1), (11, .iload 5, 2), (13, .invokevirtual 168, 3), (16, .aload_n 0, 1), (17, .iload_n 2, 1), (18, .invokevirtual 262, 3), (21, .aload_n 0, 1), (22, .iload 4, 2), (24, .invokevirtual 262, 3), (27, .aload_n 0, 1), (28, .getfield 49, 3), (31, .invokevirtual 265, 3), (34, .aload_n 0, 1), (35, .getfield 49, 3), (38, .iload_n 1, 1), (39, .iload_n 2, 1), (40, .invokevirtual 268, 3), (43, .aload_n 0, 1), (44, .getfield 49, 3), (47, .iload_n 3, 1), (48, .iload 4, 2), (50, .invokevirtual 268, 3), (53, .aload_n 0, 1), (54, .getfield 49, 3), (57, .iload 5, 2), (59, .invokevirtual 271, 3), (62, .ireturn, 1)]
set_option maxRecDepth 100000 in
theorem kX9_solutions_ok : ∀ q ∈ kX9_solutions, decode cX9_solutions q.1 = .ok (q.2.1, q.2.2) := by decide +kernel
def kX9_points : List (Nat × Instr × Nat) := [(0, .aload_n 0, 1), (1, .iload 4, 2), (3, .invokevirtual 168, 3), (6, .aload_n 0, 1), (7, .iload_n 1, 1), (8, .invokevirtual 262, 3), (11, .aload_n 0, 1), (12, .iload_n 2, 1), (13, .invokevirtual 262, 3), (16, .aload_n 0, 1), (17, .iload_n 3, 1), (18, .invokevirtual 262, 3), (21, .aload_n 0, 1), (22, .getfield 49, 3), (25, .invokevirtual 265, 3), (28, .aload_n 0, 1), (29, .getfield 49, 3), (32, .iconst 1, 1), (33, .iload_n 1, 1), (34, .invokevirtual 268, 3), (37, .aload_n 0, 1), (38, .getfield 49, 3), (41, .iconst 1, 1), (42, .iload_n 2, 1), (43, .invokevirtual 268, 3), (46, .aload_n 0, 1), (47, .getfield 49, 3), (50, .iconst 1, 1), (51, .iload_n 3, 1), (52, .invokevirtual 268, 3), (55, .aload_n 0, 1), (56, .getfield 49, 3), (59, .iload 4, 2), (61, .invokevirtual 271, 3), (64, .ireturn, 1)]
set_option maxRecDepth 100000 in
theorem kX9_points_ok : ∀ q ∈ kX9_points, decode cX9_points q.1 = .ok (q.2.1, q.2.2) := by decide +kernel
def kX9_rows : List (Nat × Instr × Nat) := [(0, .aload_n 0, 1), (1, .iload_n 3, 1), (2, .invokevirtual 168, 3), (5, .aload_n 0, 1), (6, .iload_n 2, 1), (7, .invokevirtual 262, 3), (10, .iload_n 1, 1), (11, .iconst 1, 1), (12, .if_icmp .lt 9, 3), (15, .iload_n 1, 1), (16, .bipush 6, 2), (18, .if_icmp .le 14, 3), (21, .new 106, 3), (24, .dup, 1), (25, .ldc_w 274, 3), (28, .invokespecial 110, 3), (31, .athrow, 1), (32, .aload_n 0, 1), (33, .getfield 49, 3), (36, .invokevirtual 265, 3), (39, .iconst 0, 1), (40, .istore 4, 2), (42, .iload 4, 2), (44, .iload_n 1, 1), (45, .if_icmp .ge 18, 3), (48, .aload_n 0, 1), (49, .getfield 49, 3), (52, .iconst 1, 1), (53, .iload_n 2, 1), (54, .invokevirtual 268, 3), (57, .iinc 4 1, 3), (60, .goto (-18), 3), (63, .aload_n 0, 1), (64, .getfield 49, 3), (67, .iload_n 3, 1), (68, .invokevirtual 271, 3), (71, .ireturn, 1)]
set_option maxRecDepth 100000 in
theorem kX9_rows_ok : ∀ q ∈ kX9_rows, decode cX9_rows q.1 = .ok (q.2.1, q.2.2) := by decide +kernel
def kX9_lifted : List (Nat × Instr × Nat) := [(0, .aload_n 0, 1), (1, .getfield 56, 3), (4, .iload_n 3, 1), (5, .invokevirtual 276, 3), (8, .istore 4, 2), (10, .iload 4, 2), (12, .iconst (-1), 1), (13, .if_icmp .eq 25, 3), (16, .aload_n 0, 1), (17, .getfield 10, 3), (20, .iload_n 1, 1), (21, .invokevirtual 278, 3), (24, .ifCond .eq 14, 3), (27, .aload_n 0, 1), (28, .getfield 10, 3), (31, .iload_n 2, 1), (32, .invokevirtual 278, 3), (35, .ifCond .ne 14, 3), (38, .new 106, 3), (41, .dup, 1), (42, .ldc_w 281, 3), (45, .invokespecial 110, 3), (48, .athrow, 1), (49, .aload_n 0, 1), (50, .getfield 56, 3), (53, .iload_n 1, 1), (54, .iload_n 2, 1), (55, .iload 4, 2), (57, .invokevirtual 283, 3), (60, .ireturn, 1)]
set_option maxRecDepth 100000 in
theorem kX9_lifted_ok : ∀ q ∈ kX9_lifted, decode cX9_lifted q.1 = .ok (q.2.1, q.2.2) := by decide +kernel
def kX9_curve : List (Nat × Instr × Nat) := [(0, .aload_n 0, 1), (1, .iload_n 1, 1), (2, .invokevirtual 168, 3), (5, .aload_n 0, 1), (6, .iload_n 2, 1), (7, .invokevirtual 168, 3), (10, .aload_n 0, 1), (11, .getfield 49, 3), (14, .iload_n 1, 1), (15, .iload_n 2, 1), (16, .invokevirtual 287, 3), (19, .ireturn, 1)]
set_option maxRecDepth 100000 in
theorem kX9_curve_ok : ∀ q ∈ kX9_curve, decode cX9_curve q.1 = .ok (q.2.1, q.2.2) := by decide +kernel
def kX9_least : List (Nat × Instr × Nat) := [(0, .aload_n 0, 1), (1, .iload_n 1, 1), (2, .invokevirtual 168, 3), (5, .iload_n 2, 1), (6, .iconst (-1), 1), (7, .if_icmp .ne 12, 3), (10, .aload_n 0, 1), (11, .getfield 10, 3), (14, .iload_n 1, 1), (15, .invokevirtual 290, 3), (18, .ireturn, 1), (19, .aload_n 0, 1), (20, .getfield 10, 3), (23, .iload_n 1, 1), (24, .invokevirtual 293, 3), (27, .istore_n 3, 1), (28, .iload_n 2, 1), (29, .bipush (-2), 2), (31, .if_icmp .ne 5, 3), (34, .iload_n 3, 1), (35, .ireturn, 1), (36, .iload_n 2, 1), (37, .ifCond .lt 8, 3), (40, .iload_n 2, 1), (41, .iload_n 3, 1), (42, .if_icmp .le 14, 3), (45, .new 163, 3), (48, .dup, 1), (49, .ldc_w 296, 3), (52, .invokespecial 167, 3), (55, .athrow, 1), (56, .aload_n 0, 1), (57, .getfield 10, 3), (60, .iload_n 2, 1), (61, .invokevirtual 298, 3), (64, .ireturn, 1)]
set_option maxRecDepth 100000 in
theorem kX9_least_ok : ∀ q ∈ kX9_least, decode cX9_least q.1 = .ok (q.2.1, q.2.2) := by decide +kernel
def kX9_let : List (Nat × Instr × Nat) := [(0, .aload_n 0, 1), (1, .iload_n 1, 1), (2, .invokevirtual 168, 3), (5, .iload_n 2, 1), (6, .bipush (-99), 2), (8, .if_icmp .lt 9, 3), (11, .iload_n 2, 1), (12, .bipush 99, 2), (14, .if_icmp .le 14, 3), (17, .new 106, 3), (20, .dup, 1), (21, .ldc_w 301, 3), (24, .invokespecial 110, 3), (27, .athrow, 1), (28, .aload_n 0, 1), (29, .getfield 28, 3), (32, .iload_n 1, 1), (33, .iaload, 1), (34, .istore_n 3, 1), (35, .aload_n 0, 1), (36, .getfield 28, 3), (39, .iload_n 1, 1), (40, .iload_n 2, 1), (41, .iastore, 1), (42, .iload_n 3, 1), (43, .ireturn, 1)]
set_option maxRecDepth 100000 in
theorem kX9_let_ok : ∀ q ∈ kX9_let, decode cX9_let q.1 = .ok (q.2.1, q.2.2) := by decide +kernel
def kX9_alike : List (Nat × Instr × Nat) := [(0, .aload_n 0, 1), (1, .iload_n 1, 1), (2, .invokevirtual 168, 3), (5, .iconst 0, 1), (6, .istore_n 2, 1), (7, .iconst 0, 1), (8, .istore_n 3, 1), (9, .iload_n 3, 1), (10, .aload_n 0, 1), (11, .getfield 10, 3), (14, .getfield 151, 3), (17, .if_icmp .ge 33, 3), (20, .iload_n 2, 1), (21, .aload_n 0, 1), (22, .getfield 28, 3), (25, .iload_n 3, 1), (26, .iaload, 1), (27, .aload_n 0, 1), (28, .getfield 28, 3), (31, .aload_n 0, 1), (32, .getfield 10, 3), (35, .iload_n 3, 1), (36, .iload_n 1, 1), (37, .invokevirtual 171, 3), (40, .iaload, 1), (41, .imul, 1), (42, .iadd, 1), (43, .istore_n 2, 1), (44, .iinc 3 1, 3), (47, .goto (-38), 3), (50, .iload_n 2, 1), (51, .ireturn, 1)]
set_option maxRecDepth 100000 in
theorem kX9_alike_ok : ∀ q ∈ kX9_alike, decode cX9_alike q.1 = .ok (q.2.1, q.2.2) := by decide +kernel
def kX9_mark : List (Nat × Instr × Nat) := [(0, .aload_n 0, 1), (1, .iload_n 1, 1), (2, .invokevirtual 303, 3), (5, .iconst 0, 1), (6, .istore_n 2, 1), (7, .iload_n 2, 1), (8, .aload_n 0, 1), (9, .getfield 10, 3), (12, .getfield 151, 3), (15, .if_icmp .ge 20, 3), (18, .aload_n 0, 1), (19, .getfield 28, 3), (22, .iload_n 2, 1), (23, .iload_n 1, 1), (24, .iload_n 2, 1), (25, .ishr, 1), (26, .iconst 1, 1), (27, .iand, 1), (28, .iastore, 1), (29, .iinc 2 1, 3), (32, .goto (-25), 3), (35, .iload_n 1, 1), (36, .invokestatic 306, 3), (39, .ireturn, 1)]
set_option maxRecDepth 100000 in
theorem kX9_mark_ok : ∀ q ∈ kX9_mark, decode cX9_mark q.1 = .ok (q.2.1, q.2.2) := by decide +kernel
def kX9_differences : List (Nat × Instr × Nat) := [(0, .aload_n 0, 1), (1, .iload_n 1, 1), (2, .invokevirtual 303, 3), (5, .aload_n 0, 1), (6, .getfield 49, 3), (9, .iload_n 1, 1), (10, .invokevirtual 311, 3), (13, .ireturn, 1)]
set_option maxRecDepth 100000 in
theorem kX9_differences_ok : ∀ q ∈ kX9_differences, decode cX9_differences q.1 = .ok (q.2.1, q.2.2) := by decide +kernel
def kX9_cyclotomic : List (Nat × Instr × Nat) := [(0, .aload_n 0, 1), (1, .getfield 10, 3), (4, .iload_n 1, 1), (5, .iload_n 2, 1), (6, .invokevirtual 314, 3), (9, .ifCond .eq 15, 3), (12, .aload_n 0, 1), (13, .getfield 10, 3), (16, .iload_n 1, 1), (17, .iload_n 3, 1), (18, .invokevirtual 314, 3), (21, .ifCond .ne 14, 3), (24, .new 163, 3), (27, .dup, 1), (28, .ldc_w 318, 3), (31, .invokespecial 167, 3), (34, .athrow, 1), (35, .aload_n 0, 1), (36, .getfield 49, 3), (39, .iload_n 1, 1), (40, .iload_n 2, 1), (41, .iload_n 3, 1), (42, .invokevirtual 320, 3), (45, .ireturn, 1)]
set_option maxRecDepth 100000 in
theorem kX9_cyclotomic_ok : ∀ q ∈ kX9_cyclotomic, decode cX9_cyclotomic q.1 = .ok (q.2.1, q.2.2) := by decide +kernel
def kX9_say : List (Nat × Instr × Nat) := [(0, .aload_n 0, 1), (1, .iload_n 1, 1), (2, .invokevirtual 200, 3), (5, .aload_n 0, 1), (6, .getfield 79, 3), (9, .aload_n 0, 1), (10, .getfield 25, 3), (13, .iload_n 1, 1), (14, .aaload, 1), (15, .aload_n 0, 1), (16, .getfield 19, 3), (19, .getfield 132, 3), (22, .invokevirtual 323, 3), (25, .ireturn, 1)]
set_option maxRecDepth 100000 in
theorem kX9_say_ok : ∀ q ∈ kX9_say, decode cX9_say q.1 = .ok (q.2.1, q.2.2) := by decide +kernel
def kX9_said : List (Nat × Instr × Nat) := [(0, .aload_n 0, 1), (1, .getfield 79, 3), (4, .iload_n 1, 1), (5, .invokevirtual 327, 3), (8, .ireturn, 1)]
set_option maxRecDepth 100000 in
theorem kX9_said_ok : ∀ q ∈ kX9_said, decode cX9_said q.1 = .ok (q.2.1, q.2.2) := by decide +kernel
def kX9_enter : List (Nat × Instr × Nat) := [(0, .aload_n 0, 1), (1, .getfield 10, 3), (4, .iload_n 1, 1), (5, .iload_n 2, 1), (6, .iload_n 3, 1), (7, .invokevirtual 330, 3), (10, .aload_n 0, 1), (11, .getfield 19, 3), (14, .iload_n 1, 1), (15, .iload_n 3, 1), (16, .iconst 1, 1), (17, .isub, 1), (18, .imul, 1), (19, .invokevirtual 333, 3), (22, .iconst 0, 1), (23, .istore 4, 2), (25, .iload 4, 2), (27, .bipush 8, 2), (29, .if_icmp .ge 20, 3), (32, .aload_n 0, 1), (33, .getfield 25, 3), (36, .iload 4, 2), (38, .aaload, 1), (39, .iconst 0, 1), (40, .invokestatic 335, 3), (43, .iinc 4 1, 3), (46, .goto (-21), 3), (49, .aload_n 0, 1), (50, .getfield 28, 3), (53, .iconst 0, 1), (54, .invokestatic 335, 3), (57, .return_, 1)]
set_option maxRecDepth 100000 in
theorem kX9_enter_ok : ∀ q ∈ kX9_enter, decode cX9_enter q.1 = .ok (q.2.1, q.2.2) := by decide +kernel
def kX9_append : List (Nat × Instr × Nat) := [(0, .bipush 24, 2), (2, .istore_n 2, 1), (3, .iload_n 2, 1), (4, .ifCond .lt 35, 3), (7, .aload_n 0, 1), (8, .getfield 32, 3), (11, .aload_n 0, 1), (12, .getfield 95, 3), (15, .iload_n 1, 1), (16, .iload_n 2, 1), (17, .iushr, 1), (18, .sipush 255, 3), (21, .iand, 1), (22, .iastore, 1), (23, .aload_n 0, 1), (24, .dup, 1), (25, .getfield 95, 3), (28, .iconst 1, 1), (29, .iadd, 1), (30, .putfield 95, 3), (33, .iinc 2 (-8), 3), (36, .goto (-33), 3), (39, .return_, 1)]
set_option maxRecDepth 100000 in
theorem kX9_append_ok : ∀ q ∈ kX9_append, decode cX9_append q.1 = .ok (q.2.1, q.2.2) := by decide +kernel
def kX9_isPlace : List (Nat × Instr × Nat) := [(0, .iload_n 1, 1), (1, .ifCond .lt 13, 3), (4, .iload_n 1, 1), (5, .bipush 8, 2), (7, .if_icmp .ge 7, 3), (10, .iconst 1, 1), (11, .goto 4, 3), (14, .iconst 0, 1), (15, .ireturn, 1)]
set_option maxRecDepth 100000 in
theorem kX9_isPlace_ok : ∀ q ∈ kX9_isPlace, decode cX9_isPlace q.1 = .ok (q.2.1, q.2.2) := by decide +kernel
def kX9_canMake : List (Nat × Instr × Nat) := [(0, .iload_n 1, 1), (1, .tableswitch 217 0 7 #[47, 75, 115, 143, 153, 178, 187, 196], 47), (48, .aload_n 0, 1), (49, .getfield 10, 3), (52, .iload_n 2, 1), (53, .invokevirtual 340, 3), (56, .ifCond .eq 18, 3), (59, .aload_n 0, 1), (60, .getfield 10, 3), (63, .iload_n 3, 1), (64, .invokevirtual 343, 3), (67, .ifCond .eq 7, 3), (70, .iconst 1, 1), (71, .goto 4, 3), (74, .iconst 0, 1), (75, .ireturn, 1), (76, .aload_n 0, 1), (77, .getfield 10, 3), (80, .iload_n 2, 1), (81, .invokevirtual 340, 3), (84, .ifCond .eq 30, 3), (87, .aload_n 0, 1), (88, .getfield 10, 3), (91, .iload_n 3, 1), (92, .invokevirtual 340, 3), (95, .ifCond .eq 19, 3), (98, .aload_n 0, 1), (99, .getfield 10, 3), (102, .iload 4, 2), (104, .invokevirtual 343, 3), (107, .ifCond .eq 7, 3), (110, .iconst 1, 1), (111, .goto 4, 3), (114, .iconst 0, 1), (115, .ireturn, 1), (116, .aload_n 0, 1), (117, .getfield 10, 3), (120, .iload_n 2, 1), (121, .invokevirtual 343, 3), (124, .ifCond .eq 18, 3), (127, .aload_n 0, 1), (128, .getfield 10, 3), (131, .iload_n 3, 1), (132, .invokevirtual 343, 3), (135, .ifCond .eq 7, 3), (138, .iconst 1, 1), (139, .goto 4, 3), (142, .iconst 0, 1), (143, .ireturn, 1), (144, .aload_n 0, 1), (145, .getfield 10, 3), (148, .iload_n 2, 1), (149, .iload_n 3, 1), (150, .invokevirtual 314, 3), (153, .ireturn, 1), (154, .aload_n 0, 1), (155, .iload_n 2, 1), (156, .invokevirtual 102, 3), (159, .ifCond .eq 18, 3), (162, .aload_n 0, 1), (163, .getfield 19, 3), (166, .iload_n 3, 1), (167, .invokevirtual 346, 3), (170, .ifCond .eq 7, 3), (173, .iconst 1, 1), (174, .goto 4, 3), (177, .iconst 0, 1), (178, .ireturn, 1), (179, .aload_n 0, 1), (180, .getfield 10, 3), (183, .iload_n 2, 1), (184, .invokevirtual 343, 3), (187, .ireturn, 1), (188, .aload_n 0, 1), (189, .getfield 10, 3), (192, .iload_n 2, 1), (193, .invokevirtual 340, 3), (196, .ireturn, 1), (197, .iload_n 2, 1), (198, .ifCond .lt 18, 3), (201, .iload_n 2, 1), (202, .aload_n 0, 1), (203, .getfield 19, 3), (206, .getfield 154, 3), (209, .if_icmp .ge 7, 3), (212, .iconst 1, 1), (213, .goto 4, 3), (216, .iconst 0, 1), (217, .ireturn, 1), (218, .iconst 0, 1), (219, .ireturn, 1)]
set_option maxRecDepth 100000 in
theorem kX9_canMake_ok : ∀ q ∈ kX9_canMake, decode cX9_canMake q.1 = .ok (q.2.1, q.2.2) := by decide +kernel
def kX9_needElement : List (Nat × Instr × Nat) := [(0, .aload_n 0, 1), (1, .getfield 10, 3), (4, .iload_n 1, 1), (5, .invokevirtual 343, 3), (8, .ifCond .ne 14, 3), (11, .new 163, 3), (14, .dup, 1), (15, .ldc_w 349, 3), (18, .invokespecial 167, 3), (21, .athrow, 1), (22, .return_, 1)]
set_option maxRecDepth 100000 in
theorem kX9_needElement_ok : ∀ q ∈ kX9_needElement, decode cX9_needElement q.1 = .ok (q.2.1, q.2.2) := by decide +kernel
def kX9_needCharacter : List (Nat × Instr × Nat) := [(0, .aload_n 0, 1), (1, .getfield 10, 3), (4, .iload_n 1, 1), (5, .invokevirtual 340, 3), (8, .ifCond .ne 14, 3), (11, .new 163, 3), (14, .dup, 1), (15, .ldc_w 351, 3), (18, .invokespecial 167, 3), (21, .athrow, 1), (22, .return_, 1)]
set_option maxRecDepth 100000 in
theorem kX9_needCharacter_ok : ∀ q ∈ kX9_needCharacter, decode cX9_needCharacter q.1 = .ok (q.2.1, q.2.2) := by decide +kernel
def kX9_needPlace : List (Nat × Instr × Nat) := [(0, .aload_n 0, 1), (1, .iload_n 1, 1), (2, .invokevirtual 102, 3), (5, .ifCond .ne 14, 3), (8, .new 163, 3), (11, .dup, 1), (12, .ldc_w 353, 3), (15, .invokespecial 167, 3), (18, .athrow, 1), (19, .return_, 1)]
set_option maxRecDepth 100000 in
theorem kX9_needPlace_ok : ∀ q ∈ kX9_needPlace, decode cX9_needPlace q.1 = .ok (q.2.1, q.2.2) := by decide +kernel
def kX9_needSet : List (Nat × Instr × Nat) := [(0, .iload_n 1, 1), (1, .ifCond .lt 15, 3), (4, .iload_n 1, 1), (5, .aload_n 0, 1), (6, .getfield 10, 3), (9, .getfield 151, 3), (12, .ishr, 1), (13, .ifCond .eq 14, 3), (16, .new 163, 3), (19, .dup, 1), (20, .ldc_w 355, 3), (23, .invokespecial 167, 3), (26, .athrow, 1), (27, .return_, 1)]
set_option maxRecDepth 100000 in
theorem kX9_needSet_ok : ∀ q ∈ kX9_needSet, decode cX9_needSet q.1 = .ok (q.2.1, q.2.2) := by decide +kernel
def kX9_needExponent : List (Nat × Instr × Nat) := [(0, .iload_n 1, 1), (1, .iconst 1, 1), (2, .if_icmp .lt 9, 3), (5, .iload_n 1, 1), (6, .bipush 30, 2), (8, .if_icmp .le 14, 3), (11, .new 106, 3), (14, .dup, 1), (15, .ldc_w 357, 3), (18, .invokespecial 110, 3), (21, .athrow, 1), (22, .return_, 1)]
set_option maxRecDepth 100000 in
theorem kX9_needExponent_ok : ∀ q ∈ kX9_needExponent, decode cX9_needExponent q.1 = .ok (q.2.1, q.2.2) := by decide +kernel
def kX10_init : List (Nat × Instr × Nat) := [(0, .aload_n 0, 1), (1, .invokespecial 3, 3), (4, .aload_n 0, 1), (5, .bipush 9, 2), (7, .newarray .int, 2), (9, .dup, 1), (10, .iconst 0, 1), (11, .iconst 2, 1), (12, .iastore, 1), (13, .dup, 1), (14, .iconst 1, 1), (15, .iconst 3, 1), (16, .iastore, 1), (17, .dup, 1), (18, .iconst 2, 1), (19, .iconst 5, 1), (20, .iastore, 1), (21, .dup, 1), (22, .iconst 3, 1), (23, .bipush 7, 2), (25, .iastore, 1), (26, .dup, 1), (27, .iconst 4, 1), (28, .bipush 11, 2), (30, .iastore, 1), (31, .dup, 1), (32, .iconst 5, 1), (33, .bipush 13, 2), (35, .iastore, 1), (36, .dup, 1), (37, .bipush 6, 2), (39, .bipush 17, 2), (41, .iastore, 1), (42, .dup, 1), (43, .bipush 7, 2), (45, .bipush 19, 2), (47, .iastore, 1), (48, .dup, 1), (49, .bipush 8, 2), (51, .bipush 23, 2), (53, .iastore, 1), (54, .putfield 9, 3), (57, .aload_n 0, 1), (58, .sipush 729, 3), (61, .newarray .int, 2), (63, .putfield 13, 3), (66, .aload_n 0, 1), (67, .sipush 729, 3), (70, .newarray .int, 2), (72, .putfield 16, 3), (75, .aload_n 0, 1), (76, .bipush 27, 2), (78, .newarray .int, 2), (80, .putfield 19, 3), (83, .aload_n 0, 1), (84, .bipush 27, 2), (86, .newarray .int, 2), (88, .putfield 22, 3), (91, .aload_n 0, 1), (92, .bipush 27, 2), (94, .newarray .int, 2), (96, .putfield 25, 3), (99, .aload_n 0, 1), (100, .bipush 27, 2), (102, .newarray .int, 2), (104, .putfield 28, 3), (107, .aload_n 0, 1), (108, .bipush 16, 2), (110, .newarray .int, 2), (112, .putfield 31, 3), (115, .aload_n 0, 1), (116, .sipush 512, 3), (119, .newarray .long, 2), (121, .putfield 34, 3), (124, .aload_n 0, 1), (125, .sipush 1024, 3), (128, .newarray .long, 2), (130, .putfield 38, 3), (133, .aload_n 0, 1), (134, .sipush 1024, 3), (137, .newarray .long, 2), (139, .putfield 41, 3), (142, .aload_n 0, 1), (143, .sipush 512, 3), (146, .newarray .long, 2), (148, .putfield 44, 3), (151, .aload_n 0, 1), (152, .ldc 47, 2), (154, .newarray .long, 2), (156, .putfield 48, 3), (159, .aload_n 0, 1), (160, .bipush 64, 2), (162, .newarray .int, 2), (164, .putfield 51, 3), (167, .aload_n 0, 1), (168, .bipush 64, 2), (170, .newarray .int, 2), (172, .putfield 54, 3), (175, .aload_n 0, 1), (176, .sipush 8960, 3), (179, .newarray .long, 2), (181, .putfield 57, 3), (184, .aload_n 0, 1), (185, .sipush 512, 3), (188, .newarray .long, 2), (190, .putfield 60, 3), (193, .aload_n 0, 1), (194, .bipush 27, 2), (196, .newarray .int, 2), (198, .putfield 63, 3), (201, .aload_n 0, 1), (202, .sipush 200, 3), (205, .newarray .int, 2), (207, .putfield 66, 3), (210, .aload_n 0, 1), (211, .iconst (-1), 1), (212, .putfield 69, 3), (215, .aload_n 0, 1), (216, .bipush 27, 2), (218, .newarray .int, 2), (220, .putfield 73, 3), (223, .aload_n 0, 1), (224, .bipush 27, 2), (226, .newarray .int, 2), (228, .putfield 76, 3), (231, .aload_n 0, 1), (232, .bipush 27, 2), (234, .newarray .int, 2), (236, .putfield 79, 3), (239, .aload_n 0, 1), (240, .sipush 4096, 3), (243, .newarray .int, 2), (245, .putfield 82, 3), (248, .aload_n 0, 1), (249, .sipush 4096, 3), (252, .newarray .int, 2), (254, .putfield 85, 3), (257, .aload_n 0, 1), (258, .sipush 4096, 3), (261, .newarray .int, 2), (263, .putfield 88, 3), (266, .aload_n 0, 1), (267, .bipush 8, 2), (269, .newarray .int, 2), (271, .putfield 91, 3), (274, .aload_n 0, 1), (275, .bipush 8, 2), (277, .newarray .int, 2), (279, .putfield 94, 3), (282, .aload_n 0, 1), (283, .sipush 8192, 3), (286, .newarray .int, 2), (288, .putfield 97, 3), (291, .aload_n 0, 1), (292, .iconst 2, 1), (293, .iconst 1, 1), (294, .invokevirtual 100, 3), (297, .istore_n 1, 1), (298, .return_, 1)]
set_option maxRecDepth 100000 in
theorem kX10_init_ok : ∀ q ∈ kX10_init, decode cX10_init q.1 = .ok (q.2.1, q.2.2) := by decide +kernel
def kX10_thrown : List (Nat × Instr × Nat) := [(0, .aload_n 0, 1), (1, .getfield 104, 3), (4, .ireturn, 1)]
set_option maxRecDepth 100000 in
theorem kX10_thrown_ok : ∀ q ∈ kX10_thrown, decode cX10_thrown q.1 = .ok (q.2.1, q.2.2) := by decide +kernel
def kX10_fail : List (Nat × Instr × Nat) := [(0, .aload_n 0, 1), (1, .iload_n 1, 1), (2, .putfield 104, 3), (5, .iconst 0, 1), (6, .ireturn, 1)]
set_option maxRecDepth 100000 in
theorem kX10_fail_ok : ∀ q ∈ kX10_fail, decode cX10_fail q.1 = .ok (q.2.1, q.2.2) := by decide +kernel
def kX10_isIn : List (Nat × Instr × Nat) := [(0, .lload_n 0, 1), (1, .lload_n 2, 1), (2, .lcmp, 1), (3, .ifCond .lt 14, 3), (6, .lload_n 0, 1), (7, .lload 4, 2), (9, .lcmp, 1), (10, .ifCond .gt 7, 3), (13, .iconst 1, 1), (14, .goto 4, 3), (17, .iconst 0, 1), (18, .ireturn, 1)]
set_option maxRecDepth 100000 in
theorem kX10_isIn_ok : ∀ q ∈ kX10_isIn, decode cX10_isIn q.1 = .ok (q.2.1, q.2.2) := by decide +kernel
end
section
def kX10_common : List (Nat × Instr × Nat) := [(0, .iload_n 0, 1), (1, .istore_n 2, 1), (2, .iload_n 1, 1), (3, .istore_n 3, 1), (4, .iload_n 3, 1), (5, .ifCond .eq 16, 3), (8, .iload_n 2, 1), (9, .iload_n 3, 1), (10, .irem, 1), (11, .istore 4, 2), (13, .iload_n 3, 1), (14, .istore_n 2, 1), (15, .iload 4, 2), (17, .istore_n 3, 1), (18, .goto (-14), 3), (21, .iload_n 2, 1), (22, .ireturn, 1)]
set_option maxRecDepth 100000 in
theorem kX10_common_ok : ∀ q ∈ kX10_common, decode cX10_common q.1 = .ok (q.2.1, q.2.2) := by decide +kernel
def kX10_powerOf : List (Nat × Instr × Nat) := [(0, .iconst 1, 1), (1, .istore_n 2, 1), (2, .iconst 0, 1), (3, .istore_n 3, 1), (4, .iload_n 3, 1), (5, .iload_n 1, 1), (6, .if_icmp .ge 13, 3), (9, .iload_n 2, 1), (10, .iload_n 0, 1), (11, .imul, 1), (12, .istore_n 2, 1), (13, .iinc 3 1, 3), (16, .goto (-12), 3), (19, .iload_n 2, 1), (20, .ireturn, 1)]
set_option maxRecDepth 100000 in
theorem kX10_powerOf_ok : ∀ q ∈ kX10_powerOf, decode cX10_powerOf q.1 = .ok (q.2.1, q.2.2) := by decide +kernel
def kX10_digit : List (Nat × Instr × Nat) := [(0, .iload_n 1, 1), (1, .aload_n 0, 1), (2, .getfield 107, 3), (5, .iload_n 2, 1), (6, .invokestatic 110, 3), (9, .idiv, 1), (10, .aload_n 0, 1), (11, .getfield 107, 3), (14, .irem, 1), (15, .ireturn, 1)]
set_option maxRecDepth 100000 in
theorem kX10_digit_ok : ∀ q ∈ kX10_digit, decode cX10_digit q.1 = .ok (q.2.1, q.2.2) := by decide +kernel
def kX10_addDigits : List (Nat × Instr × Nat) := [(0, .iconst 0, 1), (1, .istore_n 3, 1), (2, .aload_n 0, 1), (3, .getfield 113, 3), (6, .iconst 1, 1), (7, .isub, 1), (8, .istore 4, 2), (10, .iload 4, 2), (12, .ifCond .lt 37, 3), (15, .iload_n 3, 1), (16, .aload_n 0, 1), (17, .getfield 107, 3), (20, .imul, 1), (21, .aload_n 0, 1), (22, .iload_n 1, 1), (23, .iload 4, 2), (25, .invokevirtual 116, 3), (28, .aload_n 0, 1), (29, .iload_n 2, 1), (30, .iload 4, 2), (32, .invokevirtual 116, 3), (35, .iadd, 1), (36, .aload_n 0, 1), (37, .getfield 107, 3), (40, .irem, 1), (41, .iadd, 1), (42, .istore_n 3, 1), (43, .iinc 4 (-1), 3), (46, .goto (-36), 3), (49, .iload_n 3, 1), (50, .ireturn, 1)]
set_option maxRecDepth 100000 in
theorem kX10_addDigits_ok : ∀ q ∈ kX10_addDigits, decode cX10_addDigits q.1 = .ok (q.2.1, q.2.2) := by decide +kernel
def kX10_multiplyBy : List (Nat × Instr × Nat) := [(0, .iconst 0, 1), (1, .istore 4, 2), (3, .iload 4, 2), (5, .aload_n 0, 1), (6, .getfield 31, 3), (9, .arraylength, 1), (10, .if_icmp .ge 17, 3), (13, .aload_n 0, 1), (14, .getfield 31, 3), (17, .iload 4, 2), (19, .iconst 0, 1), (20, .iastore, 1), (21, .iinc 4 1, 3), (24, .goto (-21), 3), (27, .iconst 0, 1), (28, .istore 4, 2), (30, .iload 4, 2), (32, .aload_n 0, 1), (33, .getfield 113, 3), (36, .if_icmp .ge 68, 3), (39, .iconst 0, 1), (40, .istore 5, 2), (42, .iload 5, 2), (44, .aload_n 0, 1), (45, .getfield 113, 3), (48, .if_icmp .ge 50, 3), (51, .aload_n 0, 1), (52, .getfield 31, 3), (55, .iload 4, 2), (57, .iload 5, 2), (59, .iadd, 1), (60, .aload_n 0, 1), (61, .getfield 31, 3), (64, .iload 4, 2), (66, .iload 5, 2), (68, .iadd, 1), (69, .iaload, 1), (70, .aload_n 0, 1), (71, .iload_n 1, 1), (72, .iload 4, 2), (74, .invokevirtual 116, 3), (77, .aload_n 0, 1), (78, .iload_n 2, 1), (79, .iload 5, 2), (81, .invokevirtual 116, 3), (84, .imul, 1), (85, .iadd, 1), (86, .aload_n 0, 1), (87, .getfield 107, 3), (90, .irem, 1), (91, .iastore, 1), (92, .iinc 5 1, 3), (95, .goto (-53), 3), (98, .iinc 4 1, 3), (101, .goto (-71), 3), (104, .iconst 2, 1), (105, .aload_n 0, 1), (106, .getfield 113, 3), (109, .imul, 1), (110, .iconst 2, 1), (111, .isub, 1), (112, .istore 4, 2), (114, .iload 4, 2), (116, .aload_n 0, 1), (117, .getfield 113, 3), (120, .if_icmp .lt 95, 3), (123, .aload_n 0, 1), (124, .getfield 31, 3), (127, .iload 4, 2), (129, .iaload, 1), (130, .istore 5, 2), (132, .aload_n 0, 1), (133, .getfield 31, 3), (136, .iload 4, 2), (138, .iconst 0, 1), (139, .iastore, 1), (140, .iconst 0, 1), (141, .istore 6, 2), (143, .iload 6, 2), (145, .aload_n 0, 1), (146, .getfield 113, 3), (149, .if_icmp .ge 60, 3), (152, .aload_n 0, 1), (153, .getfield 31, 3), (156, .iload 4, 2), (158, .aload_n 0, 1), (159, .getfield 113, 3), (162, .isub, 1), (163, .iload 6, 2), (165, .iadd, 1), (166, .aload_n 0, 1), (167, .getfield 31, 3), (170, .iload 4, 2), (172, .aload_n 0, 1), (173, .getfield 113, 3), (176, .isub, 1), (177, .iload 6, 2), (179, .iadd, 1), (180, .iaload, 1), (181, .aload_n 0, 1), (182, .getfield 107, 3), (185, .iload 5, 2), (187, .isub, 1), (188, .aload_n 0, 1), (189, .iload_n 3, 1), (190, .iload 6, 2), (192, .invokevirtual 116, 3), (195, .imul, 1), (196, .iadd, 1), (197, .aload_n 0, 1), (198, .getfield 107, 3), (201, .irem, 1), (202, .iastore, 1), (203, .iinc 6 1, 3), (206, .goto (-63), 3), (209, .iinc 4 (-1), 3), (212, .goto (-98), 3), (215, .iconst 0, 1), (216, .istore 4, 2), (218, .aload_n 0, 1), (219, .getfield 113, 3), (222, .iconst 1, 1), (223, .isub, 1), (224, .istore 5, 2), (226, .iload 5, 2), (228, .ifCond .lt 26, 3), (231, .iload 4, 2), (233, .aload_n 0, 1), (234, .getfield 107, 3), (237, .imul, 1), (238, .aload_n 0, 1), (239, .getfield 31, 3), (242, .iload 5, 2), (244, .iaload, 1), (245, .iadd, 1), (246, .istore 4, 2), (248, .iinc 5 (-1), 3), (251, .goto (-25), 3), (254, .iload 4, 2), (256, .ireturn, 1)]
set_option maxRecDepth 100000 in
theorem kX10_multiplyBy_ok : ∀ q ∈ kX10_multiplyBy, decode cX10_multiplyBy q.1 = .ok (q.2.1, q.2.2) := by decide +kernel
def kX10_isPrime : List (Nat × Instr × Nat) := [(0, .iconst 1, 1), (1, .istore_n 2, 1), (2, .iload_n 2, 1), (3, .aload_n 0, 1), (4, .getfield 119, 3), (7, .if_icmp .ge 37, 3), (10, .iconst 1, 1), (11, .istore_n 3, 1), (12, .iload_n 3, 1), (13, .aload_n 0, 1), (14, .getfield 119, 3), (17, .if_icmp .ge 21, 3), (20, .aload_n 0, 1), (21, .iload_n 2, 1), (22, .iload_n 3, 1), (23, .iload_n 1, 1), (24, .invokevirtual 122, 3), (27, .ifCond .ne 5, 3), (30, .iconst 0, 1), (31, .ireturn, 1), (32, .iinc 3 1, 3), (35, .goto (-23), 3), (38, .iinc 2 1, 3), (41, .goto (-39), 3), (44, .iconst 1, 1), (45, .ireturn, 1)]
set_option maxRecDepth 100000 in
theorem kX10_isPrime_ok : ∀ q ∈ kX10_isPrime, decode cX10_isPrime q.1 = .ok (q.2.1, q.2.2) := by decide +kernel
def kX10_sumOf : List (Nat × Instr × Nat) := [(0, .aload_n 0, 1), (1, .getfield 13, 3), (4, .bipush 27, 2), (6, .iload_n 1, 1), (7, .imul, 1), (8, .iload_n 2, 1), (9, .iadd, 1), (10, .iaload, 1), (11, .ireturn, 1)]
set_option maxRecDepth 100000 in
theorem kX10_sumOf_ok : ∀ q ∈ kX10_sumOf, decode cX10_sumOf q.1 = .ok (q.2.1, q.2.2) := by decide +kernel
def kX10_productOf : List (Nat × Instr × Nat) := [(0, .aload_n 0, 1), (1, .getfield 16, 3), (4, .bipush 27, 2), (6, .iload_n 1, 1), (7, .imul, 1), (8, .iload_n 2, 1), (9, .iadd, 1), (10, .iaload, 1), (11, .ireturn, 1)]
set_option maxRecDepth 100000 in
theorem kX10_productOf_ok : ∀ q ∈ kX10_productOf, decode cX10_productOf q.1 = .ok (q.2.1, q.2.2) := by decide +kernel
def kX10_raise : List (Nat × Instr × Nat) := [(0, .iconst 1, 1), (1, .istore_n 3, 1), (2, .iconst 0, 1), (3, .istore 4, 2), (5, .iload 4, 2), (7, .iload_n 2, 1), (8, .if_icmp .ge 16, 3), (11, .aload_n 0, 1), (12, .iload_n 3, 1), (13, .iload_n 1, 1), (14, .invokevirtual 126, 3), (17, .istore_n 3, 1), (18, .iinc 4 1, 3), (21, .goto (-16), 3), (24, .iload_n 3, 1), (25, .ireturn, 1)]
set_option maxRecDepth 100000 in
theorem kX10_raise_ok : ∀ q ∈ kX10_raise, decode cX10_raise q.1 = .ok (q.2.1, q.2.2) := by decide +kernel
def kX10_orderOf : List (Nat × Instr × Nat) := [(0, .iconst 1, 1), (1, .istore_n 2, 1), (2, .iload_n 1, 1), (3, .istore_n 3, 1), (4, .iload_n 3, 1), (5, .iconst 1, 1), (6, .if_icmp .eq 16, 3), (9, .iinc 2 1, 3), (12, .aload_n 0, 1), (13, .iload_n 3, 1), (14, .iload_n 1, 1), (15, .invokevirtual 126, 3), (18, .istore_n 3, 1), (19, .goto (-15), 3), (22, .iload_n 2, 1), (23, .ireturn, 1)]
set_option maxRecDepth 100000 in
theorem kX10_orderOf_ok : ∀ q ∈ kX10_orderOf, decode cX10_orderOf q.1 = .ok (q.2.1, q.2.2) := by decide +kernel
def kX10_begin : List (Nat × Instr × Nat) := [(0, .aload_n 0, 1), (1, .iload_n 1, 1), (2, .putfield 107, 3), (5, .aload_n 0, 1), (6, .iload_n 2, 1), (7, .putfield 113, 3), (10, .aload_n 0, 1), (11, .aload_n 0, 1), (12, .getfield 107, 3), (15, .aload_n 0, 1), (16, .getfield 113, 3), (19, .invokestatic 110, 3), (22, .putfield 119, 3), (25, .aload_n 0, 1), (26, .iconst 0, 1), (27, .putfield 129, 3), (30, .aload_n 0, 1), (31, .getfield 113, 3), (34, .iconst 1, 1), (35, .if_icmp .le 27, 3), (38, .aload_n 0, 1), (39, .aload_n 0, 1), (40, .getfield 129, 3), (43, .invokevirtual 132, 3), (46, .ifCond .ne 16, 3), (49, .aload_n 0, 1), (50, .dup, 1), (51, .getfield 129, 3), (54, .iconst 1, 1), (55, .iadd, 1), (56, .putfield 129, 3), (59, .goto (-29), 3), (62, .iconst 0, 1), (63, .istore_n 3, 1), (64, .iload_n 3, 1), (65, .aload_n 0, 1), (66, .getfield 119, 3), (69, .if_icmp .ge 89, 3), (72, .iconst 0, 1), (73, .istore 4, 2), (75, .iload 4, 2), (77, .aload_n 0, 1), (78, .getfield 119, 3), (81, .if_icmp .ge 71, 3), (84, .aload_n 0, 1), (85, .getfield 13, 3), (88, .bipush 27, 2), (90, .iload_n 3, 1), (91, .imul, 1), (92, .iload 4, 2), (94, .iadd, 1), (95, .aload_n 0, 1), (96, .iload_n 3, 1), (97, .iload 4, 2), (99, .invokevirtual 136, 3), (102, .iastore, 1), (103, .aload_n 0, 1), (104, .getfield 16, 3), (107, .bipush 27, 2), (109, .iload_n 3, 1), (110, .imul, 1), (111, .iload 4, 2), (113, .iadd, 1), (114, .aload_n 0, 1), (115, .getfield 113, 3), (118, .iconst 1, 1), (119, .if_icmp .ne 15, 3), (122, .iload_n 3, 1), (123, .iload 4, 2), (125, .imul, 1), (126, .aload_n 0, 1), (127, .getfield 107, 3), (130, .irem, 1), (131, .goto 14, 3), (134, .aload_n 0, 1), (135, .iload_n 3, 1), (136, .iload 4, 2), (138, .aload_n 0, 1), (139, .getfield 129, 3), (142, .invokevirtual 122, 3), (145, .iastore, 1), (146, .iinc 4 1, 3), (149, .goto (-74), 3), (152, .iinc 3 1, 3), (155, .goto (-91), 3), (158, .iconst 0, 1), (159, .istore_n 3, 1), (160, .iload_n 3, 1), (161, .aload_n 0, 1), (162, .getfield 119, 3), (165, .if_icmp .ge 45, 3), (168, .iconst 0, 1), (169, .istore 4, 2), (171, .iload 4, 2), (173, .aload_n 0, 1), (174, .getfield 119, 3), (177, .if_icmp .ge 27, 3), (180, .aload_n 0, 1), (181, .iload_n 3, 1), (182, .iload 4, 2), (184, .invokevirtual 139, 3), (187, .ifCond .ne 11, 3), (190, .aload_n 0, 1), (191, .getfield 19, 3), (194, .iload_n 3, 1), (195, .iload 4, 2), (197, .iastore, 1), (198, .iinc 4 1, 3), (201, .goto (-30), 3), (204, .iinc 3 1, 3), (207, .goto (-47), 3), (210, .aload_n 0, 1), (211, .iconst 1, 1), (212, .putfield 142, 3), (215, .aload_n 0, 1), (216, .aload_n 0, 1), (217, .getfield 142, 3), (220, .invokevirtual 145, 3), (223, .aload_n 0, 1), (224, .getfield 119, 3), (227, .iconst 1, 1), (228, .isub, 1), (229, .if_icmp .eq 16, 3), (232, .aload_n 0, 1), (233, .dup, 1), (234, .getfield 142, 3), (237, .iconst 1, 1), (238, .iadd, 1), (239, .putfield 142, 3), (242, .goto (-27), 3), (245, .iconst 1, 1), (246, .istore_n 3, 1), (247, .iconst 0, 1), (248, .istore 4, 2), (250, .iload 4, 2), (252, .aload_n 0, 1), (253, .getfield 119, 3), (256, .iconst 1, 1), (257, .isub, 1), (258, .if_icmp .ge 35, 3), (261, .aload_n 0, 1), (262, .getfield 22, 3), (265, .iload_n 3, 1), (266, .iload 4, 2), (268, .iastore, 1), (269, .aload_n 0, 1), (270, .getfield 25, 3), (273, .iload 4, 2), (275, .iload_n 3, 1), (276, .iastore, 1), (277, .aload_n 0, 1), (278, .iload_n 3, 1), (279, .aload_n 0, 1), (280, .getfield 142, 3), (283, .invokevirtual 126, 3), (286, .istore_n 3, 1), (287, .iinc 4 1, 3), (290, .goto (-40), 3), (293, .iconst 0, 1), (294, .istore 4, 2), (296, .iload 4, 2), (298, .aload_n 0, 1), (299, .getfield 119, 3), (302, .if_icmp .ge 22, 3), (305, .aload_n 0, 1), (306, .getfield 28, 3), (309, .iload 4, 2), (311, .aload_n 0, 1), (312, .iload 4, 2), (314, .invokevirtual 149, 3), (317, .iastore, 1), (318, .iinc 4 1, 3), (321, .goto (-25), 3), (324, .aload_n 0, 1), (325, .invokevirtual 152, 3), (328, .iconst 0, 1), (329, .istore 4, 2), (331, .iload 4, 2), (333, .bipush 8, 2), (335, .if_icmp .ge 15, 3), (338, .aload_n 0, 1), (339, .iload 4, 2), (341, .invokevirtual 155, 3), (344, .iinc 4 1, 3), (347, .goto (-16), 3), (350, .iconst 0, 1), (351, .istore 4, 2), (353, .iload 4, 2), (355, .bipush 27, 2), (357, .if_icmp .ge 17, 3), (360, .aload_n 0, 1), (361, .getfield 63, 3), (364, .iload 4, 2), (366, .iconst 0, 1), (367, .iastore, 1), (368, .iinc 4 1, 3), (371, .goto (-18), 3), (374, .aload_n 0, 1), (375, .getfield 119, 3), (378, .ireturn, 1)]
set_option maxRecDepth 100000 in
theorem kX10_begin_ok : ∀ q ∈ kX10_begin, decode cX10_begin q.1 = .ok (q.2.1, q.2.2) := by decide +kernel
def kX10_traceOf : List (Nat × Instr × Nat) := [(0, .iconst 0, 1), (1, .istore_n 2, 1), (2, .iload_n 1, 1), (3, .istore_n 3, 1), (4, .iconst 0, 1), (5, .istore 4, 2), (7, .iload 4, 2), (9, .aload_n 0, 1), (10, .getfield 113, 3), (13, .if_icmp .ge 26, 3), (16, .aload_n 0, 1), (17, .iload_n 2, 1), (18, .iload_n 3, 1), (19, .invokevirtual 139, 3), (22, .istore_n 2, 1), (23, .aload_n 0, 1), (24, .iload_n 3, 1), (25, .aload_n 0, 1), (26, .getfield 107, 3), (29, .invokevirtual 159, 3), (32, .istore_n 3, 1), (33, .iinc 4 1, 3), (36, .goto (-29), 3), (39, .iload_n 2, 1), (40, .ireturn, 1)]
set_option maxRecDepth 100000 in
theorem kX10_traceOf_ok : ∀ q ∈ kX10_traceOf, decode cX10_traceOf q.1 = .ok (q.2.1, q.2.2) := by decide +kernel
def kX10_quotientOf : List (Nat × Instr × Nat) := [(0, .iconst 0, 1), (1, .istore_n 3, 1), (2, .aload_n 0, 1), (3, .iload_n 3, 1), (4, .iload_n 2, 1), (5, .invokevirtual 126, 3), (8, .iload_n 1, 1), (9, .if_icmp .eq 9, 3), (12, .iinc 3 1, 3), (15, .goto (-13), 3), (18, .iload_n 3, 1), (19, .ireturn, 1)]
set_option maxRecDepth 100000 in
theorem kX10_quotientOf_ok : ∀ q ∈ kX10_quotientOf, decode cX10_quotientOf q.1 = .ok (q.2.1, q.2.2) := by decide +kernel
def kX10_differenceOf : List (Nat × Instr × Nat) := [(0, .iconst 0, 1), (1, .istore_n 3, 1), (2, .aload_n 0, 1), (3, .iload_n 3, 1), (4, .iload_n 2, 1), (5, .invokevirtual 139, 3), (8, .iload_n 1, 1), (9, .if_icmp .eq 9, 3), (12, .iinc 3 1, 3), (15, .goto (-13), 3), (18, .iload_n 3, 1), (19, .ireturn, 1)]
set_option maxRecDepth 100000 in
theorem kX10_differenceOf_ok : ∀ q ∈ kX10_differenceOf, decode cX10_differenceOf q.1 = .ok (q.2.1, q.2.2) := by decide +kernel
def kX10_isElement : List (Nat × Instr × Nat) := [(0, .iload_n 1, 1), (1, .i2l, 1), (2, .lconst 0, 1), (3, .aload_n 0, 1), (4, .getfield 119, 3), (7, .iconst 1, 1), (8, .isub, 1), (9, .i2l, 1), (10, .invokestatic 162, 3), (13, .ireturn, 1)]
set_option maxRecDepth 100000 in
theorem kX10_isElement_ok : ∀ q ∈ kX10_isElement, decode cX10_isElement q.1 = .ok (q.2.1, q.2.2) := by decide +kernel
def kX10_isCharacter : List (Nat × Instr × Nat) := [(0, .iload_n 1, 1), (1, .i2l, 1), (2, .lconst 0, 1), (3, .aload_n 0, 1), (4, .getfield 119, 3), (7, .iconst 2, 1), (8, .isub, 1), (9, .i2l, 1), (10, .invokestatic 162, 3), (13, .ireturn, 1)]
set_option maxRecDepth 100000 in
theorem kX10_isCharacter_ok : ∀ q ∈ kX10_isCharacter, decode cX10_isCharacter q.1 = .ok (q.2.1, q.2.2) := by decide +kernel
def kX10_divide : List (Nat × Instr × Nat) := [(0, .aload_n 0, 1), (1, .getfield 54, 3), (4, .iload_n 3, 1), (5, .iaload, 1), (6, .istore 4, 2), (8, .iload_n 2, 1), (9, .istore 5, 2), (11, .iload 5, 2), (13, .iload 4, 2), (15, .if_icmp .lt 60, 3), (18, .aload_n 1, 1), (19, .iload 5, 2), (21, .laload, 1), (22, .lstore 6, 2), (24, .iconst 0, 1), (25, .istore 8, 2), (27, .iload 8, 2), (29, .iload 4, 2), (31, .if_icmp .ge 38, 3), (34, .aload_n 1, 1), (35, .iload 5, 2), (37, .iload 4, 2), (39, .isub, 1), (40, .iload 8, 2), (42, .iadd, 1), (43, .dup2, 1), (44, .laload, 1), (45, .lload 6, 2), (47, .aload_n 0, 1), (48, .getfield 48, 3), (51, .sipush 512, 3), (54, .iload_n 3, 1), (55, .imul, 1), (56, .iload 8, 2), (58, .iadd, 1), (59, .laload, 1), (60, .lmul, 1), (61, .lsub, 1), (62, .lastore, 1), (63, .iinc 8 1, 3), (66, .goto (-39), 3), (69, .iinc 5 (-1), 3), (72, .goto (-61), 3), (75, .iload 4, 2), (77, .istore 5, 2), (79, .iload 5, 2), (81, .iload_n 2, 1), (82, .if_icmp .gt 20, 3), (85, .aload_n 1, 1), (86, .iload 5, 2), (88, .iload 4, 2), (90, .isub, 1), (91, .aload_n 1, 1), (92, .iload 5, 2), (94, .laload, 1), (95, .lastore, 1), (96, .iinc 5 1, 3), (99, .goto (-20), 3), (102, .iload_n 2, 1), (103, .iload 4, 2), (105, .isub, 1), (106, .iconst 1, 1), (107, .iadd, 1), (108, .istore 5, 2), (110, .iload 5, 2), (112, .iload_n 2, 1), (113, .if_icmp .gt 14, 3), (116, .aload_n 1, 1), (117, .iload 5, 2), (119, .lconst 0, 1), (120, .lastore, 1), (121, .iinc 5 1, 3), (124, .goto (-14), 3), (127, .return_, 1)]
set_option maxRecDepth 100000 in
theorem kX10_divide_ok : ∀ q ∈ kX10_divide, decode cX10_divide q.1 = .ok (q.2.1, q.2.2) := by decide +kernel
def kX10_layRoot : List (Nat × Instr × Nat) := [(0, .aload_n 0, 1), (1, .aload_n 0, 1), (2, .getfield 107, 3), (5, .aload_n 0, 1), (6, .getfield 119, 3), (9, .iconst 1, 1), (10, .isub, 1), (11, .imul, 1), (12, .putfield 166, 3), (15, .aload_n 0, 1), (16, .iconst 0, 1), (17, .putfield 169, 3), (20, .iconst 1, 1), (21, .istore_n 1, 1), (22, .iload_n 1, 1), (23, .aload_n 0, 1), (24, .getfield 166, 3), (27, .if_icmp .gt 176, 3), (30, .aload_n 0, 1), (31, .getfield 166, 3), (34, .iload_n 1, 1), (35, .irem, 1), (36, .ifCond .eq 6, 3), (39, .goto 158, 3), (42, .iconst 0, 1), (43, .istore_n 2, 1), (44, .iload_n 2, 1), (45, .aload_n 0, 1), (46, .getfield 38, 3), (49, .arraylength, 1), (50, .if_icmp .ge 16, 3), (53, .aload_n 0, 1), (54, .getfield 38, 3), (57, .iload_n 2, 1), (58, .lconst 0, 1), (59, .lastore, 1), (60, .iinc 2 1, 3), (63, .goto (-19), 3), (66, .aload_n 0, 1), (67, .getfield 38, 3), (70, .iconst 0, 1), (71, .ldc2_w 172, 3), (74, .lastore, 1), (75, .aload_n 0, 1), (76, .getfield 38, 3), (79, .iload_n 1, 1), (80, .lconst 1, 1), (81, .lastore, 1), (82, .iload_n 1, 1), (83, .istore_n 2, 1), (84, .iconst 0, 1), (85, .istore_n 3, 1), (86, .iload_n 3, 1), (87, .aload_n 0, 1), (88, .getfield 169, 3), (91, .if_icmp .ge 42, 3), (94, .iload_n 1, 1), (95, .aload_n 0, 1), (96, .getfield 51, 3), (99, .iload_n 3, 1), (100, .iaload, 1), (101, .irem, 1), (102, .ifCond .eq 6, 3), (105, .goto 22, 3), (108, .aload_n 0, 1), (109, .aload_n 0, 1), (110, .getfield 38, 3), (113, .iload_n 2, 1), (114, .iload_n 3, 1), (115, .invokevirtual 174, 3), (118, .iload_n 2, 1), (119, .aload_n 0, 1), (120, .getfield 54, 3), (123, .iload_n 3, 1), (124, .iaload, 1), (125, .isub, 1), (126, .istore_n 2, 1), (127, .iinc 3 1, 3), (130, .goto (-44), 3), (133, .aload_n 0, 1), (134, .getfield 51, 3), (137, .aload_n 0, 1), (138, .getfield 169, 3), (141, .iload_n 1, 1), (142, .iastore, 1), (143, .aload_n 0, 1), (144, .getfield 54, 3), (147, .aload_n 0, 1), (148, .getfield 169, 3), (151, .iload_n 2, 1), (152, .iastore, 1), (153, .iconst 0, 1), (154, .istore_n 3, 1), (155, .iload_n 3, 1), (156, .iload_n 2, 1), (157, .if_icmp .gt 30, 3), (160, .aload_n 0, 1), (161, .getfield 48, 3), (164, .sipush 512, 3), (167, .aload_n 0, 1), (168, .getfield 169, 3), (171, .imul, 1), (172, .iload_n 3, 1), (173, .iadd, 1), (174, .aload_n 0, 1), (175, .getfield 38, 3), (178, .iload_n 3, 1), (179, .laload, 1), (180, .lastore, 1), (181, .iinc 3 1, 3), (184, .goto (-29), 3), (187, .aload_n 0, 1), (188, .dup, 1), (189, .getfield 169, 3), (192, .iconst 1, 1), (193, .iadd, 1), (194, .putfield 169, 3), (197, .iinc 1 1, 3), (200, .goto (-178), 3), (203, .aload_n 0, 1), (204, .aload_n 0, 1), (205, .getfield 54, 3), (208, .aload_n 0, 1), (209, .getfield 169, 3), (212, .iconst 1, 1), (213, .isub, 1), (214, .iaload, 1), (215, .putfield 178, 3), (218, .iconst 0, 1), (219, .istore_n 1, 1), (220, .iload_n 1, 1), (221, .aload_n 0, 1), (222, .getfield 178, 3), (225, .if_icmp .gt 32, 3), (228, .aload_n 0, 1), (229, .getfield 34, 3), (232, .iload_n 1, 1), (233, .aload_n 0, 1), (234, .getfield 48, 3), (237, .sipush 512, 3), (240, .aload_n 0, 1), (241, .getfield 169, 3), (244, .iconst 1, 1), (245, .isub, 1), (246, .imul, 1), (247, .iload_n 1, 1), (248, .iadd, 1), (249, .laload, 1), (250, .lastore, 1), (251, .iinc 1 1, 3), (254, .goto (-34), 3), (257, .return_, 1)]
set_option maxRecDepth 100000 in
theorem kX10_layRoot_ok : ∀ q ∈ kX10_layRoot, decode cX10_layRoot q.1 = .ok (q.2.1, q.2.2) := by decide +kernel
def kX10_isMoving : List (Nat × Instr × Nat) := [(0, .iload_n 1, 1), (1, .i2l, 1), (2, .lconst 0, 1), (3, .aload_n 0, 1), (4, .getfield 166, 3), (7, .iconst 1, 1), (8, .isub, 1), (9, .i2l, 1), (10, .invokestatic 162, 3), (13, .ifCond .eq 19, 3), (16, .iload_n 1, 1), (17, .aload_n 0, 1), (18, .getfield 166, 3), (21, .invokestatic 181, 3), (24, .iconst 1, 1), (25, .if_icmp .ne 7, 3), (28, .iconst 1, 1), (29, .goto 4, 3), (32, .iconst 0, 1), (33, .ireturn, 1)]
set_option maxRecDepth 100000 in
theorem kX10_isMoving_ok : ∀ q ∈ kX10_isMoving, decode cX10_isMoving q.1 = .ok (q.2.1, q.2.2) := by decide +kernel
def kX10_cell : List (Nat × Instr × Nat) := [(0, .sipush 256, 3), (3, .iload_n 0, 1), (4, .imul, 1), (5, .iload_n 1, 1), (6, .iadd, 1), (7, .ireturn, 1)]
set_option maxRecDepth 100000 in
theorem kX10_cell_ok : ∀ q ∈ kX10_cell, decode cX10_cell q.1 = .ok (q.2.1, q.2.2) := by decide +kernel
def kX10_clear : List (Nat × Instr × Nat) := [(0, .iconst 0, 1), (1, .istore_n 2, 1), (2, .iload_n 2, 1), (3, .sipush 256, 3), (6, .if_icmp .ge 20, 3), (9, .aload_n 0, 1), (10, .getfield 57, 3), (13, .iload_n 1, 1), (14, .iload_n 2, 1), (15, .invokestatic 184, 3), (18, .lconst 0, 1), (19, .lastore, 1), (20, .iinc 2 1, 3), (23, .goto (-21), 3), (26, .return_, 1)]
set_option maxRecDepth 100000 in
theorem kX10_clear_ok : ∀ q ∈ kX10_clear, decode cX10_clear q.1 = .ok (q.2.1, q.2.2) := by decide +kernel
def kX10_copy : List (Nat × Instr × Nat) := [(0, .iconst 0, 1), (1, .istore_n 3, 1), (2, .iload_n 3, 1), (3, .sipush 256, 3), (6, .if_icmp .ge 29, 3), (9, .aload_n 0, 1), (10, .getfield 57, 3), (13, .iload_n 1, 1), (14, .iload_n 3, 1), (15, .invokestatic 184, 3), (18, .aload_n 0, 1), (19, .getfield 57, 3), (22, .iload_n 2, 1), (23, .iload_n 3, 1), (24, .invokestatic 184, 3), (27, .laload, 1), (28, .lastore, 1), (29, .iinc 3 1, 3), (32, .goto (-30), 3), (35, .return_, 1)]
set_option maxRecDepth 100000 in
theorem kX10_copy_ok : ∀ q ∈ kX10_copy, decode cX10_copy q.1 = .ok (q.2.1, q.2.2) := by decide +kernel
def kX10_forget : List (Nat × Instr × Nat) := [(0, .iconst 0, 1), (1, .istore_n 1, 1), (2, .iload_n 1, 1), (3, .sipush 512, 3), (6, .if_icmp .ge 16, 3), (9, .aload_n 0, 1), (10, .getfield 60, 3), (13, .iload_n 1, 1), (14, .lconst 0, 1), (15, .lastore, 1), (16, .iinc 1 1, 3), (19, .goto (-17), 3), (22, .return_, 1)]
set_option maxRecDepth 100000 in
theorem kX10_forget_ok : ∀ q ∈ kX10_forget, decode cX10_forget q.1 = .ok (q.2.1, q.2.2) := by decide +kernel
def kX10_counts : List (Nat × Instr × Nat) := [(0, .lload_n 1, 1), (1, .aload_n 0, 1), (2, .getfield 166, 3), (5, .i2l, 1), (6, .lrem, 1), (7, .l2i, 1), (8, .istore 5, 2), (10, .aload_n 0, 1), (11, .getfield 60, 3), (14, .iload 5, 2), (16, .dup2, 1), (17, .laload, 1), (18, .lload_n 3, 1), (19, .ladd, 1), (20, .lastore, 1), (21, .return_, 1)]
set_option maxRecDepth 100000 in
theorem kX10_counts_ok : ∀ q ∈ kX10_counts, decode cX10_counts q.1 = .ok (q.2.1, q.2.2) := by decide +kernel
def kX10_take : List (Nat × Instr × Nat) := [(0, .iconst 0, 1), (1, .istore_n 2, 1), (2, .iload_n 2, 1), (3, .aload_n 0, 1), (4, .getfield 166, 3), (7, .if_icmp .ge 21, 3), (10, .aload_n 0, 1), (11, .getfield 41, 3), (14, .iload_n 2, 1), (15, .aload_n 0, 1), (16, .getfield 60, 3), (19, .iload_n 2, 1), (20, .laload, 1), (21, .lastore, 1), (22, .iinc 2 1, 3), (25, .goto (-23), 3), (28, .aload_n 0, 1), (29, .getfield 166, 3), (32, .iconst 1, 1), (33, .isub, 1), (34, .istore_n 2, 1), (35, .iload_n 2, 1), (36, .aload_n 0, 1), (37, .getfield 178, 3), (40, .if_icmp .lt 69, 3), (43, .aload_n 0, 1), (44, .getfield 41, 3), (47, .iload_n 2, 1), (48, .laload, 1), (49, .lstore_n 3, 1), (50, .lload_n 3, 1), (51, .lconst 0, 1), (52, .lcmp, 1), (53, .ifCond .ne 6, 3), (56, .goto 47, 3), (59, .iconst 0, 1), (60, .istore 5, 2), (62, .iload 5, 2), (64, .aload_n 0, 1), (65, .getfield 178, 3), (68, .if_icmp .gt 35, 3), (71, .aload_n 0, 1), (72, .getfield 41, 3), (75, .iload_n 2, 1), (76, .aload_n 0, 1), (77, .getfield 178, 3), (80, .isub, 1), (81, .iload 5, 2), (83, .iadd, 1), (84, .dup2, 1), (85, .laload, 1), (86, .lload_n 3, 1), (87, .aload_n 0, 1), (88, .getfield 34, 3), (91, .iload 5, 2), (93, .laload, 1), (94, .lmul, 1), (95, .lsub, 1), (96, .lastore, 1), (97, .iinc 5 1, 3), (100, .goto (-38), 3), (103, .iinc 2 (-1), 3), (106, .goto (-71), 3), (109, .iconst 1, 1), (110, .istore_n 2, 1), (111, .aload_n 0, 1), (112, .iload_n 1, 1), (113, .invokevirtual 155, 3), (116, .iconst 0, 1), (117, .istore_n 3, 1), (118, .iload_n 3, 1), (119, .aload_n 0, 1), (120, .getfield 178, 3), (123, .if_icmp .ge 53, 3), (126, .aload_n 0, 1), (127, .getfield 57, 3), (130, .iload_n 1, 1), (131, .iload_n 3, 1), (132, .invokestatic 184, 3), (135, .aload_n 0, 1), (136, .getfield 41, 3), (139, .iload_n 3, 1), (140, .laload, 1), (141, .lastore, 1), (142, .iload_n 2, 1), (143, .ifCond .eq 25, 3), (146, .aload_n 0, 1), (147, .getfield 41, 3), (150, .iload_n 3, 1), (151, .laload, 1), (152, .ldc2_w 187, 3), (155, .ldc2_w 189, 3), (158, .invokestatic 162, 3), (161, .ifCond .eq 7, 3), (164, .iconst 1, 1), (165, .goto 4, 3), (168, .iconst 0, 1), (169, .istore_n 2, 1), (170, .iinc 3 1, 3), (173, .goto (-55), 3), (176, .iload_n 2, 1), (177, .ireturn, 1)]
set_option maxRecDepth 100000 in
theorem kX10_take_ok : ∀ q ∈ kX10_take, decode cX10_take q.1 = .ok (q.2.1, q.2.2) := by decide +kernel
def kX10_filled : List (Nat × Instr × Nat) := [(0, .iconst 0, 1), (1, .istore_n 2, 1), (2, .iconst 0, 1), (3, .istore_n 3, 1), (4, .iload_n 3, 1), (5, .aload_n 0, 1), (6, .getfield 178, 3), (9, .if_icmp .ge 32, 3), (12, .iload_n 2, 1), (13, .aload_n 0, 1), (14, .getfield 57, 3), (17, .iload_n 1, 1), (18, .iload_n 3, 1), (19, .invokestatic 184, 3), (22, .laload, 1), (23, .lconst 0, 1), (24, .lcmp, 1), (25, .ifCond .eq 7, 3), (28, .iconst 1, 1), (29, .goto 4, 3), (32, .iconst 0, 1), (33, .iadd, 1), (34, .istore_n 2, 1), (35, .iinc 3 1, 3), (38, .goto (-34), 3), (41, .iload_n 2, 1), (42, .ireturn, 1)]
set_option maxRecDepth 100000 in
theorem kX10_filled_ok : ∀ q ∈ kX10_filled, decode cX10_filled q.1 = .ok (q.2.1, q.2.2) := by decide +kernel
def kX10_isSame : List (Nat × Instr × Nat) := [(0, .iconst 0, 1), (1, .istore_n 3, 1), (2, .iload_n 3, 1), (3, .aload_n 0, 1), (4, .getfield 178, 3), (7, .if_icmp .ge 35, 3), (10, .aload_n 0, 1), (11, .getfield 57, 3), (14, .iload_n 1, 1), (15, .iload_n 3, 1), (16, .invokestatic 184, 3), (19, .laload, 1), (20, .aload_n 0, 1), (21, .getfield 57, 3), (24, .iload_n 2, 1), (25, .iload_n 3, 1), (26, .invokestatic 184, 3), (29, .laload, 1), (30, .lcmp, 1), (31, .ifCond .eq 5, 3), (34, .iconst 0, 1), (35, .ireturn, 1), (36, .iinc 3 1, 3), (39, .goto (-37), 3), (42, .iconst 1, 1), (43, .ireturn, 1)]
set_option maxRecDepth 100000 in
theorem kX10_isSame_ok : ∀ q ∈ kX10_isSame, decode cX10_isSame q.1 = .ok (q.2.1, q.2.2) := by decide +kernel
def kX10_sum : List (Nat × Instr × Nat) := [(0, .aload_n 0, 1), (1, .invokevirtual 191, 3), (4, .iconst 0, 1), (5, .istore 6, 2), (7, .iload 6, 2), (9, .aload_n 0, 1), (10, .getfield 178, 3), (13, .if_icmp .ge 42, 3), (16, .aload_n 0, 1), (17, .getfield 60, 3), (20, .iload 6, 2), (22, .aload_n 0, 1), (23, .getfield 57, 3), (26, .iload_n 2, 1), (27, .iload 6, 2), (29, .invokestatic 184, 3), (32, .laload, 1), (33, .lload 4, 2), (35, .aload_n 0, 1), (36, .getfield 57, 3), (39, .iload_n 3, 1), (40, .iload 6, 2), (42, .invokestatic 184, 3), (45, .laload, 1), (46, .lmul, 1), (47, .ladd, 1), (48, .lastore, 1), (49, .iinc 6 1, 3), (52, .goto (-45), 3), (55, .aload_n 0, 1), (56, .iload_n 1, 1), (57, .invokevirtual 194, 3), (60, .ireturn, 1)]
set_option maxRecDepth 100000 in
theorem kX10_sum_ok : ∀ q ∈ kX10_sum, decode cX10_sum q.1 = .ok (q.2.1, q.2.2) := by decide +kernel
def kX10_product : List (Nat × Instr × Nat) := [(0, .aload_n 0, 1), (1, .invokevirtual 191, 3), (4, .iconst 0, 1), (5, .istore 4, 2), (7, .iload 4, 2), (9, .aload_n 0, 1), (10, .getfield 178, 3), (13, .if_icmp .ge 75, 3), (16, .aload_n 0, 1), (17, .getfield 57, 3), (20, .iload_n 2, 1), (21, .iload 4, 2), (23, .invokestatic 184, 3), (26, .laload, 1), (27, .lstore 5, 2), (29, .lload 5, 2), (31, .lconst 0, 1), (32, .lcmp, 1), (33, .ifCond .ne 6, 3), (36, .goto 46, 3), (39, .iconst 0, 1), (40, .istore 7, 2), (42, .iload 7, 2), (44, .aload_n 0, 1), (45, .getfield 178, 3), (48, .if_icmp .ge 34, 3), (51, .aload_n 0, 1), (52, .iload 4, 2), (54, .i2l, 1), (55, .iload 7, 2), (57, .i2l, 1), (58, .ladd, 1), (59, .lload 5, 2), (61, .aload_n 0, 1), (62, .getfield 57, 3), (65, .iload_n 3, 1), (66, .iload 7, 2), (68, .invokestatic 184, 3), (71, .laload, 1), (72, .lmul, 1), (73, .invokevirtual 197, 3), (76, .iinc 7 1, 3), (79, .goto (-37), 3), (82, .iinc 4 1, 3), (85, .goto (-78), 3), (88, .aload_n 0, 1), (89, .iload_n 1, 1), (90, .invokevirtual 194, 3), (93, .ireturn, 1)]
set_option maxRecDepth 100000 in
theorem kX10_product_ok : ∀ q ∈ kX10_product, decode cX10_product q.1 = .ok (q.2.1, q.2.2) := by decide +kernel
def kX10_move : List (Nat × Instr × Nat) := [(0, .aload_n 0, 1), (1, .invokevirtual 191, 3), (4, .iconst 0, 1), (5, .istore 4, 2), (7, .iload 4, 2), (9, .aload_n 0, 1), (10, .getfield 178, 3), (13, .if_icmp .ge 30, 3), (16, .aload_n 0, 1), (17, .iload 4, 2), (19, .i2l, 1), (20, .iload_n 3, 1), (21, .i2l, 1), (22, .lmul, 1), (23, .aload_n 0, 1), (24, .getfield 57, 3), (27, .iload_n 2, 1), (28, .iload 4, 2), (30, .invokestatic 184, 3), (33, .laload, 1), (34, .invokevirtual 197, 3), (37, .iinc 4 1, 3), (40, .goto (-33), 3), (43, .aload_n 0, 1), (44, .iload_n 1, 1), (45, .invokevirtual 194, 3), (48, .ireturn, 1)]
set_option maxRecDepth 100000 in
theorem kX10_move_ok : ∀ q ∈ kX10_move, decode cX10_move q.1 = .ok (q.2.1, q.2.2) := by decide +kernel
def kX10_whole : List (Nat × Instr × Nat) := [(0, .aload_n 0, 1), (1, .invokevirtual 191, 3), (4, .aload_n 0, 1), (5, .getfield 60, 3), (8, .iconst 0, 1), (9, .lload_n 2, 1), (10, .lastore, 1), (11, .aload_n 0, 1), (12, .iload_n 1, 1), (13, .invokevirtual 194, 3), (16, .ireturn, 1)]
set_option maxRecDepth 100000 in
theorem kX10_whole_ok : ∀ q ∈ kX10_whole, decode cX10_whole q.1 = .ok (q.2.1, q.2.2) := by decide +kernel
def kX10_characterOf : List (Nat × Instr × Nat) := [(0, .iload_n 2, 1), (1, .ifCond .ne 13, 3), (4, .iload_n 1, 1), (5, .ifCond .ne 7, 3), (8, .iconst 0, 1), (9, .goto 4, 3), (12, .iconst (-1), 1), (13, .ireturn, 1), (14, .aload_n 0, 1), (15, .getfield 107, 3), (18, .i2l, 1), (19, .aload_n 0, 1), (20, .getfield 22, 3), (23, .iload_n 2, 1), (24, .iaload, 1), (25, .i2l, 1), (26, .lmul, 1), (27, .iload_n 1, 1), (28, .i2l, 1), (29, .lmul, 1), (30, .aload_n 0, 1), (31, .getfield 166, 3), (34, .i2l, 1), (35, .lrem, 1), (36, .l2i, 1), (37, .ireturn, 1)]
set_option maxRecDepth 100000 in
theorem kX10_characterOf_ok : ∀ q ∈ kX10_characterOf, decode cX10_characterOf q.1 = .ok (q.2.1, q.2.2) := by decide +kernel
def kX10_waveOf : List (Nat × Instr × Nat) := [(0, .aload_n 0, 1), (1, .getfield 119, 3), (4, .iconst 1, 1), (5, .isub, 1), (6, .aload_n 0, 1), (7, .getfield 28, 3), (10, .iload_n 1, 1), (11, .iaload, 1), (12, .imul, 1), (13, .aload_n 0, 1), (14, .getfield 166, 3), (17, .irem, 1), (18, .ireturn, 1)]
set_option maxRecDepth 100000 in
theorem kX10_waveOf_ok : ∀ q ∈ kX10_waveOf, decode cX10_waveOf q.1 = .ok (q.2.1, q.2.2) := by decide +kernel
def kX10_gauss : List (Nat × Instr × Nat) := [(0, .aload_n 0, 1), (1, .invokevirtual 191, 3), (4, .iconst 0, 1), (5, .istore 4, 2), (7, .iload 4, 2), (9, .aload_n 0, 1), (10, .getfield 119, 3), (13, .if_icmp .ge 44, 3), (16, .aload_n 0, 1), (17, .iload_n 2, 1), (18, .iload 4, 2), (20, .invokevirtual 200, 3), (23, .istore 5, 2), (25, .iload 5, 2), (27, .iconst (-1), 1), (28, .if_icmp .eq 23, 3), (31, .aload_n 0, 1), (32, .iload 5, 2), (34, .aload_n 0, 1), (35, .aload_n 0, 1), (36, .iload_n 3, 1), (37, .iload 4, 2), (39, .invokevirtual 126, 3), (42, .invokevirtual 203, 3), (45, .iadd, 1), (46, .i2l, 1), (47, .lconst 1, 1), (48, .invokevirtual 197, 3), (51, .iinc 4 1, 3), (54, .goto (-47), 3), (57, .aload_n 0, 1), (58, .iload_n 1, 1), (59, .invokevirtual 194, 3), (62, .ireturn, 1)]
set_option maxRecDepth 100000 in
theorem kX10_gauss_ok : ∀ q ∈ kX10_gauss, decode cX10_gauss q.1 = .ok (q.2.1, q.2.2) := by decide +kernel
def kX10_jacobi : List (Nat × Instr × Nat) := [(0, .aload_n 0, 1), (1, .invokevirtual 191, 3), (4, .iconst 0, 1), (5, .istore 5, 2), (7, .iload 5, 2), (9, .aload_n 0, 1), (10, .getfield 119, 3), (13, .if_icmp .ge 61, 3), (16, .aload_n 0, 1), (17, .iload_n 2, 1), (18, .iload 5, 2), (20, .invokevirtual 200, 3), (23, .istore 6, 2), (25, .aload_n 0, 1), (26, .iload_n 3, 1), (27, .aload_n 0, 1), (28, .iload 4, 2), (30, .aload_n 0, 1), (31, .getfield 19, 3), (34, .iload 5, 2), (36, .iaload, 1), (37, .invokevirtual 139, 3), (40, .invokevirtual 200, 3), (43, .istore 7, 2), (45, .iload 6, 2), (47, .iconst (-1), 1), (48, .if_icmp .eq 20, 3), (51, .iload 7, 2), (53, .iconst (-1), 1), (54, .if_icmp .eq 14, 3), (57, .aload_n 0, 1), (58, .iload 6, 2), (60, .iload 7, 2), (62, .iadd, 1), (63, .i2l, 1), (64, .lconst 1, 1), (65, .invokevirtual 197, 3), (68, .iinc 5 1, 3), (71, .goto (-64), 3), (74, .aload_n 0, 1), (75, .iload_n 1, 1), (76, .invokevirtual 194, 3), (79, .ireturn, 1)]
set_option maxRecDepth 100000 in
theorem kX10_jacobi_ok : ∀ q ∈ kX10_jacobi, decode cX10_jacobi q.1 = .ok (q.2.1, q.2.2) := by decide +kernel
def kX10_kloosterman : List (Nat × Instr × Nat) := [(0, .aload_n 0, 1), (1, .invokevirtual 191, 3), (4, .iconst 1, 1), (5, .istore 4, 2), (7, .iload 4, 2), (9, .aload_n 0, 1), (10, .getfield 119, 3), (13, .if_icmp .ge 37, 3), (16, .aload_n 0, 1), (17, .aload_n 0, 1), (18, .aload_n 0, 1), (19, .aload_n 0, 1), (20, .iload_n 2, 1), (21, .iload 4, 2), (23, .invokevirtual 126, 3), (26, .aload_n 0, 1), (27, .iload_n 3, 1), (28, .iload 4, 2), (30, .invokevirtual 206, 3), (33, .invokevirtual 139, 3), (36, .invokevirtual 203, 3), (39, .i2l, 1), (40, .lconst 1, 1), (41, .invokevirtual 197, 3), (44, .iinc 4 1, 3), (47, .goto (-40), 3), (50, .aload_n 0, 1), (51, .iload_n 1, 1), (52, .invokevirtual 194, 3), (55, .ireturn, 1)]
set_option maxRecDepth 100000 in
theorem kX10_kloosterman_ok : ∀ q ∈ kX10_kloosterman, decode cX10_kloosterman q.1 = .ok (q.2.1, q.2.2) := by decide +kernel
def kX10_isClass : List (Nat × Instr × Nat) := [(0, .iload_n 1, 1), (1, .ifCond .le 31, 3), (4, .aload_n 0, 1), (5, .getfield 119, 3), (8, .iconst 1, 1), (9, .isub, 1), (10, .iload_n 1, 1), (11, .irem, 1), (12, .ifCond .ne 20, 3), (15, .iload_n 2, 1), (16, .i2l, 1), (17, .lconst 0, 1), (18, .iload_n 1, 1), (19, .iconst 1, 1), (20, .isub, 1), (21, .i2l, 1), (22, .invokestatic 162, 3), (25, .ifCond .eq 7, 3), (28, .iconst 1, 1), (29, .goto 4, 3), (32, .iconst 0, 1), (33, .ireturn, 1)]
set_option maxRecDepth 100000 in
theorem kX10_isClass_ok : ∀ q ∈ kX10_isClass, decode cX10_isClass q.1 = .ok (q.2.1, q.2.2) := by decide +kernel
def kX10_period : List (Nat × Instr × Nat) := [(0, .aload_n 0, 1), (1, .invokevirtual 191, 3), (4, .iconst 1, 1), (5, .istore 4, 2), (7, .iload 4, 2), (9, .aload_n 0, 1), (10, .getfield 119, 3), (13, .if_icmp .ge 34, 3), (16, .aload_n 0, 1), (17, .getfield 22, 3), (20, .iload 4, 2), (22, .iaload, 1), (23, .iload_n 2, 1), (24, .irem, 1), (25, .iload_n 3, 1), (26, .if_icmp .ne 15, 3), (29, .aload_n 0, 1), (30, .aload_n 0, 1), (31, .iload 4, 2), (33, .invokevirtual 203, 3), (36, .i2l, 1), (37, .lconst 1, 1), (38, .invokevirtual 197, 3), (41, .iinc 4 1, 3), (44, .goto (-37), 3), (47, .aload_n 0, 1), (48, .iload_n 1, 1), (49, .invokevirtual 194, 3), (52, .ireturn, 1)]
set_option maxRecDepth 100000 in
theorem kX10_period_ok : ∀ q ∈ kX10_period, decode cX10_period q.1 = .ok (q.2.1, q.2.2) := by decide +kernel
def kX10_spectrum : List (Nat × Instr × Nat) := [(0, .aload_n 0, 1), (1, .invokevirtual 191, 3), (4, .iconst 0, 1), (5, .istore_n 3, 1), (6, .iload_n 3, 1), (7, .aload_n 0, 1), (8, .getfield 119, 3), (11, .if_icmp .ge 31, 3), (14, .aload_n 0, 1), (15, .aload_n 0, 1), (16, .aload_n 0, 1), (17, .iload_n 2, 1), (18, .iload_n 3, 1), (19, .invokevirtual 126, 3), (22, .invokevirtual 203, 3), (25, .i2l, 1), (26, .aload_n 0, 1), (27, .getfield 63, 3), (30, .iload_n 3, 1), (31, .iaload, 1), (32, .i2l, 1), (33, .invokevirtual 197, 3), (36, .iinc 3 1, 3), (39, .goto (-33), 3), (42, .aload_n 0, 1), (43, .iload_n 1, 1), (44, .invokevirtual 194, 3), (47, .ireturn, 1)]
set_option maxRecDepth 100000 in
theorem kX10_spectrum_ok : ∀ q ∈ kX10_spectrum, decode cX10_spectrum q.1 = .ok (q.2.1, q.2.2) := by decide +kernel
def kX10_mellin : List (Nat × Instr × Nat) := [(0, .aload_n 0, 1), (1, .invokevirtual 191, 3), (4, .iconst 0, 1), (5, .istore_n 3, 1), (6, .iload_n 3, 1), (7, .aload_n 0, 1), (8, .getfield 119, 3), (11, .if_icmp .ge 37, 3), (14, .aload_n 0, 1), (15, .iload_n 2, 1), (16, .iload_n 3, 1), (17, .invokevirtual 200, 3), (20, .istore 4, 2), (22, .iload 4, 2), (24, .iconst (-1), 1), (25, .if_icmp .eq 17, 3), (28, .aload_n 0, 1), (29, .iload 4, 2), (31, .i2l, 1), (32, .aload_n 0, 1), (33, .getfield 63, 3), (36, .iload_n 3, 1), (37, .iaload, 1), (38, .i2l, 1), (39, .invokevirtual 197, 3), (42, .iinc 3 1, 3), (45, .goto (-39), 3), (48, .aload_n 0, 1), (49, .iload_n 1, 1), (50, .invokevirtual 194, 3), (53, .ireturn, 1)]
set_option maxRecDepth 100000 in
theorem kX10_mellin_ok : ∀ q ∈ kX10_mellin, decode cX10_mellin q.1 = .ok (q.2.1, q.2.2) := by decide +kernel
def kX10_movings : List (Nat × Instr × Nat) := [(0, .aload_n 0, 1), (1, .invokevirtual 191, 3), (4, .iconst 0, 1), (5, .istore_n 3, 1), (6, .iload_n 3, 1), (7, .aload_n 0, 1), (8, .getfield 166, 3), (11, .if_icmp .ge 27, 3), (14, .aload_n 0, 1), (15, .iload_n 3, 1), (16, .invokevirtual 209, 3), (19, .ifCond .eq 13, 3), (22, .aload_n 0, 1), (23, .iload_n 3, 1), (24, .i2l, 1), (25, .iload_n 2, 1), (26, .i2l, 1), (27, .lmul, 1), (28, .lconst 1, 1), (29, .invokevirtual 197, 3), (32, .iinc 3 1, 3), (35, .goto (-29), 3), (38, .aload_n 0, 1), (39, .iload_n 1, 1), (40, .invokevirtual 194, 3), (43, .ireturn, 1)]
set_option maxRecDepth 100000 in
theorem kX10_movings_ok : ∀ q ∈ kX10_movings, decode cX10_movings q.1 = .ok (q.2.1, q.2.2) := by decide +kernel
def kX10_feed : List (Nat × Instr × Nat) := [(0, .aload_n 0, 1), (1, .iconst 0, 1), (2, .putfield 104, 3), (5, .aload_n 0, 1), (6, .getfield 212, 3), (9, .bipush 20, 2), (11, .iadd, 1), (12, .sipush 200, 3), (15, .if_icmp .le 5, 3), (18, .iconst (-1), 1), (19, .ireturn, 1), (20, .iconst 0, 1), (21, .istore 6, 2), (23, .iload 6, 2), (25, .bipush 20, 2), (27, .if_icmp .ge 93, 3), (30, .iload 6, 2), (32, .iconst 4, 1), (33, .if_icmp .ge 7, 3), (36, .iload_n 1, 1), (37, .goto 39, 3), (40, .iload 6, 2), (42, .bipush 8, 2), (44, .if_icmp .ge 7, 3), (47, .iload_n 2, 1), (48, .goto 28, 3), (51, .iload 6, 2), (53, .bipush 12, 2), (55, .if_icmp .ge 7, 3), (58, .iload_n 3, 1), (59, .goto 17, 3), (62, .iload 6, 2), (64, .bipush 16, 2), (66, .if_icmp .ge 8, 3), (69, .iload 4, 2), (71, .goto 5, 3), (74, .iload 5, 2), (76, .istore 7, 2), (78, .aload_n 0, 1), (79, .getfield 66, 3), (82, .aload_n 0, 1), (83, .getfield 212, 3), (86, .iload 7, 2), (88, .bipush 24, 2), (90, .bipush 8, 2), (92, .iload 6, 2), (94, .iconst 4, 1), (95, .irem, 1), (96, .imul, 1), (97, .isub, 1), (98, .ishr, 1), (99, .sipush 255, 3), (102, .iand, 1), (103, .iastore, 1), (104, .aload_n 0, 1), (105, .dup, 1), (106, .getfield 212, 3), (109, .iconst 1, 1), (110, .iadd, 1), (111, .putfield 212, 3), (114, .iinc 6 1, 3), (117, .goto (-94), 3), (120, .aload_n 0, 1), (121, .getfield 212, 3), (124, .ireturn, 1)]
set_option maxRecDepth 100000 in
theorem kX10_feed_ok : ∀ q ∈ kX10_feed, decode cX10_feed q.1 = .ok (q.2.1, q.2.2) := by decide +kernel
def kX10_isFigure : List (Nat × Instr × Nat) := [(0, .iload_n 0, 1), (1, .bipush 48, 2), (3, .if_icmp .lt 13, 3), (6, .iload_n 0, 1), (7, .bipush 57, 2), (9, .if_icmp .gt 7, 3), (12, .iconst 1, 1), (13, .goto 4, 3), (16, .iconst 0, 1), (17, .ireturn, 1)]
set_option maxRecDepth 100000 in
theorem kX10_isFigure_ok : ∀ q ∈ kX10_isFigure, decode cX10_isFigure q.1 = .ok (q.2.1, q.2.2) := by decide +kernel
end
section
def kX10_byteAt : List (Nat × Instr × Nat) := [(0, .iload_n 1, 1), (1, .aload_n 0, 1), (2, .getfield 215, 3), (5, .if_icmp .ge 12, 3), (8, .aload_n 0, 1), (9, .getfield 66, 3), (12, .iload_n 1, 1), (13, .iaload, 1), (14, .goto 4, 3), (17, .iconst (-1), 1), (18, .ireturn, 1)]
set_option maxRecDepth 100000 in
theorem kX10_byteAt_ok : ∀ q ∈ kX10_byteAt, decode cX10_byteAt q.1 = .ok (q.2.1, q.2.2) := by decide +kernel
def kX10_step : List (Nat × Instr × Nat) := [(0, .aload_n 0, 1), (1, .aload_n 0, 1), (2, .getfield 218, 3), (5, .invokevirtual 221, 3), (8, .bipush 32, 2), (10, .if_icmp .eq 16, 3), (13, .aload_n 0, 1), (14, .aload_n 0, 1), (15, .getfield 218, 3), (18, .invokevirtual 221, 3), (21, .bipush 10, 2), (23, .if_icmp .ne 16, 3), (26, .aload_n 0, 1), (27, .dup, 1), (28, .getfield 218, 3), (31, .iconst 1, 1), (32, .iadd, 1), (33, .putfield 218, 3), (36, .goto (-36), 3), (39, .aload_n 0, 1), (40, .aload_n 0, 1), (41, .getfield 218, 3), (44, .putfield 224, 3), (47, .aload_n 0, 1), (48, .aload_n 0, 1), (49, .aload_n 0, 1), (50, .getfield 218, 3), (53, .invokevirtual 221, 3), (56, .putfield 227, 3), (59, .aload_n 0, 1), (60, .getfield 227, 3), (63, .iconst (-1), 1), (64, .if_icmp .ne 4, 3), (67, .return_, 1), (68, .aload_n 0, 1), (69, .getfield 227, 3), (72, .invokestatic 230, 3), (75, .ifCond .ne 14, 3), (78, .aload_n 0, 1), (79, .dup, 1), (80, .getfield 218, 3), (83, .iconst 1, 1), (84, .iadd, 1), (85, .putfield 218, 3), (88, .return_, 1), (89, .aload_n 0, 1), (90, .iconst 0, 1), (91, .putfield 233, 3), (94, .aload_n 0, 1), (95, .aload_n 0, 1), (96, .getfield 218, 3), (99, .invokevirtual 221, 3), (102, .invokestatic 230, 3), (105, .ifCond .eq 45, 3), (108, .aload_n 0, 1), (109, .sipush 10000, 3), (112, .bipush 10, 2), (114, .aload_n 0, 1), (115, .getfield 233, 3), (118, .imul, 1), (119, .aload_n 0, 1), (120, .aload_n 0, 1), (121, .getfield 218, 3), (124, .invokevirtual 221, 3), (127, .iadd, 1), (128, .bipush 48, 2), (130, .isub, 1), (131, .invokestatic 236, 3), (134, .putfield 233, 3), (137, .aload_n 0, 1), (138, .dup, 1), (139, .getfield 218, 3), (142, .iconst 1, 1), (143, .iadd, 1), (144, .putfield 218, 3), (147, .goto (-53), 3), (150, .aload_n 0, 1), (151, .bipush (-3), 2), (153, .putfield 227, 3), (156, .return_, 1)]
set_option maxRecDepth 100000 in
theorem kX10_step_ok : ∀ q ∈ kX10_step, decode cX10_step q.1 = .ok (q.2.1, q.2.2) := by decide +kernel
def kX10_wrong : List (Nat × Instr × Nat) := [(0, .aload_n 0, 1), (1, .getfield 241, 3), (4, .ifCond .eq 4, 3), (7, .return_, 1), (8, .aload_n 0, 1), (9, .iload_n 1, 1), (10, .putfield 241, 3), (13, .aload_n 0, 1), (14, .aload_n 0, 1), (15, .getfield 224, 3), (18, .putfield 244, 3), (21, .return_, 1)]
set_option maxRecDepth 100000 in
theorem kX10_wrong_ok : ∀ q ∈ kX10_wrong, decode cX10_wrong q.1 = .ok (q.2.1, q.2.2) := by decide +kernel
def kX10_pass : List (Nat × Instr × Nat) := [(0, .aload_n 0, 1), (1, .getfield 241, 3), (4, .ifCond .ne 7, 3), (7, .aload_n 0, 1), (8, .invokevirtual 247, 3), (11, .return_, 1)]
set_option maxRecDepth 100000 in
theorem kX10_pass_ok : ∀ q ∈ kX10_pass, decode cX10_pass q.1 = .ok (q.2.1, q.2.2) := by decide +kernel
def kX10_must : List (Nat × Instr × Nat) := [(0, .aload_n 0, 1), (1, .getfield 241, 3), (4, .ifCond .ne 16, 3), (7, .aload_n 0, 1), (8, .getfield 227, 3), (11, .iload_n 1, 1), (12, .if_icmp .eq 8, 3), (15, .aload_n 0, 1), (16, .iconst 1, 1), (17, .invokevirtual 250, 3), (20, .aload_n 0, 1), (21, .invokevirtual 253, 3), (24, .return_, 1)]
set_option maxRecDepth 100000 in
theorem kX10_must_ok : ∀ q ∈ kX10_must, decode cX10_must q.1 = .ok (q.2.1, q.2.2) := by decide +kernel
def kX10_readNumber : List (Nat × Instr × Nat) := [(0, .aload_n 0, 1), (1, .getfield 241, 3), (4, .ifCond .ne 20, 3), (7, .aload_n 0, 1), (8, .getfield 227, 3), (11, .bipush (-3), 2), (13, .if_icmp .eq 11, 3), (16, .aload_n 0, 1), (17, .iconst 1, 1), (18, .invokevirtual 250, 3), (21, .goto 23, 3), (24, .aload_n 0, 1), (25, .getfield 241, 3), (28, .ifCond .ne 16, 3), (31, .aload_n 0, 1), (32, .getfield 233, 3), (35, .iload_n 1, 1), (36, .if_icmp .le 8, 3), (39, .aload_n 0, 1), (40, .iconst 2, 1), (41, .invokevirtual 250, 3), (44, .aload_n 0, 1), (45, .getfield 241, 3), (48, .ifCond .ne 10, 3), (51, .aload_n 0, 1), (52, .getfield 233, 3), (55, .goto 4, 3), (58, .iconst 0, 1), (59, .istore_n 2, 1), (60, .aload_n 0, 1), (61, .invokevirtual 253, 3), (64, .iload_n 2, 1), (65, .ireturn, 1)]
set_option maxRecDepth 100000 in
theorem kX10_readNumber_ok : ∀ q ∈ kX10_readNumber, decode cX10_readNumber q.1 = .ok (q.2.1, q.2.2) := by decide +kernel
def kX10_isGoing : List (Nat × Instr × Nat) := [(0, .aload_n 0, 1), (1, .getfield 256, 3), (4, .ifCond .eq 21, 3), (7, .aload_n 0, 1), (8, .getfield 241, 3), (11, .ifCond .ne 14, 3), (14, .aload_n 0, 1), (15, .getfield 260, 3), (18, .ifCond .ne 7, 3), (21, .iconst 1, 1), (22, .goto 4, 3), (25, .iconst 0, 1), (26, .ireturn, 1)]
set_option maxRecDepth 100000 in
theorem kX10_isGoing_ok : ∀ q ∈ kX10_isGoing, decode cX10_isGoing q.1 = .ok (q.2.1, q.2.2) := by decide +kernel
def kX10_comes : List (Nat × Instr × Nat) := [(0, .iload_n 1, 1), (1, .ifCond .ne 8, 3), (4, .aload_n 0, 1), (5, .iconst 1, 1), (6, .putfield 260, 3), (9, .return_, 1)]
set_option maxRecDepth 100000 in
theorem kX10_comes_ok : ∀ q ∈ kX10_comes, decode cX10_comes q.1 = .ok (q.2.1, q.2.2) := by decide +kernel
def kX10_readRow : List (Nat × Instr × Nat) := [(0, .aload_n 0, 1), (1, .invokevirtual 263, 3), (4, .istore_n 1, 1), (5, .aload_n 0, 1), (6, .getfield 241, 3), (9, .ifCond .ne 89, 3), (12, .aload_n 0, 1), (13, .getfield 227, 3), (16, .bipush 43, 2), (18, .if_icmp .eq 12, 3), (21, .aload_n 0, 1), (22, .getfield 227, 3), (25, .bipush 45, 2), (27, .if_icmp .ne 71, 3), (30, .aload_n 0, 1), (31, .getfield 227, 3), (34, .bipush 43, 2), (36, .if_icmp .ne 7, 3), (39, .lconst 1, 1), (40, .goto 6, 3), (43, .ldc2_w 172, 3), (46, .lstore_n 2, 1), (47, .aload_n 0, 1), (48, .invokevirtual 253, 3), (51, .aload_n 0, 1), (52, .invokevirtual 263, 3), (55, .istore 4, 2), (57, .aload_n 0, 1), (58, .invokevirtual 267, 3), (61, .ifCond .eq 24, 3), (64, .aload_n 0, 1), (65, .aload_n 0, 1), (66, .bipush 32, 2), (68, .iload_n 1, 1), (69, .iload 4, 2), (71, .lload_n 2, 1), (72, .invokevirtual 271, 3), (75, .invokevirtual 275, 3), (78, .aload_n 0, 1), (79, .iload_n 1, 1), (80, .bipush 32, 2), (82, .invokevirtual 279, 3), (85, .aload_n 0, 1), (86, .dup, 1), (87, .getfield 283, 3), (90, .iconst 1, 1), (91, .isub, 1), (92, .putfield 283, 3), (95, .goto (-90), 3), (98, .iload_n 1, 1), (99, .ireturn, 1)]
set_option maxRecDepth 100000 in
theorem kX10_readRow_ok : ∀ q ∈ kX10_readRow, decode cX10_readRow q.1 = .ok (q.2.1, q.2.2) := by decide +kernel
def kX10_readTerm : List (Nat × Instr × Nat) := [(0, .aload_n 0, 1), (1, .invokevirtual 286, 3), (4, .istore_n 1, 1), (5, .aload_n 0, 1), (6, .getfield 241, 3), (9, .ifCond .ne 60, 3), (12, .aload_n 0, 1), (13, .getfield 227, 3), (16, .bipush 42, 2), (18, .if_icmp .ne 51, 3), (21, .aload_n 0, 1), (22, .invokevirtual 253, 3), (25, .aload_n 0, 1), (26, .invokevirtual 286, 3), (29, .istore_n 2, 1), (30, .aload_n 0, 1), (31, .invokevirtual 267, 3), (34, .ifCond .eq 22, 3), (37, .aload_n 0, 1), (38, .aload_n 0, 1), (39, .bipush 32, 2), (41, .iload_n 1, 1), (42, .iload_n 2, 1), (43, .invokevirtual 289, 3), (46, .invokevirtual 275, 3), (49, .aload_n 0, 1), (50, .iload_n 1, 1), (51, .bipush 32, 2), (53, .invokevirtual 279, 3), (56, .aload_n 0, 1), (57, .dup, 1), (58, .getfield 283, 3), (61, .iconst 1, 1), (62, .isub, 1), (63, .putfield 283, 3), (66, .goto (-61), 3), (69, .iload_n 1, 1), (70, .ireturn, 1)]
set_option maxRecDepth 100000 in
theorem kX10_readTerm_ok : ∀ q ∈ kX10_readTerm, decode cX10_readTerm q.1 = .ok (q.2.1, q.2.2) := by decide +kernel
def kX10_readFactor : List (Nat × Instr × Nat) := [(0, .aload_n 0, 1), (1, .invokevirtual 293, 3), (4, .istore_n 1, 1), (5, .aload_n 0, 1), (6, .getfield 241, 3), (9, .ifCond .ne 36, 3), (12, .aload_n 0, 1), (13, .getfield 227, 3), (16, .bipush 94, 2), (18, .if_icmp .ne 27, 3), (21, .aload_n 0, 1), (22, .invokevirtual 253, 3), (25, .aload_n 0, 1), (26, .bipush 20, 2), (28, .invokevirtual 296, 3), (31, .istore_n 2, 1), (32, .aload_n 0, 1), (33, .invokevirtual 267, 3), (36, .ifCond .eq 9, 3), (39, .aload_n 0, 1), (40, .iload_n 1, 1), (41, .iload_n 2, 1), (42, .invokevirtual 299, 3), (45, .iload_n 1, 1), (46, .ireturn, 1)]
set_option maxRecDepth 100000 in
theorem kX10_readFactor_ok : ∀ q ∈ kX10_readFactor, decode cX10_readFactor q.1 = .ok (q.2.1, q.2.2) := by decide +kernel
def kX10_raiseValue : List (Nat × Instr × Nat) := [(0, .iload_n 2, 1), (1, .ifCond .ne 14, 3), (4, .aload_n 0, 1), (5, .aload_n 0, 1), (6, .iload_n 1, 1), (7, .lconst 1, 1), (8, .invokevirtual 302, 3), (11, .invokevirtual 275, 3), (14, .return_, 1), (15, .aload_n 0, 1), (16, .bipush 33, 2), (18, .iload_n 1, 1), (19, .invokevirtual 279, 3), (22, .iconst 1, 1), (23, .istore_n 3, 1), (24, .iload_n 3, 1), (25, .iload_n 2, 1), (26, .if_icmp .ge 36, 3), (29, .aload_n 0, 1), (30, .getfield 260, 3), (33, .ifCond .ne 29, 3), (36, .aload_n 0, 1), (37, .aload_n 0, 1), (38, .bipush 32, 2), (40, .iload_n 1, 1), (41, .bipush 33, 2), (43, .invokevirtual 289, 3), (46, .invokevirtual 275, 3), (49, .aload_n 0, 1), (50, .iload_n 1, 1), (51, .bipush 32, 2), (53, .invokevirtual 279, 3), (56, .iinc 3 1, 3), (59, .goto (-35), 3), (62, .return_, 1)]
set_option maxRecDepth 100000 in
theorem kX10_raiseValue_ok : ∀ q ∈ kX10_raiseValue, decode cX10_raiseValue q.1 = .ok (q.2.1, q.2.2) := by decide +kernel
def kX10_opens : List (Nat × Instr × Nat) := [(0, .aload_n 0, 1), (1, .getfield 306, 3), (4, .bipush 6, 2), (6, .if_icmp .ne 8, 3), (9, .aload_n 0, 1), (10, .iconst 3, 1), (11, .invokevirtual 250, 3), (14, .aload_n 0, 1), (15, .dup, 1), (16, .getfield 306, 3), (19, .iconst 1, 1), (20, .iadd, 1), (21, .putfield 306, 3), (24, .aload_n 0, 1), (25, .invokevirtual 253, 3), (28, .return_, 1)]
set_option maxRecDepth 100000 in
theorem kX10_opens_ok : ∀ q ∈ kX10_opens, decode cX10_opens q.1 = .ok (q.2.1, q.2.2) := by decide +kernel
def kX10_readAtom : List (Nat × Instr × Nat) := [(0, .aload_n 0, 1), (1, .getfield 241, 3), (4, .ifCond .eq 6, 3), (7, .bipush 8, 2), (9, .ireturn, 1), (10, .bipush 8, 2), (12, .aload_n 0, 1), (13, .getfield 283, 3), (16, .iadd, 1), (17, .istore_n 1, 1), (18, .aload_n 0, 1), (19, .getfield 227, 3), (22, .lookupswitch 202 #[(40, 42), (45, 70), (109, 156), (126, 116)], 42), (64, .aload_n 0, 1), (65, .invokevirtual 309, 3), (68, .aload_n 0, 1), (69, .invokevirtual 312, 3), (72, .istore_n 1, 1), (73, .aload_n 0, 1), (74, .bipush 41, 2), (76, .invokevirtual 315, 3), (79, .aload_n 0, 1), (80, .dup, 1), (81, .getfield 306, 3), (84, .iconst 1, 1), (85, .isub, 1), (86, .putfield 306, 3), (89, .goto 150, 3), (92, .aload_n 0, 1), (93, .invokevirtual 309, 3), (96, .aload_n 0, 1), (97, .invokevirtual 293, 3), (100, .istore_n 1, 1), (101, .aload_n 0, 1), (102, .dup, 1), (103, .getfield 306, 3), (106, .iconst 1, 1), (107, .isub, 1), (108, .putfield 306, 3), (111, .aload_n 0, 1), (112, .invokevirtual 267, 3), (115, .ifCond .eq 124, 3), (118, .aload_n 0, 1), (119, .aload_n 0, 1), (120, .iload_n 1, 1), (121, .aload_n 0, 1), (122, .invokevirtual 318, 3), (125, .iload_n 1, 1), (126, .ldc2_w 172, 3), (129, .invokevirtual 271, 3), (132, .invokevirtual 275, 3), (135, .goto 104, 3), (138, .aload_n 0, 1), (139, .invokevirtual 309, 3), (142, .aload_n 0, 1), (143, .invokevirtual 293, 3), (146, .istore_n 1, 1), (147, .aload_n 0, 1), (148, .dup, 1), (149, .getfield 306, 3), (152, .iconst 1, 1), (153, .isub, 1), (154, .putfield 306, 3), (157, .aload_n 0, 1), (158, .invokevirtual 267, 3), (161, .ifCond .eq 78, 3), (164, .aload_n 0, 1), (165, .iload_n 1, 1), (166, .aload_n 0, 1), (167, .getfield 166, 3), (170, .iconst 1, 1), (171, .isub, 1), (172, .invokevirtual 321, 3), (175, .goto 64, 3), (178, .aload_n 0, 1), (179, .invokevirtual 309, 3), (182, .aload_n 0, 1), (183, .invokevirtual 324, 3), (186, .istore_n 2, 1), (187, .aload_n 0, 1), (188, .bipush 46, 2), (190, .invokevirtual 315, 3), (193, .aload_n 0, 1), (194, .invokevirtual 293, 3), (197, .istore_n 1, 1), (198, .aload_n 0, 1), (199, .dup, 1), (200, .getfield 306, 3), (203, .iconst 1, 1), (204, .isub, 1), (205, .putfield 306, 3), (208, .aload_n 0, 1), (209, .invokevirtual 267, 3), (212, .ifCond .eq 27, 3), (215, .aload_n 0, 1), (216, .iload_n 1, 1), (217, .iload_n 2, 1), (218, .invokevirtual 321, 3), (221, .goto 18, 3), (224, .aload_n 0, 1), (225, .dup, 1), (226, .getfield 283, 3), (229, .iconst 1, 1), (230, .iadd, 1), (231, .putfield 283, 3), (234, .aload_n 0, 1), (235, .iload_n 1, 1), (236, .invokevirtual 327, 3), (239, .iload_n 1, 1), (240, .ireturn, 1)]
set_option maxRecDepth 100000 in
theorem kX10_readAtom_ok : ∀ q ∈ kX10_readAtom, decode cX10_readAtom q.1 = .ok (q.2.1, q.2.2) := by decide +kernel
def kX10_zero : List (Nat × Instr × Nat) := [(0, .aload_n 0, 1), (1, .bipush 32, 2), (3, .invokevirtual 155, 3), (6, .bipush 32, 2), (8, .ireturn, 1)]
set_option maxRecDepth 100000 in
theorem kX10_zero_ok : ∀ q ∈ kX10_zero, decode cX10_zero q.1 = .ok (q.2.1, q.2.2) := by decide +kernel
def kX10_moveHere : List (Nat × Instr × Nat) := [(0, .aload_n 0, 1), (1, .aload_n 0, 1), (2, .bipush 32, 2), (4, .iload_n 1, 1), (5, .iload_n 2, 1), (6, .invokevirtual 330, 3), (9, .invokevirtual 275, 3), (12, .aload_n 0, 1), (13, .iload_n 1, 1), (14, .bipush 32, 2), (16, .invokevirtual 279, 3), (19, .return_, 1)]
set_option maxRecDepth 100000 in
theorem kX10_moveHere_ok : ∀ q ∈ kX10_moveHere, decode cX10_moveHere q.1 = .ok (q.2.1, q.2.2) := by decide +kernel
def kX10_readMoving : List (Nat × Instr × Nat) := [(0, .aload_n 0, 1), (1, .getfield 241, 3), (4, .ifCond .ne 28, 3), (7, .aload_n 0, 1), (8, .getfield 227, 3), (11, .bipush (-3), 2), (13, .if_icmp .ne 19, 3), (16, .aload_n 0, 1), (17, .aload_n 0, 1), (18, .getfield 233, 3), (21, .invokevirtual 209, 3), (24, .ifCond .ne 8, 3), (27, .aload_n 0, 1), (28, .iconst 2, 1), (29, .invokevirtual 250, 3), (32, .aload_n 0, 1), (33, .sipush 9999, 3), (36, .invokevirtual 296, 3), (39, .ireturn, 1)]
set_option maxRecDepth 100000 in
theorem kX10_readMoving_ok : ∀ q ∈ kX10_readMoving, decode cX10_readMoving q.1 = .ok (q.2.1, q.2.2) := by decide +kernel
def kX10_readElement : List (Nat × Instr × Nat) := [(0, .aload_n 0, 1), (1, .aload_n 0, 1), (2, .getfield 119, 3), (5, .iconst 1, 1), (6, .isub, 1), (7, .invokevirtual 296, 3), (10, .ireturn, 1)]
set_option maxRecDepth 100000 in
theorem kX10_readElement_ok : ∀ q ∈ kX10_readElement, decode cX10_readElement q.1 = .ok (q.2.1, q.2.2) := by decide +kernel
def kX10_readCharacter : List (Nat × Instr × Nat) := [(0, .aload_n 0, 1), (1, .aload_n 0, 1), (2, .getfield 119, 3), (5, .iconst 2, 1), (6, .isub, 1), (7, .invokevirtual 296, 3), (10, .ireturn, 1)]
set_option maxRecDepth 100000 in
theorem kX10_readCharacter_ok : ∀ q ∈ kX10_readCharacter, decode cX10_readCharacter q.1 = .ok (q.2.1, q.2.2) := by decide +kernel
def kX10_readPlain : List (Nat × Instr × Nat) := [(0, .aload_n 0, 1), (1, .getfield 227, 3), (4, .istore_n 2, 1), (5, .iload_n 2, 1), (6, .bipush (-3), 2), (8, .if_icmp .ne 30, 3), (11, .aload_n 0, 1), (12, .sipush 9999, 3), (15, .invokevirtual 296, 3), (18, .istore_n 3, 1), (19, .aload_n 0, 1), (20, .invokevirtual 267, 3), (23, .ifCond .eq 14, 3), (26, .aload_n 0, 1), (27, .aload_n 0, 1), (28, .iload_n 1, 1), (29, .iload_n 3, 1), (30, .i2l, 1), (31, .invokevirtual 302, 3), (34, .invokevirtual 275, 3), (37, .return_, 1), (38, .iload_n 2, 1), (39, .bipush 122, 2), (41, .if_icmp .eq 33, 3), (44, .iload_n 2, 1), (45, .bipush 103, 2), (47, .if_icmp .eq 27, 3), (50, .iload_n 2, 1), (51, .bipush 106, 2), (53, .if_icmp .eq 21, 3), (56, .iload_n 2, 1), (57, .bipush 107, 2), (59, .if_icmp .eq 15, 3), (62, .iload_n 2, 1), (63, .bipush 112, 2), (65, .if_icmp .eq 9, 3), (68, .iload_n 2, 1), (69, .bipush 35, 2), (71, .if_icmp .ne 7, 3), (74, .iconst 1, 1), (75, .goto 4, 3), (78, .iconst 0, 1), (79, .istore_n 3, 1), (80, .iload_n 3, 1), (81, .ifCond .ne 8, 3), (84, .aload_n 0, 1), (85, .iconst 1, 1), (86, .invokevirtual 250, 3), (89, .aload_n 0, 1), (90, .invokevirtual 253, 3), (93, .iload_n 2, 1), (94, .bipush 122, 2), (96, .if_icmp .ne 11, 3), (99, .aload_n 0, 1), (100, .iload_n 1, 1), (101, .invokevirtual 333, 3), (104, .goto 41, 3), (107, .iload_n 2, 1), (108, .bipush 35, 2), (110, .if_icmp .ne 11, 3), (113, .aload_n 0, 1), (114, .iload_n 1, 1), (115, .invokevirtual 336, 3), (118, .goto 27, 3), (121, .iload_n 2, 1), (122, .bipush 112, 2), (124, .if_icmp .ne 11, 3), (127, .aload_n 0, 1), (128, .iload_n 1, 1), (129, .invokevirtual 339, 3), (132, .goto 13, 3), (135, .iload_n 3, 1), (136, .ifCond .eq 9, 3), (139, .aload_n 0, 1), (140, .iload_n 1, 1), (141, .iload_n 2, 1), (142, .invokevirtual 342, 3), (145, .return_, 1)]
set_option maxRecDepth 100000 in
theorem kX10_readPlain_ok : ∀ q ∈ kX10_readPlain, decode cX10_readPlain q.1 = .ok (q.2.1, q.2.2) := by decide +kernel
def kX10_readRoot : List (Nat × Instr × Nat) := [(0, .aload_n 0, 1), (1, .aload_n 0, 1), (2, .getfield 166, 3), (5, .iconst 1, 1), (6, .isub, 1), (7, .invokevirtual 296, 3), (10, .istore_n 2, 1), (11, .aload_n 0, 1), (12, .invokevirtual 267, 3), (15, .ifCond .ne 4, 3), (18, .return_, 1), (19, .aload_n 0, 1), (20, .invokevirtual 191, 3), (23, .aload_n 0, 1), (24, .iload_n 2, 1), (25, .i2l, 1), (26, .lconst 1, 1), (27, .invokevirtual 197, 3), (30, .aload_n 0, 1), (31, .aload_n 0, 1), (32, .iload_n 1, 1), (33, .invokevirtual 194, 3), (36, .invokevirtual 275, 3), (39, .return_, 1)]
set_option maxRecDepth 100000 in
theorem kX10_readRoot_ok : ∀ q ∈ kX10_readRoot, decode cX10_readRoot q.1 = .ok (q.2.1, q.2.2) := by decide +kernel
def kX10_readPlace : List (Nat × Instr × Nat) := [(0, .aload_n 0, 1), (1, .bipush 7, 2), (3, .invokevirtual 296, 3), (6, .istore_n 2, 1), (7, .aload_n 0, 1), (8, .invokevirtual 267, 3), (11, .ifCond .eq 9, 3), (14, .aload_n 0, 1), (15, .iload_n 1, 1), (16, .iload_n 2, 1), (17, .invokevirtual 279, 3), (20, .return_, 1)]
set_option maxRecDepth 100000 in
theorem kX10_readPlace_ok : ∀ q ∈ kX10_readPlace, decode cX10_readPlace q.1 = .ok (q.2.1, q.2.2) := by decide +kernel
def kX10_readPeriod : List (Nat × Instr × Nat) := [(0, .aload_n 0, 1), (1, .getfield 241, 3), (4, .ifCond .ne 29, 3), (7, .aload_n 0, 1), (8, .getfield 227, 3), (11, .bipush (-3), 2), (13, .if_icmp .ne 20, 3), (16, .aload_n 0, 1), (17, .aload_n 0, 1), (18, .getfield 233, 3), (21, .iconst 0, 1), (22, .invokevirtual 345, 3), (25, .ifCond .ne 8, 3), (28, .aload_n 0, 1), (29, .iconst 2, 1), (30, .invokevirtual 250, 3), (33, .aload_n 0, 1), (34, .sipush 9999, 3), (37, .invokevirtual 296, 3), (40, .istore_n 2, 1), (41, .aload_n 0, 1), (42, .bipush 46, 2), (44, .invokevirtual 315, 3), (47, .aload_n 0, 1), (48, .iload_n 2, 1), (49, .iconst 1, 1), (50, .isub, 1), (51, .invokevirtual 296, 3), (54, .istore_n 3, 1), (55, .aload_n 0, 1), (56, .invokevirtual 267, 3), (59, .ifCond .eq 14, 3), (62, .aload_n 0, 1), (63, .aload_n 0, 1), (64, .iload_n 1, 1), (65, .iload_n 2, 1), (66, .iload_n 3, 1), (67, .invokevirtual 349, 3), (70, .invokevirtual 275, 3), (73, .return_, 1)]
set_option maxRecDepth 100000 in
theorem kX10_readPeriod_ok : ∀ q ∈ kX10_readPeriod, decode cX10_readPeriod q.1 = .ok (q.2.1, q.2.2) := by decide +kernel
def kX10_readSum : List (Nat × Instr × Nat) := [(0, .iload_n 2, 1), (1, .bipush 107, 2), (3, .if_icmp .ne 10, 3), (6, .aload_n 0, 1), (7, .invokevirtual 352, 3), (10, .goto 7, 3), (13, .aload_n 0, 1), (14, .invokevirtual 355, 3), (17, .istore_n 3, 1), (18, .aload_n 0, 1), (19, .bipush 46, 2), (21, .invokevirtual 315, 3), (24, .iload_n 2, 1), (25, .bipush 106, 2), (27, .if_icmp .ne 10, 3), (30, .aload_n 0, 1), (31, .invokevirtual 355, 3), (34, .goto 7, 3), (37, .aload_n 0, 1), (38, .invokevirtual 352, 3), (41, .istore 4, 2), (43, .iconst 0, 1), (44, .istore 5, 2), (46, .iload_n 2, 1), (47, .bipush 106, 2), (49, .if_icmp .ne 15, 3), (52, .aload_n 0, 1), (53, .bipush 46, 2), (55, .invokevirtual 315, 3), (58, .aload_n 0, 1), (59, .invokevirtual 352, 3), (62, .istore 5, 2), (64, .aload_n 0, 1), (65, .invokevirtual 267, 3), (68, .ifCond .ne 4, 3), (71, .return_, 1), (72, .aload_n 0, 1), (73, .iload_n 2, 1), (74, .bipush 103, 2), (76, .if_icmp .ne 14, 3), (79, .aload_n 0, 1), (80, .iload_n 1, 1), (81, .iload_n 3, 1), (82, .iload 4, 2), (84, .invokevirtual 358, 3), (87, .goto 30, 3), (90, .iload_n 2, 1), (91, .bipush 107, 2), (93, .if_icmp .ne 14, 3), (96, .aload_n 0, 1), (97, .iload_n 1, 1), (98, .iload_n 3, 1), (99, .iload 4, 2), (101, .invokevirtual 361, 3), (104, .goto 13, 3), (107, .aload_n 0, 1), (108, .iload_n 1, 1), (109, .iload_n 3, 1), (110, .iload 4, 2), (112, .iload 5, 2), (114, .invokevirtual 364, 3), (117, .invokevirtual 275, 3), (120, .return_, 1)]
set_option maxRecDepth 100000 in
theorem kX10_readSum_ok : ∀ q ∈ kX10_readSum, decode cX10_readSum q.1 = .ok (q.2.1, q.2.2) := by decide +kernel
def kX10_readAll : List (Nat × Instr × Nat) := [(0, .aload_n 0, 1), (1, .iload_n 1, 1), (2, .putfield 215, 3), (5, .aload_n 0, 1), (6, .iconst 0, 1), (7, .putfield 218, 3), (10, .aload_n 0, 1), (11, .iconst 0, 1), (12, .putfield 241, 3), (15, .aload_n 0, 1), (16, .iconst 0, 1), (17, .putfield 306, 3), (20, .aload_n 0, 1), (21, .iconst 0, 1), (22, .putfield 283, 3), (25, .aload_n 0, 1), (26, .iconst 0, 1), (27, .putfield 260, 3), (30, .aload_n 0, 1), (31, .iload_n 2, 1), (32, .putfield 256, 3), (35, .aload_n 0, 1), (36, .invokevirtual 247, 3), (39, .aload_n 0, 1), (40, .invokevirtual 312, 3), (43, .istore_n 3, 1), (44, .aload_n 0, 1), (45, .getfield 241, 3), (48, .ifCond .ne 16, 3), (51, .aload_n 0, 1), (52, .getfield 227, 3), (55, .iconst (-1), 1), (56, .if_icmp .eq 8, 3), (59, .aload_n 0, 1), (60, .iconst 1, 1), (61, .invokevirtual 250, 3), (64, .iload_n 3, 1), (65, .ireturn, 1)]
set_option maxRecDepth 100000 in
theorem kX10_readAll_ok : ∀ q ∈ kX10_readAll, decode cX10_readAll q.1 = .ok (q.2.1, q.2.2) := by decide +kernel
def kX10_isPlace : List (Nat × Instr × Nat) := [(0, .iload_n 0, 1), (1, .i2l, 1), (2, .lconst 0, 1), (3, .ldc2_w 368, 3), (6, .invokestatic 162, 3), (9, .ireturn, 1)]
set_option maxRecDepth 100000 in
theorem kX10_isPlace_ok : ∀ q ∈ kX10_isPlace, decode cX10_isPlace q.1 = .ok (q.2.1, q.2.2) := by decide +kernel
def kX10_tell : List (Nat × Instr × Nat) := [(0, .aload_n 0, 1), (1, .iconst 0, 1), (2, .putfield 104, 3), (5, .iload_n 1, 1), (6, .invokestatic 370, 3), (9, .ifCond .eq 15, 3), (12, .iload_n 2, 1), (13, .ifCond .lt 11, 3), (16, .iload_n 2, 1), (17, .aload_n 0, 1), (18, .getfield 212, 3), (21, .if_icmp .le 9, 3), (24, .aload_n 0, 1), (25, .iconst 1, 1), (26, .invokevirtual 373, 3), (29, .ireturn, 1), (30, .aload_n 0, 1), (31, .iconst 0, 1), (32, .putfield 212, 3), (35, .aload_n 0, 1), (36, .iconst (-1), 1), (37, .putfield 69, 3), (40, .aload_n 0, 1), (41, .iload_n 2, 1), (42, .iconst 0, 1), (43, .invokevirtual 376, 3), (46, .istore_n 3, 1), (47, .aload_n 0, 1), (48, .getfield 241, 3), (51, .ifCond .eq 19, 3), (54, .aload_n 0, 1), (55, .aload_n 0, 1), (56, .getfield 244, 3), (59, .putfield 69, 3), (62, .bipush (-10), 2), (64, .aload_n 0, 1), (65, .getfield 241, 3), (68, .isub, 1), (69, .ireturn, 1), (70, .aload_n 0, 1), (71, .iload_n 2, 1), (72, .iconst 1, 1), (73, .invokevirtual 376, 3), (76, .istore 4, 2), (78, .aload_n 0, 1), (79, .getfield 260, 3), (82, .ifCond .eq 6, 3), (85, .bipush (-2), 2), (87, .ireturn, 1), (88, .aload_n 0, 1), (89, .iload_n 1, 1), (90, .iload 4, 2), (92, .invokevirtual 279, 3), (95, .aload_n 0, 1), (96, .iload_n 1, 1), (97, .invokevirtual 380, 3), (100, .ireturn, 1)]
set_option maxRecDepth 100000 in
theorem kX10_tell_ok : ∀ q ∈ kX10_tell, decode cX10_tell q.1 = .ok (q.2.1, q.2.2) := by decide +kernel
def kX10_fault : List (Nat × Instr × Nat) := [(0, .aload_n 0, 1), (1, .iconst 0, 1), (2, .putfield 104, 3), (5, .aload_n 0, 1), (6, .getfield 69, 3), (9, .ireturn, 1)]
set_option maxRecDepth 100000 in
theorem kX10_fault_ok : ∀ q ∈ kX10_fault, decode cX10_fault q.1 = .ok (q.2.1, q.2.2) := by decide +kernel
def kX10_field : List (Nat × Instr × Nat) := [(0, .aload_n 0, 1), (1, .iconst 0, 1), (2, .putfield 104, 3), (5, .iconst 0, 1), (6, .istore_n 3, 1), (7, .iconst 0, 1), (8, .istore 4, 2), (10, .iload 4, 2), (12, .aload_n 0, 1), (13, .getfield 9, 3), (16, .arraylength, 1), (17, .if_icmp .ge 30, 3), (20, .iload_n 3, 1), (21, .ifCond .ne 14, 3), (24, .aload_n 0, 1), (25, .getfield 9, 3), (28, .iload 4, 2), (30, .iaload, 1), (31, .iload_n 1, 1), (32, .if_icmp .ne 7, 3), (35, .iconst 1, 1), (36, .goto 4, 3), (39, .iconst 0, 1), (40, .istore_n 3, 1), (41, .iinc 4 1, 3), (44, .goto (-34), 3), (47, .iload_n 3, 1), (48, .ifCond .eq 25, 3), (51, .iload_n 2, 1), (52, .i2l, 1), (53, .lconst 1, 1), (54, .ldc2_w 383, 3), (57, .invokestatic 162, 3), (60, .ifCond .eq 13, 3), (63, .iload_n 1, 1), (64, .iload_n 2, 1), (65, .invokestatic 110, 3), (68, .bipush 27, 2), (70, .if_icmp .le 5, 3), (73, .iconst (-1), 1), (74, .ireturn, 1), (75, .aload_n 0, 1), (76, .iload_n 1, 1), (77, .iload_n 2, 1), (78, .invokevirtual 100, 3), (81, .ireturn, 1)]
set_option maxRecDepth 100000 in
theorem kX10_field_ok : ∀ q ∈ kX10_field, decode cX10_field q.1 = .ok (q.2.1, q.2.2) := by decide +kernel
def kX10_count : List (Nat × Instr × Nat) := [(0, .aload_n 0, 1), (1, .iconst 0, 1), (2, .putfield 104, 3), (5, .iload_n 1, 1), (6, .tableswitch 86 0 7 #[46, 51, 56, 61, 66, 71, 76, 81], 46), (52, .aload_n 0, 1), (53, .getfield 107, 3), (56, .ireturn, 1), (57, .aload_n 0, 1), (58, .getfield 113, 3), (61, .ireturn, 1), (62, .aload_n 0, 1), (63, .getfield 119, 3), (66, .ireturn, 1), (67, .aload_n 0, 1), (68, .getfield 166, 3), (71, .ireturn, 1), (72, .aload_n 0, 1), (73, .getfield 178, 3), (76, .ireturn, 1), (77, .aload_n 0, 1), (78, .getfield 142, 3), (81, .ireturn, 1), (82, .aload_n 0, 1), (83, .getfield 129, 3), (86, .ireturn, 1), (87, .aload_n 0, 1), (88, .getfield 212, 3), (91, .ireturn, 1), (92, .aload_n 0, 1), (93, .iconst 1, 1), (94, .invokevirtual 373, 3), (97, .ireturn, 1)]
set_option maxRecDepth 100000 in
theorem kX10_count_ok : ∀ q ∈ kX10_count, decode cX10_count q.1 = .ok (q.2.1, q.2.2) := by decide +kernel
def kX10_element : List (Nat × Instr × Nat) := [(0, .aload_n 0, 1), (1, .iconst 0, 1), (2, .putfield 104, 3), (5, .iload_n 1, 1), (6, .i2l, 1), (7, .lconst 0, 1), (8, .ldc2_w 385, 3), (11, .invokestatic 162, 3), (14, .ifCond .eq 28, 3), (17, .aload_n 0, 1), (18, .iload_n 2, 1), (19, .invokevirtual 387, 3), (22, .ifCond .eq 20, 3), (25, .aload_n 0, 1), (26, .iload_n 3, 1), (27, .invokevirtual 387, 3), (30, .ifCond .eq 12, 3), (33, .iload_n 1, 1), (34, .iconst 3, 1), (35, .if_icmp .ne 13, 3), (38, .iload_n 3, 1), (39, .ifCond .ne 9, 3), (42, .aload_n 0, 1), (43, .iconst 1, 1), (44, .invokevirtual 373, 3), (47, .ireturn, 1), (48, .iload_n 1, 1), (49, .ifCond .ne 12, 3), (52, .aload_n 0, 1), (53, .iload_n 2, 1), (54, .iload_n 3, 1), (55, .invokevirtual 139, 3), (58, .goto 37, 3), (61, .iload_n 1, 1), (62, .iconst 1, 1), (63, .if_icmp .ne 12, 3), (66, .aload_n 0, 1), (67, .iload_n 2, 1), (68, .iload_n 3, 1), (69, .invokevirtual 390, 3), (72, .goto 23, 3), (75, .iload_n 1, 1), (76, .iconst 2, 1), (77, .if_icmp .ne 12, 3), (80, .aload_n 0, 1), (81, .iload_n 2, 1), (82, .iload_n 3, 1), (83, .invokevirtual 126, 3), (86, .goto 9, 3), (89, .aload_n 0, 1), (90, .iload_n 2, 1), (91, .iload_n 3, 1), (92, .invokevirtual 206, 3), (95, .ireturn, 1)]
set_option maxRecDepth 100000 in
theorem kX10_element_ok : ∀ q ∈ kX10_element, decode cX10_element q.1 = .ok (q.2.1, q.2.2) := by decide +kernel
def kX10_log : List (Nat × Instr × Nat) := [(0, .aload_n 0, 1), (1, .iconst 0, 1), (2, .putfield 104, 3), (5, .aload_n 0, 1), (6, .iload_n 1, 1), (7, .invokevirtual 387, 3), (10, .ifCond .eq 16, 3), (13, .iload_n 1, 1), (14, .ifCond .le 12, 3), (17, .aload_n 0, 1), (18, .getfield 22, 3), (21, .iload_n 1, 1), (22, .iaload, 1), (23, .goto 8, 3), (26, .aload_n 0, 1), (27, .iconst 1, 1), (28, .invokevirtual 373, 3), (31, .ireturn, 1)]
set_option maxRecDepth 100000 in
theorem kX10_log_ok : ∀ q ∈ kX10_log, decode cX10_log q.1 = .ok (q.2.1, q.2.2) := by decide +kernel
def kX10_trace : List (Nat × Instr × Nat) := [(0, .aload_n 0, 1), (1, .iconst 0, 1), (2, .putfield 104, 3), (5, .aload_n 0, 1), (6, .iload_n 1, 1), (7, .invokevirtual 387, 3), (10, .ifCond .eq 12, 3), (13, .aload_n 0, 1), (14, .getfield 28, 3), (17, .iload_n 1, 1), (18, .iaload, 1), (19, .goto 8, 3), (22, .aload_n 0, 1), (23, .iconst 1, 1), (24, .invokevirtual 373, 3), (27, .ireturn, 1)]
set_option maxRecDepth 100000 in
theorem kX10_trace_ok : ∀ q ∈ kX10_trace, decode cX10_trace q.1 = .ok (q.2.1, q.2.2) := by decide +kernel
def kX10_character : List (Nat × Instr × Nat) := [(0, .aload_n 0, 1), (1, .iconst 0, 1), (2, .putfield 104, 3), (5, .aload_n 0, 1), (6, .iload_n 1, 1), (7, .invokevirtual 393, 3), (10, .ifCond .eq 20, 3), (13, .aload_n 0, 1), (14, .iload_n 2, 1), (15, .invokevirtual 387, 3), (18, .ifCond .eq 12, 3), (21, .aload_n 0, 1), (22, .iload_n 1, 1), (23, .iload_n 2, 1), (24, .invokevirtual 200, 3), (27, .goto 8, 3), (30, .aload_n 0, 1), (31, .iconst 1, 1), (32, .invokevirtual 373, 3), (35, .ireturn, 1)]
set_option maxRecDepth 100000 in
theorem kX10_character_ok : ∀ q ∈ kX10_character, decode cX10_character q.1 = .ok (q.2.1, q.2.2) := by decide +kernel
def kX10_order : List (Nat × Instr × Nat) := [(0, .aload_n 0, 1), (1, .iconst 0, 1), (2, .putfield 104, 3), (5, .aload_n 0, 1), (6, .iload_n 1, 1), (7, .invokevirtual 393, 3), (10, .ifCond .ne 9, 3), (13, .aload_n 0, 1), (14, .iconst 1, 1), (15, .invokevirtual 373, 3), (18, .ireturn, 1), (19, .iconst 1, 1), (20, .istore_n 2, 1), (21, .iload_n 2, 1), (22, .aload_n 0, 1), (23, .getfield 119, 3), (26, .if_icmp .ge 67, 3), (29, .iconst 1, 1), (30, .istore_n 3, 1), (31, .iconst 1, 1), (32, .istore 4, 2), (34, .iload 4, 2), (36, .aload_n 0, 1), (37, .getfield 119, 3), (40, .if_icmp .ge 41, 3), (43, .iload_n 3, 1), (44, .ifCond .eq 29, 3), (47, .aload_n 0, 1), (48, .iload_n 1, 1), (49, .iload 4, 2), (51, .invokevirtual 200, 3), (54, .i2l, 1), (55, .iload_n 2, 1), (56, .i2l, 1), (57, .lmul, 1), (58, .aload_n 0, 1), (59, .getfield 166, 3), (62, .i2l, 1), (63, .lrem, 1), (64, .lconst 0, 1), (65, .lcmp, 1), (66, .ifCond .ne 7, 3), (69, .iconst 1, 1), (70, .goto 4, 3), (73, .iconst 0, 1), (74, .istore_n 3, 1), (75, .iinc 4 1, 3), (78, .goto (-44), 3), (81, .iload_n 3, 1), (82, .ifCond .eq 5, 3), (85, .iload_n 2, 1), (86, .ireturn, 1), (87, .iinc 2 1, 3), (90, .goto (-69), 3), (93, .aload_n 0, 1), (94, .getfield 119, 3), (97, .iconst 1, 1), (98, .isub, 1), (99, .ireturn, 1)]
set_option maxRecDepth 100000 in
theorem kX10_order_ok : ∀ q ∈ kX10_order, decode cX10_order q.1 = .ok (q.2.1, q.2.2) := by decide +kernel
def kX10_coefficient : List (Nat × Instr × Nat) := [(0, .aload_n 0, 1), (1, .iconst 0, 1), (2, .putfield 104, 3), (5, .iload_n 1, 1), (6, .invokestatic 370, 3), (9, .ifCond .eq 33, 3), (12, .iload_n 2, 1), (13, .i2l, 1), (14, .lconst 0, 1), (15, .aload_n 0, 1), (16, .getfield 178, 3), (19, .iconst 1, 1), (20, .isub, 1), (21, .i2l, 1), (22, .invokestatic 162, 3), (25, .ifCond .eq 17, 3), (28, .aload_n 0, 1), (29, .getfield 57, 3), (32, .iload_n 1, 1), (33, .iload_n 2, 1), (34, .invokestatic 184, 3), (37, .laload, 1), (38, .l2i, 1), (39, .goto 8, 3), (42, .aload_n 0, 1), (43, .iconst 1, 1), (44, .invokevirtual 373, 3), (47, .ireturn, 1)]
set_option maxRecDepth 100000 in
theorem kX10_coefficient_ok : ∀ q ∈ kX10_coefficient, decode cX10_coefficient q.1 = .ok (q.2.1, q.2.2) := by decide +kernel
def kX10_isWhole : List (Nat × Instr × Nat) := [(0, .iconst 1, 1), (1, .istore_n 2, 1), (2, .iload_n 2, 1), (3, .aload_n 0, 1), (4, .getfield 178, 3), (7, .if_icmp .ge 26, 3), (10, .aload_n 0, 1), (11, .getfield 57, 3), (14, .iload_n 1, 1), (15, .iload_n 2, 1), (16, .invokestatic 184, 3), (19, .laload, 1), (20, .lconst 0, 1), (21, .lcmp, 1), (22, .ifCond .eq 5, 3), (25, .iconst 0, 1), (26, .ireturn, 1), (27, .iinc 2 1, 3), (30, .goto (-28), 3), (33, .iconst 1, 1), (34, .ireturn, 1)]
set_option maxRecDepth 100000 in
theorem kX10_isWhole_ok : ∀ q ∈ kX10_isWhole, decode cX10_isWhole q.1 = .ok (q.2.1, q.2.2) := by decide +kernel
def kX10_staysBy : List (Nat × Instr × Nat) := [(0, .aload_n 0, 1), (1, .bipush 32, 2), (3, .iload_n 1, 1), (4, .iload_n 2, 1), (5, .invokevirtual 330, 3), (8, .istore_n 3, 1), (9, .aload_n 0, 1), (10, .bipush 32, 2), (12, .iload_n 1, 1), (13, .invokevirtual 396, 3), (16, .ireturn, 1)]
set_option maxRecDepth 100000 in
theorem kX10_staysBy_ok : ∀ q ∈ kX10_staysBy, decode cX10_staysBy q.1 = .ok (q.2.1, q.2.2) := by decide +kernel
def kX10_unlike : List (Nat × Instr × Nat) := [(0, .iconst 0, 1), (1, .istore_n 2, 1), (2, .iconst 0, 1), (3, .istore_n 3, 1), (4, .iload_n 3, 1), (5, .aload_n 0, 1), (6, .getfield 166, 3), (9, .if_icmp .ge 34, 3), (12, .iload_n 2, 1), (13, .aload_n 0, 1), (14, .iload_n 3, 1), (15, .invokevirtual 209, 3), (18, .ifCond .eq 16, 3), (21, .aload_n 0, 1), (22, .iload_n 1, 1), (23, .iload_n 3, 1), (24, .invokevirtual 399, 3), (27, .ifCond .eq 7, 3), (30, .iconst 1, 1), (31, .goto 4, 3), (34, .iconst 0, 1), (35, .iadd, 1), (36, .istore_n 2, 1), (37, .iinc 3 1, 3), (40, .goto (-36), 3), (43, .aload_n 0, 1), (44, .getfield 178, 3), (47, .iload_n 2, 1), (48, .idiv, 1), (49, .ireturn, 1)]
set_option maxRecDepth 100000 in
theorem kX10_unlike_ok : ∀ q ∈ kX10_unlike, decode cX10_unlike q.1 = .ok (q.2.1, q.2.2) := by decide +kernel
def kX10_allMoved : List (Nat × Instr × Nat) := [(0, .aload_n 0, 1), (1, .invokevirtual 191, 3), (4, .iconst 0, 1), (5, .istore_n 2, 1), (6, .iload_n 2, 1), (7, .sipush 512, 3), (10, .if_icmp .ge 16, 3), (13, .aload_n 0, 1), (14, .getfield 44, 3), (17, .iload_n 2, 1), (18, .lconst 0, 1), (19, .lastore, 1), (20, .iinc 2 1, 3), (23, .goto (-17), 3), (26, .iconst 0, 1), (27, .istore_n 2, 1), (28, .iload_n 2, 1), (29, .aload_n 0, 1), (30, .getfield 166, 3), (33, .if_icmp .ge 66, 3), (36, .aload_n 0, 1), (37, .iload_n 2, 1), (38, .invokevirtual 209, 3), (41, .ifCond .ne 6, 3), (44, .goto 49, 3), (47, .iconst 0, 1), (48, .istore_n 3, 1), (49, .iload_n 3, 1), (50, .aload_n 0, 1), (51, .getfield 178, 3), (54, .if_icmp .ge 39, 3), (57, .aload_n 0, 1), (58, .getfield 44, 3), (61, .iload_n 3, 1), (62, .i2l, 1), (63, .iload_n 2, 1), (64, .i2l, 1), (65, .lmul, 1), (66, .aload_n 0, 1), (67, .getfield 166, 3), (70, .i2l, 1), (71, .lrem, 1), (72, .l2i, 1), (73, .dup2, 1), (74, .laload, 1), (75, .aload_n 0, 1), (76, .getfield 57, 3), (79, .iload_n 1, 1), (80, .iload_n 3, 1), (81, .invokestatic 184, 3), (84, .laload, 1), (85, .ladd, 1), (86, .lastore, 1), (87, .iinc 3 1, 3), (90, .goto (-41), 3), (93, .iinc 2 1, 3), (96, .goto (-68), 3), (99, .iconst 0, 1), (100, .istore_n 2, 1), (101, .iload_n 2, 1), (102, .aload_n 0, 1), (103, .getfield 166, 3), (106, .if_icmp .ge 21, 3), (109, .aload_n 0, 1), (110, .getfield 60, 3), (113, .iload_n 2, 1), (114, .aload_n 0, 1), (115, .getfield 44, 3), (118, .iload_n 2, 1), (119, .laload, 1), (120, .lastore, 1), (121, .iinc 2 1, 3), (124, .goto (-23), 3), (127, .aload_n 0, 1), (128, .bipush 32, 2), (130, .invokevirtual 194, 3), (133, .istore_n 2, 1), (134, .aload_n 0, 1), (135, .getfield 57, 3), (138, .bipush 32, 2), (140, .iconst 0, 1), (141, .invokestatic 184, 3), (144, .laload, 1), (145, .lreturn, 1)]
set_option maxRecDepth 100000 in
theorem kX10_allMoved_ok : ∀ q ∈ kX10_allMoved, decode cX10_allMoved q.1 = .ok (q.2.1, q.2.2) := by decide +kernel
def kX10_leastMoving : List (Nat × Instr × Nat) := [(0, .iconst 2, 1), (1, .istore_n 2, 1), (2, .iload_n 2, 1), (3, .aload_n 0, 1), (4, .getfield 166, 3), (7, .if_icmp .ge 28, 3), (10, .aload_n 0, 1), (11, .iload_n 2, 1), (12, .invokevirtual 209, 3), (15, .ifCond .eq 14, 3), (18, .aload_n 0, 1), (19, .iload_n 1, 1), (20, .iload_n 2, 1), (21, .invokevirtual 399, 3), (24, .ifCond .eq 5, 3), (27, .iload_n 2, 1), (28, .ireturn, 1), (29, .iinc 2 1, 3), (32, .goto (-30), 3), (35, .iconst (-1), 1), (36, .ireturn, 1)]
set_option maxRecDepth 100000 in
theorem kX10_leastMoving_ok : ∀ q ∈ kX10_leastMoving, decode cX10_leastMoving q.1 = .ok (q.2.1, q.2.2) := by decide +kernel
def kX10_of : List (Nat × Instr × Nat) := [(0, .aload_n 0, 1), (1, .iconst 0, 1), (2, .putfield 104, 3), (5, .iload_n 1, 1), (6, .invokestatic 370, 3), (9, .ifCond .eq 15, 3), (12, .iload_n 2, 1), (13, .i2l, 1), (14, .lconst 0, 1), (15, .ldc2_w 402, 3), (18, .invokestatic 162, 3), (21, .ifCond .ne 10, 3), (24, .aload_n 0, 1), (25, .iconst 1, 1), (26, .invokevirtual 373, 3), (29, .i2l, 1), (30, .lreturn, 1), (31, .iload_n 2, 1), (32, .tableswitch 90 0 4 #[36, 43, 57, 77, 84], 36), (68, .aload_n 0, 1), (69, .iload_n 1, 1), (70, .invokevirtual 380, 3), (73, .i2l, 1), (74, .lreturn, 1), (75, .aload_n 0, 1), (76, .iload_n 1, 1), (77, .invokevirtual 404, 3), (80, .ifCond .eq 7, 3), (83, .lconst 1, 1), (84, .goto 4, 3), (87, .lconst 0, 1), (88, .lreturn, 1), (89, .aload_n 0, 1), (90, .iload_n 1, 1), (91, .aload_n 0, 1), (92, .getfield 166, 3), (95, .iconst 1, 1), (96, .isub, 1), (97, .invokevirtual 399, 3), (100, .ifCond .eq 7, 3), (103, .lconst 1, 1), (104, .goto 4, 3), (107, .lconst 0, 1), (108, .lreturn, 1), (109, .aload_n 0, 1), (110, .iload_n 1, 1), (111, .invokevirtual 407, 3), (114, .i2l, 1), (115, .lreturn, 1), (116, .aload_n 0, 1), (117, .iload_n 1, 1), (118, .invokevirtual 410, 3), (121, .lreturn, 1), (122, .aload_n 0, 1), (123, .iload_n 1, 1), (124, .invokevirtual 414, 3), (127, .i2l, 1), (128, .lreturn, 1)]
set_option maxRecDepth 100000 in
theorem kX10_of_ok : ∀ q ∈ kX10_of, decode cX10_of q.1 = .ok (q.2.1, q.2.2) := by decide +kernel
def kX10_same : List (Nat × Instr × Nat) := [(0, .aload_n 0, 1), (1, .iload_n 1, 1), (2, .invokestatic 370, 3), (5, .ifCond .eq 14, 3), (8, .iload_n 2, 1), (9, .invokestatic 370, 3), (12, .ifCond .eq 7, 3), (15, .iconst 0, 1), (16, .goto 4, 3), (19, .iconst 1, 1), (20, .putfield 104, 3), (23, .aload_n 0, 1), (24, .getfield 104, 3), (27, .ifCond .ne 16, 3), (30, .aload_n 0, 1), (31, .iload_n 1, 1), (32, .iload_n 2, 1), (33, .invokevirtual 396, 3), (36, .ifCond .eq 7, 3), (39, .iconst 1, 1), (40, .goto 4, 3), (43, .iconst 0, 1), (44, .ireturn, 1)]
set_option maxRecDepth 100000 in
theorem kX10_same_ok : ∀ q ∈ kX10_same, decode cX10_same q.1 = .ok (q.2.1, q.2.2) := by decide +kernel
def kX10_canMake : List (Nat × Instr × Nat) := [(0, .iload_n 1, 1), (1, .tableswitch 176 0 7 #[47, 69, 100, 122, 129, 150, 156, 162], 47), (48, .aload_n 0, 1), (49, .iload_n 2, 1), (50, .invokevirtual 393, 3), (53, .ifCond .eq 15, 3), (56, .aload_n 0, 1), (57, .iload_n 3, 1), (58, .invokevirtual 387, 3), (61, .ifCond .eq 7, 3), (64, .iconst 1, 1), (65, .goto 4, 3), (68, .iconst 0, 1), (69, .ireturn, 1), (70, .aload_n 0, 1), (71, .iload_n 2, 1), (72, .invokevirtual 393, 3), (75, .ifCond .eq 24, 3), (78, .aload_n 0, 1), (79, .iload_n 3, 1), (80, .invokevirtual 393, 3), (83, .ifCond .eq 16, 3), (86, .aload_n 0, 1), (87, .iload 4, 2), (89, .invokevirtual 387, 3), (92, .ifCond .eq 7, 3), (95, .iconst 1, 1), (96, .goto 4, 3), (99, .iconst 0, 1), (100, .ireturn, 1), (101, .aload_n 0, 1), (102, .iload_n 2, 1), (103, .invokevirtual 387, 3), (106, .ifCond .eq 15, 3), (109, .aload_n 0, 1), (110, .iload_n 3, 1), (111, .invokevirtual 387, 3), (114, .ifCond .eq 7, 3), (117, .iconst 1, 1), (118, .goto 4, 3), (121, .iconst 0, 1), (122, .ireturn, 1), (123, .aload_n 0, 1), (124, .iload_n 2, 1), (125, .iload_n 3, 1), (126, .invokevirtual 345, 3), (129, .ireturn, 1), (130, .iload_n 2, 1), (131, .invokestatic 370, 3), (134, .ifCond .eq 15, 3), (137, .aload_n 0, 1), (138, .iload_n 3, 1), (139, .invokevirtual 209, 3), (142, .ifCond .eq 7, 3), (145, .iconst 1, 1), (146, .goto 4, 3), (149, .iconst 0, 1), (150, .ireturn, 1), (151, .aload_n 0, 1), (152, .iload_n 2, 1), (153, .invokevirtual 387, 3), (156, .ireturn, 1), (157, .aload_n 0, 1), (158, .iload_n 2, 1), (159, .invokevirtual 393, 3), (162, .ireturn, 1), (163, .iload_n 2, 1), (164, .i2l, 1), (165, .lconst 0, 1), (166, .aload_n 0, 1), (167, .getfield 166, 3), (170, .iconst 1, 1), (171, .isub, 1), (172, .i2l, 1), (173, .invokestatic 162, 3), (176, .ireturn, 1), (177, .iconst 0, 1), (178, .ireturn, 1)]
set_option maxRecDepth 100000 in
theorem kX10_canMake_ok : ∀ q ∈ kX10_canMake, decode cX10_canMake q.1 = .ok (q.2.1, q.2.2) := by decide +kernel
def kX10_does : List (Nat × Instr × Nat) := [(0, .iload_n 1, 1), (1, .tableswitch 106 0 6 #[43, 52, 63, 72, 81, 90, 98], 43), (44, .aload_n 0, 1), (45, .bipush 32, 2), (47, .iload_n 2, 1), (48, .iload_n 3, 1), (49, .invokevirtual 358, 3), (52, .ireturn, 1), (53, .aload_n 0, 1), (54, .bipush 32, 2), (56, .iload_n 2, 1), (57, .iload_n 3, 1), (58, .iload 4, 2), (60, .invokevirtual 364, 3), (63, .ireturn, 1), (64, .aload_n 0, 1), (65, .bipush 32, 2), (67, .iload_n 2, 1), (68, .iload_n 3, 1), (69, .invokevirtual 361, 3), (72, .ireturn, 1), (73, .aload_n 0, 1), (74, .bipush 32, 2), (76, .iload_n 2, 1), (77, .iload_n 3, 1), (78, .invokevirtual 349, 3), (81, .ireturn, 1), (82, .aload_n 0, 1), (83, .bipush 32, 2), (85, .iload_n 2, 1), (86, .iload_n 3, 1), (87, .invokevirtual 330, 3), (90, .ireturn, 1), (91, .aload_n 0, 1), (92, .bipush 32, 2), (94, .iload_n 2, 1), (95, .invokevirtual 417, 3), (98, .ireturn, 1), (99, .aload_n 0, 1), (100, .bipush 32, 2), (102, .iload_n 2, 1), (103, .invokevirtual 420, 3), (106, .ireturn, 1), (107, .aload_n 0, 1), (108, .bipush 32, 2), (110, .iload_n 2, 1), (111, .invokevirtual 423, 3), (114, .ireturn, 1)]
set_option maxRecDepth 100000 in
theorem kX10_does_ok : ∀ q ∈ kX10_does, decode cX10_does q.1 = .ok (q.2.1, q.2.2) := by decide +kernel
def kX10_make : List (Nat × Instr × Nat) := [(0, .aload_n 0, 1), (1, .iconst 0, 1), (2, .putfield 104, 3), (5, .iload_n 1, 1), (6, .invokestatic 370, 3), (9, .ifCond .eq 16, 3), (12, .aload_n 0, 1), (13, .iload_n 2, 1), (14, .iload_n 3, 1), (15, .iload 4, 2), (17, .iload 5, 2), (19, .invokevirtual 426, 3), (22, .ifCond .ne 5, 3), (25, .iconst (-1), 1), (26, .ireturn, 1), (27, .aload_n 0, 1), (28, .iload_n 2, 1), (29, .iload_n 3, 1), (30, .iload 4, 2), (32, .iload 5, 2), (34, .invokevirtual 429, 3), (37, .ifCond .ne 6, 3), (40, .bipush (-2), 2), (42, .ireturn, 1), (43, .aload_n 0, 1), (44, .iload_n 1, 1), (45, .bipush 32, 2), (47, .invokevirtual 279, 3), (50, .aload_n 0, 1), (51, .iload_n 1, 1), (52, .invokevirtual 380, 3), (55, .ireturn, 1)]
set_option maxRecDepth 100000 in
theorem kX10_make_ok : ∀ q ∈ kX10_make, decode cX10_make q.1 = .ok (q.2.1, q.2.2) := by decide +kernel
end
section
def kX10_divide_ : List (Nat × Instr × Nat) := [(0, .aload_n 0, 1), (1, .iconst 0, 1), (2, .putfield 104, 3), (5, .iload_n 1, 1), (6, .invokestatic 370, 3), (9, .ifCond .eq 14, 3), (12, .iload_n 2, 1), (13, .invokestatic 370, 3), (16, .ifCond .eq 7, 3), (19, .iload_n 3, 1), (20, .ifCond .ne 5, 3), (23, .iconst (-1), 1), (24, .ireturn, 1), (25, .iconst 0, 1), (26, .istore 4, 2), (28, .iload 4, 2), (30, .aload_n 0, 1), (31, .getfield 178, 3), (34, .if_icmp .ge 30, 3), (37, .aload_n 0, 1), (38, .getfield 57, 3), (41, .iload_n 2, 1), (42, .iload 4, 2), (44, .invokestatic 184, 3), (47, .laload, 1), (48, .iload_n 3, 1), (49, .i2l, 1), (50, .lrem, 1), (51, .lconst 0, 1), (52, .lcmp, 1), (53, .ifCond .eq 5, 3), (56, .iconst (-1), 1), (57, .ireturn, 1), (58, .iinc 4 1, 3), (61, .goto (-33), 3), (64, .iconst 0, 1), (65, .istore 4, 2), (67, .iload 4, 2), (69, .sipush 256, 3), (72, .if_icmp .ge 34, 3), (75, .aload_n 0, 1), (76, .getfield 57, 3), (79, .iload_n 1, 1), (80, .iload 4, 2), (82, .invokestatic 184, 3), (85, .aload_n 0, 1), (86, .getfield 57, 3), (89, .iload_n 2, 1), (90, .iload 4, 2), (92, .invokestatic 184, 3), (95, .laload, 1), (96, .iload_n 3, 1), (97, .i2l, 1), (98, .ldiv, 1), (99, .lastore, 1), (100, .iinc 4 1, 3), (103, .goto (-36), 3), (106, .aload_n 0, 1), (107, .iload_n 1, 1), (108, .invokevirtual 380, 3), (111, .ireturn, 1)]
set_option maxRecDepth 100000 in
theorem kX10_divide__ok : ∀ q ∈ kX10_divide_, decode cX10_divide_ q.1 = .ok (q.2.1, q.2.2) := by decide +kernel
def kX10_layPowers : List (Nat × Instr × Nat) := [(0, .iconst 0, 1), (1, .istore_n 2, 1), (2, .iload_n 2, 1), (3, .aload_n 0, 1), (4, .getfield 119, 3), (7, .if_icmp .ge 21, 3), (10, .aload_n 0, 1), (11, .getfield 79, 3), (14, .iload_n 2, 1), (15, .aload_n 0, 1), (16, .iload_n 2, 1), (17, .iload_n 1, 1), (18, .invokevirtual 159, 3), (21, .iastore, 1), (22, .iinc 2 1, 3), (25, .goto (-23), 3), (28, .return_, 1)]
set_option maxRecDepth 100000 in
theorem kX10_layPowers_ok : ∀ q ∈ kX10_layPowers, decode cX10_layPowers q.1 = .ok (q.2.1, q.2.2) := by decide +kernel
def kX10_solutions : List (Nat × Instr × Nat) := [(0, .aload_n 0, 1), (1, .aload_n 0, 1), (2, .iload_n 1, 1), (3, .invokevirtual 387, 3), (6, .ifCond .eq 20, 3), (9, .aload_n 0, 1), (10, .iload_n 3, 1), (11, .invokevirtual 387, 3), (14, .ifCond .eq 12, 3), (17, .aload_n 0, 1), (18, .iload 5, 2), (20, .invokevirtual 387, 3), (23, .ifCond .ne 7, 3), (26, .iconst 1, 1), (27, .goto 33, 3), (30, .iload_n 2, 1), (31, .i2l, 1), (32, .lconst 1, 1), (33, .ldc2_w 432, 3), (36, .invokestatic 162, 3), (39, .ifCond .eq 16, 3), (42, .iload 4, 2), (44, .i2l, 1), (45, .lconst 1, 1), (46, .ldc2_w 432, 3), (49, .invokestatic 162, 3), (52, .ifCond .ne 7, 3), (55, .iconst 2, 1), (56, .goto 4, 3), (59, .iconst 0, 1), (60, .putfield 104, 3), (63, .aload_n 0, 1), (64, .getfield 104, 3), (67, .ifCond .le 5, 3), (70, .iconst 0, 1), (71, .ireturn, 1), (72, .iconst 0, 1), (73, .istore 6, 2), (75, .iconst 0, 1), (76, .istore 7, 2), (78, .iload 7, 2), (80, .aload_n 0, 1), (81, .getfield 119, 3), (84, .if_icmp .ge 75, 3), (87, .aload_n 0, 1), (88, .iload_n 1, 1), (89, .aload_n 0, 1), (90, .iload 7, 2), (92, .iload_n 2, 1), (93, .invokevirtual 159, 3), (96, .invokevirtual 126, 3), (99, .istore 8, 2), (101, .iconst 0, 1), (102, .istore 9, 2), (104, .iload 9, 2), (106, .aload_n 0, 1), (107, .getfield 119, 3), (110, .if_icmp .ge 43, 3), (113, .iload 6, 2), (115, .aload_n 0, 1), (116, .iload 8, 2), (118, .aload_n 0, 1), (119, .iload_n 3, 1), (120, .aload_n 0, 1), (121, .iload 9, 2), (123, .iload 4, 2), (125, .invokevirtual 159, 3), (128, .invokevirtual 126, 3), (131, .invokevirtual 139, 3), (134, .iload 5, 2), (136, .if_icmp .ne 7, 3), (139, .iconst 1, 1), (140, .goto 4, 3), (143, .iconst 0, 1), (144, .iadd, 1), (145, .istore 6, 2), (147, .iinc 9 1, 3), (150, .goto (-46), 3), (153, .iinc 7 1, 3), (156, .goto (-78), 3), (159, .iload 6, 2), (161, .ireturn, 1)]
set_option maxRecDepth 100000 in
theorem kX10_solutions_ok : ∀ q ∈ kX10_solutions, decode cX10_solutions q.1 = .ok (q.2.1, q.2.2) := by decide +kernel
def kX10_points : List (Nat × Instr × Nat) := [(0, .aload_n 0, 1), (1, .aload_n 0, 1), (2, .iload 4, 2), (4, .invokevirtual 387, 3), (7, .ifCond .ne 7, 3), (10, .iconst 1, 1), (11, .goto 44, 3), (14, .iload_n 1, 1), (15, .i2l, 1), (16, .lconst 1, 1), (17, .ldc2_w 432, 3), (20, .invokestatic 162, 3), (23, .ifCond .eq 27, 3), (26, .iload_n 2, 1), (27, .i2l, 1), (28, .lconst 1, 1), (29, .ldc2_w 432, 3), (32, .invokestatic 162, 3), (35, .ifCond .eq 15, 3), (38, .iload_n 3, 1), (39, .i2l, 1), (40, .lconst 1, 1), (41, .ldc2_w 432, 3), (44, .invokestatic 162, 3), (47, .ifCond .ne 7, 3), (50, .iconst 2, 1), (51, .goto 4, 3), (54, .iconst 0, 1), (55, .putfield 104, 3), (58, .aload_n 0, 1), (59, .getfield 104, 3), (62, .ifCond .le 5, 3), (65, .iconst 0, 1), (66, .ireturn, 1), (67, .aload_n 0, 1), (68, .iload_n 3, 1), (69, .invokevirtual 434, 3), (72, .iconst 0, 1), (73, .istore 5, 2), (75, .iconst 0, 1), (76, .istore 6, 2), (78, .iload 6, 2), (80, .aload_n 0, 1), (81, .getfield 119, 3), (84, .if_icmp .ge 97, 3), (87, .aload_n 0, 1), (88, .iload 6, 2), (90, .iload_n 1, 1), (91, .invokevirtual 159, 3), (94, .istore 7, 2), (96, .iconst 0, 1), (97, .istore 8, 2), (99, .iload 8, 2), (101, .aload_n 0, 1), (102, .getfield 119, 3), (105, .if_icmp .ge 70, 3), (108, .aload_n 0, 1), (109, .iload 7, 2), (111, .aload_n 0, 1), (112, .iload 8, 2), (114, .iload_n 2, 1), (115, .invokevirtual 159, 3), (118, .invokevirtual 139, 3), (121, .istore 9, 2), (123, .iconst 0, 1), (124, .istore 10, 2), (126, .iload 10, 2), (128, .aload_n 0, 1), (129, .getfield 119, 3), (132, .if_icmp .ge 37, 3), (135, .iload 5, 2), (137, .aload_n 0, 1), (138, .iload 9, 2), (140, .aload_n 0, 1), (141, .getfield 79, 3), (144, .iload 10, 2), (146, .iaload, 1), (147, .invokevirtual 139, 3), (150, .iload 4, 2), (152, .if_icmp .ne 7, 3), (155, .iconst 1, 1), (156, .goto 4, 3), (159, .iconst 0, 1), (160, .iadd, 1), (161, .istore 5, 2), (163, .iinc 10 1, 3), (166, .goto (-40), 3), (169, .iinc 8 1, 3), (172, .goto (-73), 3), (175, .iinc 6 1, 3), (178, .goto (-100), 3), (181, .iload 5, 2), (183, .ireturn, 1)]
set_option maxRecDepth 100000 in
theorem kX10_points_ok : ∀ q ∈ kX10_points, decode cX10_points q.1 = .ok (q.2.1, q.2.2) := by decide +kernel
def kX10_joins : List (Nat × Instr × Nat) := [(0, .aload_n 0, 1), (1, .iload_n 1, 1), (2, .invokevirtual 434, 3), (5, .iconst 0, 1), (6, .istore_n 2, 1), (7, .iload_n 2, 1), (8, .aload_n 0, 1), (9, .getfield 119, 3), (12, .if_icmp .ge 16, 3), (15, .aload_n 0, 1), (16, .getfield 76, 3), (19, .iload_n 2, 1), (20, .iconst 0, 1), (21, .iastore, 1), (22, .iinc 2 1, 3), (25, .goto (-18), 3), (28, .iconst 0, 1), (29, .istore_n 2, 1), (30, .iload_n 2, 1), (31, .aload_n 0, 1), (32, .getfield 119, 3), (35, .if_icmp .ge 50, 3), (38, .iconst 0, 1), (39, .istore_n 3, 1), (40, .iload_n 3, 1), (41, .aload_n 0, 1), (42, .getfield 119, 3), (45, .if_icmp .ge 34, 3), (48, .aload_n 0, 1), (49, .getfield 76, 3), (52, .aload_n 0, 1), (53, .iload_n 2, 1), (54, .aload_n 0, 1), (55, .getfield 79, 3), (58, .iload_n 3, 1), (59, .iaload, 1), (60, .invokevirtual 139, 3), (63, .dup2, 1), (64, .iaload, 1), (65, .aload_n 0, 1), (66, .getfield 73, 3), (69, .iload_n 2, 1), (70, .iaload, 1), (71, .iadd, 1), (72, .iastore, 1), (73, .iinc 3 1, 3), (76, .goto (-36), 3), (79, .iinc 2 1, 3), (82, .goto (-52), 3), (85, .iconst 0, 1), (86, .istore_n 2, 1), (87, .iload_n 2, 1), (88, .aload_n 0, 1), (89, .getfield 119, 3), (92, .if_icmp .ge 21, 3), (95, .aload_n 0, 1), (96, .getfield 73, 3), (99, .iload_n 2, 1), (100, .aload_n 0, 1), (101, .getfield 76, 3), (104, .iload_n 2, 1), (105, .iaload, 1), (106, .iastore, 1), (107, .iinc 2 1, 3), (110, .goto (-23), 3), (113, .return_, 1)]
set_option maxRecDepth 100000 in
theorem kX10_joins_ok : ∀ q ∈ kX10_joins, decode cX10_joins q.1 = .ok (q.2.1, q.2.2) := by decide +kernel
def kX10_rows : List (Nat × Instr × Nat) := [(0, .aload_n 0, 1), (1, .aload_n 0, 1), (2, .iload_n 3, 1), (3, .invokevirtual 387, 3), (6, .ifCond .ne 7, 3), (9, .iconst 1, 1), (10, .goto 32, 3), (13, .iload_n 1, 1), (14, .i2l, 1), (15, .lconst 1, 1), (16, .ldc2_w 437, 3), (19, .invokestatic 162, 3), (22, .ifCond .eq 15, 3), (25, .iload_n 2, 1), (26, .i2l, 1), (27, .lconst 1, 1), (28, .ldc2_w 432, 3), (31, .invokestatic 162, 3), (34, .ifCond .ne 7, 3), (37, .iconst 2, 1), (38, .goto 4, 3), (41, .iconst 0, 1), (42, .putfield 104, 3), (45, .aload_n 0, 1), (46, .getfield 104, 3), (49, .ifCond .le 5, 3), (52, .iconst 0, 1), (53, .ireturn, 1), (54, .iconst 0, 1), (55, .istore 4, 2), (57, .iload 4, 2), (59, .aload_n 0, 1), (60, .getfield 119, 3), (63, .if_icmp .ge 26, 3), (66, .aload_n 0, 1), (67, .getfield 73, 3), (70, .iload 4, 2), (72, .iload 4, 2), (74, .ifCond .ne 7, 3), (77, .iconst 1, 1), (78, .goto 4, 3), (81, .iconst 0, 1), (82, .iastore, 1), (83, .iinc 4 1, 3), (86, .goto (-29), 3), (89, .iconst 0, 1), (90, .istore 4, 2), (92, .iload 4, 2), (94, .iload_n 1, 1), (95, .if_icmp .ge 14, 3), (98, .aload_n 0, 1), (99, .iload_n 2, 1), (100, .invokevirtual 439, 3), (103, .iinc 4 1, 3), (106, .goto (-14), 3), (109, .aload_n 0, 1), (110, .getfield 73, 3), (113, .iload_n 3, 1), (114, .iaload, 1), (115, .ireturn, 1)]
set_option maxRecDepth 100000 in
theorem kX10_rows_ok : ∀ q ∈ kX10_rows, decode cX10_rows q.1 = .ok (q.2.1, q.2.2) := by decide +kernel
def kX10_curve : List (Nat × Instr × Nat) := [(0, .aload_n 0, 1), (1, .iconst 0, 1), (2, .putfield 104, 3), (5, .aload_n 0, 1), (6, .iload_n 1, 1), (7, .invokevirtual 387, 3), (10, .ifCond .eq 11, 3), (13, .aload_n 0, 1), (14, .iload_n 2, 1), (15, .invokevirtual 387, 3), (18, .ifCond .ne 9, 3), (21, .aload_n 0, 1), (22, .iconst 1, 1), (23, .invokevirtual 373, 3), (26, .ireturn, 1), (27, .iconst 0, 1), (28, .istore_n 3, 1), (29, .iconst 0, 1), (30, .istore 4, 2), (32, .iload 4, 2), (34, .aload_n 0, 1), (35, .getfield 119, 3), (38, .if_icmp .ge 73, 3), (41, .aload_n 0, 1), (42, .aload_n 0, 1), (43, .aload_n 0, 1), (44, .iload 4, 2), (46, .iconst 3, 1), (47, .invokevirtual 159, 3), (50, .aload_n 0, 1), (51, .iload_n 1, 1), (52, .iload 4, 2), (54, .invokevirtual 126, 3), (57, .invokevirtual 139, 3), (60, .iload_n 2, 1), (61, .invokevirtual 139, 3), (64, .istore 5, 2), (66, .iconst 0, 1), (67, .istore 6, 2), (69, .iload 6, 2), (71, .aload_n 0, 1), (72, .getfield 119, 3), (75, .if_icmp .ge 30, 3), (78, .iload_n 3, 1), (79, .aload_n 0, 1), (80, .iload 6, 2), (82, .iload 6, 2), (84, .invokevirtual 126, 3), (87, .iload 5, 2), (89, .if_icmp .ne 7, 3), (92, .iconst 1, 1), (93, .goto 4, 3), (96, .iconst 0, 1), (97, .iadd, 1), (98, .istore_n 3, 1), (99, .iinc 6 1, 3), (102, .goto (-33), 3), (105, .iinc 4 1, 3), (108, .goto (-76), 3), (111, .iload_n 3, 1), (112, .ireturn, 1)]
set_option maxRecDepth 100000 in
theorem kX10_curve_ok : ∀ q ∈ kX10_curve, decode cX10_curve q.1 = .ok (q.2.1, q.2.2) := by decide +kernel
def kX10_onByOne : List (Nat × Instr × Nat) := [(0, .aload_n 0, 1), (1, .getfield 442, 3), (4, .iconst 1, 1), (5, .if_icmp .ne 12, 3), (8, .iload_n 1, 1), (9, .iload_n 2, 1), (10, .imul, 1), (11, .aload_n 0, 1), (12, .getfield 107, 3), (15, .irem, 1), (16, .ireturn, 1), (17, .aload_n 0, 1), (18, .getfield 445, 3), (21, .aload_n 0, 1), (22, .getfield 107, 3), (25, .idiv, 1), (26, .istore_n 3, 1), (27, .iload_n 1, 1), (28, .iload_n 3, 1), (29, .idiv, 1), (30, .istore 4, 2), (32, .iload_n 1, 1), (33, .iload_n 3, 1), (34, .irem, 1), (35, .aload_n 0, 1), (36, .getfield 107, 3), (39, .imul, 1), (40, .istore 5, 2), (42, .iconst 0, 1), (43, .istore 6, 2), (45, .iconst 1, 1), (46, .istore 7, 2), (48, .iconst 0, 1), (49, .istore 8, 2), (51, .iload 8, 2), (53, .aload_n 0, 1), (54, .getfield 442, 3), (57, .if_icmp .ge 67, 3), (60, .iload_n 2, 1), (61, .iload 7, 2), (63, .idiv, 1), (64, .aload_n 0, 1), (65, .getfield 107, 3), (68, .irem, 1), (69, .istore 9, 2), (71, .iload 5, 2), (73, .iload 7, 2), (75, .idiv, 1), (76, .aload_n 0, 1), (77, .getfield 107, 3), (80, .irem, 1), (81, .istore 10, 2), (83, .iload 6, 2), (85, .iload 10, 2), (87, .aload_n 0, 1), (88, .getfield 107, 3), (91, .iload 4, 2), (93, .isub, 1), (94, .iload 9, 2), (96, .imul, 1), (97, .iadd, 1), (98, .aload_n 0, 1), (99, .getfield 107, 3), (102, .irem, 1), (103, .iload 7, 2), (105, .imul, 1), (106, .iadd, 1), (107, .istore 6, 2), (109, .iload 7, 2), (111, .aload_n 0, 1), (112, .getfield 107, 3), (115, .imul, 1), (116, .istore 7, 2), (118, .iinc 8 1, 3), (121, .goto (-70), 3), (124, .iload 6, 2), (126, .ireturn, 1)]
set_option maxRecDepth 100000 in
theorem kX10_onByOne_ok : ∀ q ∈ kX10_onByOne, decode cX10_onByOne q.1 = .ok (q.2.1, q.2.2) := by decide +kernel
def kX10_makesAll : List (Nat × Instr × Nat) := [(0, .iconst 1, 1), (1, .istore_n 2, 1), (2, .iconst 0, 1), (3, .istore_n 3, 1), (4, .iload_n 3, 1), (5, .aload_n 0, 1), (6, .getfield 445, 3), (9, .iconst 1, 1), (10, .isub, 1), (11, .if_icmp .ge 38, 3), (14, .iload_n 3, 1), (15, .ifCond .le 14, 3), (18, .iload_n 2, 1), (19, .iconst 1, 1), (20, .if_icmp .eq 7, 3), (23, .iload_n 2, 1), (24, .ifCond .ne 5, 3), (27, .iconst 0, 1), (28, .ireturn, 1), (29, .aload_n 0, 1), (30, .getfield 82, 3), (33, .iload_n 3, 1), (34, .iload_n 2, 1), (35, .iastore, 1), (36, .aload_n 0, 1), (37, .iload_n 2, 1), (38, .iload_n 1, 1), (39, .invokevirtual 448, 3), (42, .istore_n 2, 1), (43, .iinc 3 1, 3), (46, .goto (-42), 3), (49, .iload_n 2, 1), (50, .iconst 1, 1), (51, .if_icmp .ne 7, 3), (54, .iconst 1, 1), (55, .goto 4, 3), (58, .iconst 0, 1), (59, .ireturn, 1)]
set_option maxRecDepth 100000 in
theorem kX10_makesAll_ok : ∀ q ∈ kX10_makesAll, decode cX10_makesAll q.1 = .ok (q.2.1, q.2.2) := by decide +kernel
def kX10_lessLarge : List (Nat × Instr × Nat) := [(0, .iconst 0, 1), (1, .istore_n 2, 1), (2, .iconst 1, 1), (3, .istore_n 3, 1), (4, .iconst 0, 1), (5, .istore 4, 2), (7, .iload 4, 2), (9, .aload_n 0, 1), (10, .getfield 442, 3), (13, .if_icmp .ge 43, 3), (16, .iload_n 1, 1), (17, .iload_n 3, 1), (18, .idiv, 1), (19, .aload_n 0, 1), (20, .getfield 107, 3), (23, .irem, 1), (24, .istore 5, 2), (26, .iload_n 2, 1), (27, .aload_n 0, 1), (28, .getfield 107, 3), (31, .iload 5, 2), (33, .isub, 1), (34, .aload_n 0, 1), (35, .getfield 107, 3), (38, .irem, 1), (39, .iload_n 3, 1), (40, .imul, 1), (41, .iadd, 1), (42, .istore_n 2, 1), (43, .iload_n 3, 1), (44, .aload_n 0, 1), (45, .getfield 107, 3), (48, .imul, 1), (49, .istore_n 3, 1), (50, .iinc 4 1, 3), (53, .goto (-46), 3), (56, .iload_n 2, 1), (57, .aload_n 0, 1), (58, .getfield 107, 3), (61, .irem, 1), (62, .iconst 1, 1), (63, .iadd, 1), (64, .aload_n 0, 1), (65, .getfield 107, 3), (68, .irem, 1), (69, .istore 4, 2), (71, .iload_n 2, 1), (72, .iload_n 2, 1), (73, .aload_n 0, 1), (74, .getfield 107, 3), (77, .irem, 1), (78, .isub, 1), (79, .iload 4, 2), (81, .iadd, 1), (82, .ireturn, 1)]
set_option maxRecDepth 100000 in
theorem kX10_lessLarge_ok : ∀ q ∈ kX10_lessLarge, decode cX10_lessLarge q.1 = .ok (q.2.1, q.2.2) := by decide +kernel
def kX10_lifted : List (Nat × Instr × Nat) := [(0, .aload_n 0, 1), (1, .iconst 0, 1), (2, .putfield 104, 3), (5, .iload_n 1, 1), (6, .iconst 1, 1), (7, .if_icmp .lt 41, 3), (10, .iload_n 2, 1), (11, .iconst 1, 1), (12, .if_icmp .lt 36, 3), (15, .iload_n 3, 1), (16, .iconst 1, 1), (17, .if_icmp .lt 31, 3), (20, .iload_n 3, 1), (21, .bipush 12, 2), (23, .if_icmp .gt 25, 3), (26, .aload_n 0, 1), (27, .getfield 119, 3), (30, .iconst 1, 1), (31, .isub, 1), (32, .iload_n 1, 1), (33, .irem, 1), (34, .ifCond .ne 14, 3), (37, .aload_n 0, 1), (38, .getfield 119, 3), (41, .iconst 1, 1), (42, .isub, 1), (43, .iload_n 2, 1), (44, .irem, 1), (45, .ifCond .eq 9, 3), (48, .aload_n 0, 1), (49, .iconst 1, 1), (50, .invokevirtual 373, 3), (53, .ireturn, 1), (54, .lconst 1, 1), (55, .lstore 4, 2), (57, .iconst 0, 1), (58, .istore 6, 2), (60, .iload 6, 2), (62, .iload_n 3, 1), (63, .if_icmp .ge 19, 3), (66, .lload 4, 2), (68, .aload_n 0, 1), (69, .getfield 119, 3), (72, .i2l, 1), (73, .lmul, 1), (74, .lstore 4, 2), (76, .iinc 6 1, 3), (79, .goto (-19), 3), (82, .lload 4, 2), (84, .ldc2_w 451, 3), (87, .lcmp, 1), (88, .ifCond .le 9, 3), (91, .aload_n 0, 1), (92, .iconst 1, 1), (93, .invokevirtual 373, 3), (96, .ireturn, 1), (97, .aload_n 0, 1), (98, .lload 4, 2), (100, .l2i, 1), (101, .putfield 445, 3), (104, .aload_n 0, 1), (105, .aload_n 0, 1), (106, .getfield 113, 3), (109, .iload_n 3, 1), (110, .imul, 1), (111, .putfield 442, 3), (114, .iconst 1, 1), (115, .istore 6, 2), (117, .aload_n 0, 1), (118, .iload 6, 2), (120, .invokevirtual 453, 3), (123, .ifCond .ne 9, 3), (126, .iinc 6 1, 3), (129, .goto (-12), 3), (132, .iconst 0, 1), (133, .istore 7, 2), (135, .iload 7, 2), (137, .aload_n 0, 1), (138, .getfield 445, 3), (141, .if_icmp .ge 25, 3), (144, .aload_n 0, 1), (145, .getfield 85, 3), (148, .iload 7, 2), (150, .iconst 0, 1), (151, .iastore, 1), (152, .aload_n 0, 1), (153, .getfield 88, 3), (156, .iload 7, 2), (158, .iconst 0, 1), (159, .iastore, 1), (160, .iinc 7 1, 3), (163, .goto (-28), 3), (166, .aload_n 0, 1), (167, .getfield 85, 3), (170, .iconst 0, 1), (171, .iconst 1, 1), (172, .iastore, 1), (173, .aload_n 0, 1), (174, .getfield 88, 3), (177, .iconst 0, 1), (178, .iconst 1, 1), (179, .iastore, 1), (180, .iconst 0, 1), (181, .istore 7, 2), (183, .iload 7, 2), (185, .aload_n 0, 1), (186, .getfield 445, 3), (189, .iconst 1, 1), (190, .isub, 1), (191, .if_icmp .ge 67, 3), (194, .aload_n 0, 1), (195, .getfield 85, 3), (198, .aload_n 0, 1), (199, .getfield 82, 3), (202, .iload 7, 2), (204, .i2l, 1), (205, .iload_n 1, 1), (206, .i2l, 1), (207, .lmul, 1), (208, .aload_n 0, 1), (209, .getfield 445, 3), (212, .iconst 1, 1), (213, .isub, 1), (214, .i2l, 1), (215, .lrem, 1), (216, .l2i, 1), (217, .iaload, 1), (218, .dup2, 1), (219, .iaload, 1), (220, .iconst 1, 1), (221, .iadd, 1), (222, .iastore, 1), (223, .aload_n 0, 1), (224, .getfield 88, 3), (227, .aload_n 0, 1), (228, .getfield 82, 3), (231, .iload 7, 2), (233, .i2l, 1), (234, .iload_n 2, 1), (235, .i2l, 1), (236, .lmul, 1), (237, .aload_n 0, 1), (238, .getfield 445, 3), (241, .iconst 1, 1), (242, .isub, 1), (243, .i2l, 1), (244, .lrem, 1), (245, .l2i, 1), (246, .iaload, 1), (247, .dup2, 1), (248, .iaload, 1), (249, .iconst 1, 1), (250, .iadd, 1), (251, .iastore, 1), (252, .iinc 7 1, 3), (255, .goto (-72), 3), (258, .iconst 0, 1), (259, .istore 7, 2), (261, .iconst 0, 1), (262, .istore 8, 2), (264, .iload 8, 2), (266, .aload_n 0, 1), (267, .getfield 445, 3), (270, .if_icmp .ge 33, 3), (273, .iload 7, 2), (275, .aload_n 0, 1), (276, .getfield 85, 3), (279, .iload 8, 2), (281, .iaload, 1), (282, .aload_n 0, 1), (283, .getfield 88, 3), (286, .aload_n 0, 1), (287, .iload 8, 2), (289, .invokevirtual 456, 3), (292, .iaload, 1), (293, .imul, 1), (294, .iadd, 1), (295, .istore 7, 2), (297, .iinc 8 1, 3), (300, .goto (-36), 3), (303, .iload 7, 2), (305, .ireturn, 1)]
set_option maxRecDepth 100000 in
theorem kX10_lifted_ok : ∀ q ∈ kX10_lifted, decode cX10_lifted q.1 = .ok (q.2.1, q.2.2) := by decide +kernel
def kX10_layLeast : List (Nat × Instr × Nat) := [(0, .iconst 0, 1), (1, .istore_n 2, 1), (2, .iload_n 2, 1), (3, .aload_n 0, 1), (4, .getfield 91, 3), (7, .arraylength, 1), (8, .if_icmp .ge 16, 3), (11, .aload_n 0, 1), (12, .getfield 91, 3), (15, .iload_n 2, 1), (16, .iconst 0, 1), (17, .iastore, 1), (18, .iinc 2 1, 3), (21, .goto (-19), 3), (24, .aload_n 0, 1), (25, .getfield 91, 3), (28, .iconst 0, 1), (29, .iconst 1, 1), (30, .iastore, 1), (31, .iconst 0, 1), (32, .istore_n 2, 1), (33, .iload_n 1, 1), (34, .istore_n 3, 1), (35, .iconst 1, 1), (36, .istore 4, 2), (38, .iload 4, 2), (40, .ifCond .eq 133, 3), (43, .iconst 0, 1), (44, .istore 5, 2), (46, .iload 5, 2), (48, .iload_n 2, 1), (49, .iconst 1, 1), (50, .iadd, 1), (51, .if_icmp .gt 65, 3), (54, .aload_n 0, 1), (55, .getfield 94, 3), (58, .iload 5, 2), (60, .aload_n 0, 1), (61, .iload 5, 2), (63, .ifCond .le 15, 3), (66, .aload_n 0, 1), (67, .getfield 91, 3), (70, .iload 5, 2), (72, .iconst 1, 1), (73, .isub, 1), (74, .iaload, 1), (75, .goto 4, 3), (78, .iconst 0, 1), (79, .iload 5, 2), (81, .iload_n 2, 1), (82, .if_icmp .gt 23, 3), (85, .aload_n 0, 1), (86, .aload_n 0, 1), (87, .getfield 19, 3), (90, .iload_n 3, 1), (91, .iaload, 1), (92, .aload_n 0, 1), (93, .getfield 91, 3), (96, .iload 5, 2), (98, .iaload, 1), (99, .invokevirtual 126, 3), (102, .goto 4, 3), (105, .iconst 0, 1), (106, .invokevirtual 139, 3), (109, .iastore, 1), (110, .iinc 5 1, 3), (113, .goto (-67), 3), (116, .iinc 2 1, 3), (119, .iconst 0, 1), (120, .istore 5, 2), (122, .iload 5, 2), (124, .iload_n 2, 1), (125, .if_icmp .gt 23, 3), (128, .aload_n 0, 1), (129, .getfield 91, 3), (132, .iload 5, 2), (134, .aload_n 0, 1), (135, .getfield 94, 3), (138, .iload 5, 2), (140, .iaload, 1), (141, .iastore, 1), (142, .iinc 5 1, 3), (145, .goto (-23), 3), (148, .aload_n 0, 1), (149, .iload_n 3, 1), (150, .aload_n 0, 1), (151, .getfield 107, 3), (154, .invokevirtual 159, 3), (157, .istore_n 3, 1), (158, .iload_n 3, 1), (159, .iload_n 1, 1), (160, .if_icmp .eq 7, 3), (163, .iconst 1, 1), (164, .goto 4, 3), (167, .iconst 0, 1), (168, .istore 4, 2), (170, .goto (-132), 3), (173, .iload_n 2, 1), (174, .ireturn, 1)]
set_option maxRecDepth 100000 in
theorem kX10_layLeast_ok : ∀ q ∈ kX10_layLeast, decode cX10_layLeast q.1 = .ok (q.2.1, q.2.2) := by decide +kernel
def kX10_normOf : List (Nat × Instr × Nat) := [(0, .iconst 1, 1), (1, .istore_n 2, 1), (2, .iload_n 1, 1), (3, .istore_n 3, 1), (4, .iconst 0, 1), (5, .istore 4, 2), (7, .iload 4, 2), (9, .aload_n 0, 1), (10, .getfield 113, 3), (13, .if_icmp .ge 26, 3), (16, .aload_n 0, 1), (17, .iload_n 2, 1), (18, .iload_n 3, 1), (19, .invokevirtual 126, 3), (22, .istore_n 2, 1), (23, .aload_n 0, 1), (24, .iload_n 3, 1), (25, .aload_n 0, 1), (26, .getfield 107, 3), (29, .invokevirtual 159, 3), (32, .istore_n 3, 1), (33, .iinc 4 1, 3), (36, .goto (-29), 3), (39, .iload_n 2, 1), (40, .ireturn, 1)]
set_option maxRecDepth 100000 in
theorem kX10_normOf_ok : ∀ q ∈ kX10_normOf, decode cX10_normOf q.1 = .ok (q.2.1, q.2.2) := by decide +kernel
def kX10_least : List (Nat × Instr × Nat) := [(0, .aload_n 0, 1), (1, .iconst 0, 1), (2, .putfield 104, 3), (5, .aload_n 0, 1), (6, .iload_n 1, 1), (7, .invokevirtual 387, 3), (10, .ifCond .ne 9, 3), (13, .aload_n 0, 1), (14, .iconst 1, 1), (15, .invokevirtual 373, 3), (18, .ireturn, 1), (19, .iload_n 2, 1), (20, .iconst (-1), 1), (21, .if_icmp .ne 9, 3), (24, .aload_n 0, 1), (25, .iload_n 1, 1), (26, .invokevirtual 459, 3), (29, .ireturn, 1), (30, .aload_n 0, 1), (31, .iload_n 1, 1), (32, .invokevirtual 462, 3), (35, .istore_n 3, 1), (36, .iload_n 2, 1), (37, .bipush (-2), 2), (39, .if_icmp .ne 5, 3), (42, .iload_n 3, 1), (43, .ireturn, 1), (44, .iload_n 2, 1), (45, .i2l, 1), (46, .lconst 0, 1), (47, .iload_n 3, 1), (48, .i2l, 1), (49, .invokestatic 162, 3), (52, .ifCond .eq 12, 3), (55, .aload_n 0, 1), (56, .getfield 91, 3), (59, .iload_n 2, 1), (60, .iaload, 1), (61, .goto 8, 3), (64, .aload_n 0, 1), (65, .iconst 1, 1), (66, .invokevirtual 373, 3), (69, .ireturn, 1)]
set_option maxRecDepth 100000 in
theorem kX10_least_ok : ∀ q ∈ kX10_least, decode cX10_least q.1 = .ok (q.2.1, q.2.2) := by decide +kernel
def kX10_let : List (Nat × Instr × Nat) := [(0, .aload_n 0, 1), (1, .aload_n 0, 1), (2, .iload_n 1, 1), (3, .invokevirtual 387, 3), (6, .ifCond .ne 7, 3), (9, .iconst 1, 1), (10, .goto 22, 3), (13, .iload_n 2, 1), (14, .i2l, 1), (15, .ldc2_w 465, 3), (18, .ldc2_w 467, 3), (21, .invokestatic 162, 3), (24, .ifCond .ne 7, 3), (27, .iconst 2, 1), (28, .goto 4, 3), (31, .iconst 0, 1), (32, .putfield 104, 3), (35, .aload_n 0, 1), (36, .getfield 104, 3), (39, .ifCond .le 5, 3), (42, .iconst 0, 1), (43, .ireturn, 1), (44, .aload_n 0, 1), (45, .getfield 63, 3), (48, .iload_n 1, 1), (49, .iaload, 1), (50, .istore_n 3, 1), (51, .aload_n 0, 1), (52, .getfield 63, 3), (55, .iload_n 1, 1), (56, .iload_n 2, 1), (57, .iastore, 1), (58, .iload_n 3, 1), (59, .ireturn, 1)]
set_option maxRecDepth 100000 in
theorem kX10_let_ok : ∀ q ∈ kX10_let, decode cX10_let q.1 = .ok (q.2.1, q.2.2) := by decide +kernel
def kX10_alike : List (Nat × Instr × Nat) := [(0, .aload_n 0, 1), (1, .iconst 0, 1), (2, .putfield 104, 3), (5, .aload_n 0, 1), (6, .iload_n 1, 1), (7, .invokevirtual 387, 3), (10, .ifCond .ne 9, 3), (13, .aload_n 0, 1), (14, .iconst 1, 1), (15, .invokevirtual 373, 3), (18, .ireturn, 1), (19, .iconst 0, 1), (20, .istore_n 2, 1), (21, .iconst 0, 1), (22, .istore_n 3, 1), (23, .iload_n 3, 1), (24, .aload_n 0, 1), (25, .getfield 119, 3), (28, .if_icmp .ge 30, 3), (31, .iload_n 2, 1), (32, .aload_n 0, 1), (33, .getfield 63, 3), (36, .iload_n 3, 1), (37, .iaload, 1), (38, .aload_n 0, 1), (39, .getfield 63, 3), (42, .aload_n 0, 1), (43, .iload_n 3, 1), (44, .iload_n 1, 1), (45, .invokevirtual 139, 3), (48, .iaload, 1), (49, .imul, 1), (50, .iadd, 1), (51, .istore_n 2, 1), (52, .iinc 3 1, 3), (55, .goto (-32), 3), (58, .iload_n 2, 1), (59, .ireturn, 1)]
set_option maxRecDepth 100000 in
theorem kX10_alike_ok : ∀ q ∈ kX10_alike, decode cX10_alike q.1 = .ok (q.2.1, q.2.2) := by decide +kernel
def kX10_isOf : List (Nat × Instr × Nat) := [(0, .iload_n 0, 1), (1, .iload_n 1, 1), (2, .ishr, 1), (3, .iconst 1, 1), (4, .iand, 1), (5, .iconst 1, 1), (6, .if_icmp .ne 7, 3), (9, .iconst 1, 1), (10, .goto 4, 3), (13, .iconst 0, 1), (14, .ireturn, 1)]
set_option maxRecDepth 100000 in
theorem kX10_isOf_ok : ∀ q ∈ kX10_isOf, decode cX10_isOf q.1 = .ok (q.2.1, q.2.2) := by decide +kernel
def kX10_isSet : List (Nat × Instr × Nat) := [(0, .iload_n 1, 1), (1, .ifCond .lt 17, 3), (4, .iload_n 1, 1), (5, .iconst 1, 1), (6, .aload_n 0, 1), (7, .getfield 119, 3), (10, .ishl, 1), (11, .if_icmp .ge 7, 3), (14, .iconst 1, 1), (15, .goto 4, 3), (18, .iconst 0, 1), (19, .ireturn, 1)]
set_option maxRecDepth 100000 in
theorem kX10_isSet_ok : ∀ q ∈ kX10_isSet, decode cX10_isSet q.1 = .ok (q.2.1, q.2.2) := by decide +kernel
def kX10_mark : List (Nat × Instr × Nat) := [(0, .aload_n 0, 1), (1, .iconst 0, 1), (2, .putfield 104, 3), (5, .aload_n 0, 1), (6, .iload_n 1, 1), (7, .invokevirtual 469, 3), (10, .ifCond .ne 9, 3), (13, .aload_n 0, 1), (14, .iconst 1, 1), (15, .invokevirtual 373, 3), (18, .ireturn, 1), (19, .iconst 0, 1), (20, .istore_n 2, 1), (21, .iconst 0, 1), (22, .istore_n 3, 1), (23, .iload_n 3, 1), (24, .aload_n 0, 1), (25, .getfield 119, 3), (28, .if_icmp .ge 37, 3), (31, .aload_n 0, 1), (32, .getfield 63, 3), (35, .iload_n 3, 1), (36, .iload_n 1, 1), (37, .iload_n 3, 1), (38, .invokestatic 472, 3), (41, .ifCond .eq 7, 3), (44, .iconst 1, 1), (45, .goto 4, 3), (48, .iconst 0, 1), (49, .iastore, 1), (50, .iload_n 2, 1), (51, .aload_n 0, 1), (52, .getfield 63, 3), (55, .iload_n 3, 1), (56, .iaload, 1), (57, .iadd, 1), (58, .istore_n 2, 1), (59, .iinc 3 1, 3), (62, .goto (-39), 3), (65, .iload_n 2, 1), (66, .ireturn, 1)]
set_option maxRecDepth 100000 in
theorem kX10_mark_ok : ∀ q ∈ kX10_mark, decode cX10_mark q.1 = .ok (q.2.1, q.2.2) := by decide +kernel
def kX10_pairsBy : List (Nat × Instr × Nat) := [(0, .iconst 0, 1), (1, .istore_n 3, 1), (2, .iconst 0, 1), (3, .istore 4, 2), (5, .iload 4, 2), (7, .aload_n 0, 1), (8, .getfield 119, 3), (11, .if_icmp .ge 77, 3), (14, .iconst 0, 1), (15, .istore 5, 2), (17, .iload 5, 2), (19, .aload_n 0, 1), (20, .getfield 119, 3), (23, .if_icmp .ge 59, 3), (26, .iload_n 3, 1), (27, .iload 4, 2), (29, .iload 5, 2), (31, .if_icmp .eq 42, 3), (34, .iload_n 1, 1), (35, .iload 4, 2), (37, .invokestatic 472, 3), (40, .ifCond .eq 33, 3), (43, .iload_n 1, 1), (44, .iload 5, 2), (46, .invokestatic 472, 3), (49, .ifCond .eq 24, 3), (52, .aload_n 0, 1), (53, .iload 4, 2), (55, .aload_n 0, 1), (56, .getfield 19, 3), (59, .iload 5, 2), (61, .iaload, 1), (62, .invokevirtual 139, 3), (65, .iload_n 2, 1), (66, .if_icmp .ne 7, 3), (69, .iconst 1, 1), (70, .goto 4, 3), (73, .iconst 0, 1), (74, .iadd, 1), (75, .istore_n 3, 1), (76, .iinc 5 1, 3), (79, .goto (-62), 3), (82, .iinc 4 1, 3), (85, .goto (-80), 3), (88, .iload_n 3, 1), (89, .ireturn, 1)]
set_option maxRecDepth 100000 in
theorem kX10_pairsBy_ok : ∀ q ∈ kX10_pairsBy, decode cX10_pairsBy q.1 = .ok (q.2.1, q.2.2) := by decide +kernel
def kX10_differences : List (Nat × Instr × Nat) := [(0, .aload_n 0, 1), (1, .iconst 0, 1), (2, .putfield 104, 3), (5, .aload_n 0, 1), (6, .iload_n 1, 1), (7, .invokevirtual 469, 3), (10, .ifCond .ne 9, 3), (13, .aload_n 0, 1), (14, .iconst 1, 1), (15, .invokevirtual 373, 3), (18, .ireturn, 1), (19, .aload_n 0, 1), (20, .iload_n 1, 1), (21, .iconst 1, 1), (22, .invokevirtual 475, 3), (25, .istore_n 2, 1), (26, .iconst 2, 1), (27, .istore_n 3, 1), (28, .iload_n 3, 1), (29, .aload_n 0, 1), (30, .getfield 119, 3), (33, .if_icmp .ge 21, 3), (36, .aload_n 0, 1), (37, .iload_n 1, 1), (38, .iload_n 3, 1), (39, .invokevirtual 475, 3), (42, .iload_n 2, 1), (43, .if_icmp .eq 5, 3), (46, .iconst (-1), 1), (47, .ireturn, 1), (48, .iinc 3 1, 3), (51, .goto (-23), 3), (54, .iload_n 2, 1), (55, .ireturn, 1)]
set_option maxRecDepth 100000 in
theorem kX10_differences_ok : ∀ q ∈ kX10_differences, decode cX10_differences q.1 = .ok (q.2.1, q.2.2) := by decide +kernel
def kX10_cyclotomic : List (Nat × Instr × Nat) := [(0, .aload_n 0, 1), (1, .iconst 0, 1), (2, .putfield 104, 3), (5, .aload_n 0, 1), (6, .iload_n 1, 1), (7, .iload_n 2, 1), (8, .invokevirtual 345, 3), (11, .ifCond .eq 16, 3), (14, .iload_n 3, 1), (15, .i2l, 1), (16, .lconst 0, 1), (17, .iload_n 1, 1), (18, .iconst 1, 1), (19, .isub, 1), (20, .i2l, 1), (21, .invokestatic 162, 3), (24, .ifCond .ne 9, 3), (27, .aload_n 0, 1), (28, .iconst 1, 1), (29, .invokevirtual 373, 3), (32, .ireturn, 1), (33, .iconst 0, 1), (34, .istore 4, 2), (36, .iconst 1, 1), (37, .istore 5, 2), (39, .iload 5, 2), (41, .aload_n 0, 1), (42, .getfield 119, 3), (45, .if_icmp .ge 59, 3), (48, .aload_n 0, 1), (49, .iconst 1, 1), (50, .iload 5, 2), (52, .invokevirtual 139, 3), (55, .istore 6, 2), (57, .iload 4, 2), (59, .aload_n 0, 1), (60, .getfield 22, 3), (63, .iload 5, 2), (65, .iaload, 1), (66, .iload_n 1, 1), (67, .irem, 1), (68, .iload_n 2, 1), (69, .if_icmp .ne 25, 3), (72, .iload 6, 2), (74, .ifCond .eq 20, 3), (77, .aload_n 0, 1), (78, .getfield 22, 3), (81, .iload 6, 2), (83, .iaload, 1), (84, .iload_n 1, 1), (85, .irem, 1), (86, .iload_n 3, 1), (87, .if_icmp .ne 7, 3), (90, .iconst 1, 1), (91, .goto 4, 3), (94, .iconst 0, 1), (95, .iadd, 1), (96, .istore 4, 2), (98, .iinc 5 1, 3), (101, .goto (-62), 3), (104, .iload 4, 2), (106, .ireturn, 1)]
set_option maxRecDepth 100000 in
theorem kX10_cyclotomic_ok : ∀ q ∈ kX10_cyclotomic, decode cX10_cyclotomic q.1 = .ok (q.2.1, q.2.2) := by decide +kernel
def kX10_write : List (Nat × Instr × Nat) := [(0, .aload_n 0, 1), (1, .getfield 97, 3), (4, .aload_n 0, 1), (5, .getfield 478, 3), (8, .iload_n 1, 1), (9, .iastore, 1), (10, .aload_n 0, 1), (11, .dup, 1), (12, .getfield 478, 3), (15, .iconst 1, 1), (16, .iadd, 1), (17, .putfield 478, 3), (20, .return_, 1)]
set_option maxRecDepth 100000 in
theorem kX10_write_ok : ∀ q ∈ kX10_write, decode cX10_write q.1 = .ok (q.2.1, q.2.2) := by decide +kernel
def kX10_writeNumber : List (Nat × Instr × Nat) := [(0, .lload_n 1, 1), (1, .ldc2_w 481, 3), (4, .lcmp, 1), (5, .ifCond .le 12, 3), (8, .aload_n 0, 1), (9, .lload_n 1, 1), (10, .ldc2_w 483, 3), (13, .ldiv, 1), (14, .invokevirtual 485, 3), (17, .aload_n 0, 1), (18, .bipush 48, 2), (20, .lload_n 1, 1), (21, .ldc2_w 483, 3), (24, .lrem, 1), (25, .l2i, 1), (26, .iadd, 1), (27, .invokevirtual 489, 3), (30, .return_, 1)]
set_option maxRecDepth 100000 in
theorem kX10_writeNumber_ok : ∀ q ∈ kX10_writeNumber, decode cX10_writeNumber q.1 = .ok (q.2.1, q.2.2) := by decide +kernel
def kX10_writePart : List (Nat × Instr × Nat) := [(0, .lload_n 1, 1), (1, .lconst 0, 1), (2, .lcmp, 1), (3, .ifCond .ge 12, 3), (6, .aload_n 0, 1), (7, .bipush 45, 2), (9, .invokevirtual 489, 3), (12, .goto 16, 3), (15, .aload_n 0, 1), (16, .getfield 478, 3), (19, .ifCond .le 9, 3), (22, .aload_n 0, 1), (23, .bipush 43, 2), (25, .invokevirtual 489, 3), (28, .lload_n 1, 1), (29, .invokestatic 492, 3), (32, .lstore 4, 2), (34, .lload 4, 2), (36, .lconst 1, 1), (37, .lcmp, 1), (38, .ifCond .ne 7, 3), (41, .iload_n 3, 1), (42, .ifCond .ne 9, 3), (45, .aload_n 0, 1), (46, .lload 4, 2), (48, .invokevirtual 485, 3), (51, .iload_n 3, 1), (52, .ifCond .le 9, 3), (55, .aload_n 0, 1), (56, .bipush 122, 2), (58, .invokevirtual 489, 3), (61, .iload_n 3, 1), (62, .iconst 1, 1), (63, .if_icmp .le 9, 3), (66, .aload_n 0, 1), (67, .iload_n 3, 1), (68, .i2l, 1), (69, .invokevirtual 485, 3), (72, .return_, 1)]
set_option maxRecDepth 100000 in
theorem kX10_writePart_ok : ∀ q ∈ kX10_writePart, decode cX10_writePart q.1 = .ok (q.2.1, q.2.2) := by decide +kernel
def kX10_say : List (Nat × Instr × Nat) := [(0, .aload_n 0, 1), (1, .iconst 0, 1), (2, .putfield 104, 3), (5, .iload_n 1, 1), (6, .invokestatic 370, 3), (9, .ifCond .ne 9, 3), (12, .aload_n 0, 1), (13, .iconst 1, 1), (14, .invokevirtual 373, 3), (17, .ireturn, 1), (18, .aload_n 0, 1), (19, .iconst 0, 1), (20, .putfield 478, 3), (23, .aload_n 0, 1), (24, .getfield 178, 3), (27, .iconst 1, 1), (28, .isub, 1), (29, .istore_n 2, 1), (30, .iload_n 2, 1), (31, .ifCond .lt 39, 3), (34, .aload_n 0, 1), (35, .getfield 57, 3), (38, .iload_n 1, 1), (39, .iload_n 2, 1), (40, .invokestatic 184, 3), (43, .laload, 1), (44, .lconst 0, 1), (45, .lcmp, 1), (46, .ifCond .eq 18, 3), (49, .aload_n 0, 1), (50, .aload_n 0, 1), (51, .getfield 57, 3), (54, .iload_n 1, 1), (55, .iload_n 2, 1), (56, .invokestatic 184, 3), (59, .laload, 1), (60, .iload_n 2, 1), (61, .invokevirtual 496, 3), (64, .iinc 2 (-1), 3), (67, .goto (-37), 3), (70, .aload_n 0, 1), (71, .getfield 478, 3), (74, .ifCond .ne 9, 3), (77, .aload_n 0, 1), (78, .bipush 48, 2), (80, .invokevirtual 489, 3), (83, .aload_n 0, 1), (84, .getfield 478, 3), (87, .ireturn, 1)]
set_option maxRecDepth 100000 in
theorem kX10_say_ok : ∀ q ∈ kX10_say, decode cX10_say q.1 = .ok (q.2.1, q.2.2) := by decide +kernel
def kX10_said : List (Nat × Instr × Nat) := [(0, .aload_n 0, 1), (1, .iconst 0, 1), (2, .putfield 104, 3), (5, .iload_n 1, 1), (6, .i2l, 1), (7, .lconst 0, 1), (8, .aload_n 0, 1), (9, .getfield 478, 3), (12, .iconst 1, 1), (13, .isub, 1), (14, .i2l, 1), (15, .invokestatic 162, 3), (18, .ifCond .eq 12, 3), (21, .aload_n 0, 1), (22, .getfield 97, 3), (25, .iload_n 1, 1), (26, .iaload, 1), (27, .goto 4, 3), (30, .iconst (-1), 1), (31, .ireturn, 1)]
set_option maxRecDepth 100000 in
theorem kX10_said_ok : ∀ q ∈ kX10_said, decode cX10_said q.1 = .ok (q.2.1, q.2.2) := by decide +kernel
def kJ6_bitCount_0f7a4 : List (Nat × Instr × Nat) := [(0, .iload_n 0, 1), (1, .iload_n 0, 1), (2, .iconst 1, 1), (3, .iushr, 1), (4, .ldc_w 265, 3), (7, .iand, 1), (8, .isub, 1), (9, .istore_n 0, 1), (10, .iload_n 0, 1), (11, .ldc_w 266, 3), (14, .iand, 1), (15, .iload_n 0, 1), (16, .iconst 2, 1), (17, .iushr, 1), (18, .ldc_w 266, 3), (21, .iand, 1), (22, .iadd, 1), (23, .istore_n 0, 1), (24, .iload_n 0, 1), (25, .iload_n 0, 1), (26, .iconst 4, 1), (27, .iushr, 1), (28, .iadd, 1), (29, .ldc_w 267, 3), (32, .iand, 1), (33, .istore_n 0, 1), (34, .iload_n 0, 1), (35, .iload_n 0, 1), (36, .bipush 8, 2), (38, .iushr, 1), (39, .iadd, 1), (40, .istore_n 0, 1), (41, .iload_n 0, 1), (42, .iload_n 0, 1), (43, .bipush 16, 2), (45, .iushr, 1), (46, .iadd, 1), (47, .istore_n 0, 1), (48, .iload_n 0, 1), (49, .bipush 63, 2), (51, .iand, 1), (52, .ireturn, 1)]
set_option maxRecDepth 100000 in
theorem kJ6_bitCount_0f7a4_ok : ∀ q ∈ kJ6_bitCount_0f7a4, decode cJ6_bitCount_0f7a4 q.1 = .ok (q.2.1, q.2.2) := by decide +kernel
def kJ9_abs_0f7a4 : List (Nat × Instr × Nat) := [(0, .iload_n 0, 1), (1, .ifCond .ge 8, 3), (4, .iload_n 0, 1), (5, .ineg, 1), (6, .goto 4, 3), (9, .iload_n 0, 1), (10, .ireturn, 1)]
set_option maxRecDepth 100000 in
theorem kJ9_abs_0f7a4_ok : ∀ q ∈ kJ9_abs_0f7a4, decode cJ9_abs_0f7a4 q.1 = .ok (q.2.1, q.2.2) := by decide +kernel
def kJ9_abs_067f4 : List (Nat × Instr × Nat) := [(0, .lload_n 0, 1), (1, .lconst 0, 1), (2, .lcmp, 1), (3, .ifCond .ge 8, 3), (6, .lload_n 0, 1), (7, .lneg, 1), (8, .goto 4, 3), (11, .lload_n 0, 1), (12, .lreturn, 1)]
set_option maxRecDepth 100000 in
theorem kJ9_abs_067f4_ok : ∀ q ∈ kJ9_abs_067f4, decode cJ9_abs_067f4 q.1 = .ok (q.2.1, q.2.2) := by decide +kernel
def kJ9_min_7cf53 : List (Nat × Instr × Nat) := [(0, .iload_n 0, 1), (1, .iload_n 1, 1), (2, .if_icmp .gt 7, 3), (5, .iload_n 0, 1), (6, .goto 4, 3), (9, .iload_n 1, 1), (10, .ireturn, 1)]
set_option maxRecDepth 100000 in
theorem kJ9_min_7cf53_ok : ∀ q ∈ kJ9_min_7cf53, decode cJ9_min_7cf53 q.1 = .ok (q.2.1, q.2.2) := by decide +kernel
def kJ7_fill_d0a16 : List (Nat × Instr × Nat) := [(0, .iconst 0, 1), (1, .istore_n 3, 1), (2, .aload_n 0, 1), (3, .arraylength, 1), (4, .istore 4, 2), (6, .iload_n 3, 1), (7, .iload 4, 2), (9, .if_icmp .ge 13, 3), (12, .aload_n 0, 1), (13, .iload_n 3, 1), (14, .lload_n 1, 1), (15, .lastore, 1), (16, .iinc 3 1, 3), (19, .goto (-13), 3), (22, .return_, 1)]
set_option maxRecDepth 100000 in
theorem kJ7_fill_d0a16_ok : ∀ q ∈ kJ7_fill_d0a16, decode cJ7_fill_d0a16 q.1 = .ok (q.2.1, q.2.2) := by decide +kernel
def kJ7_fill_53178 : List (Nat × Instr × Nat) := [(0, .iconst 0, 1), (1, .istore_n 2, 1), (2, .aload_n 0, 1), (3, .arraylength, 1), (4, .istore_n 3, 1), (5, .iload_n 2, 1), (6, .iload_n 3, 1), (7, .if_icmp .ge 13, 3), (10, .aload_n 0, 1), (11, .iload_n 2, 1), (12, .iload_n 1, 1), (13, .iastore, 1), (14, .iinc 2 1, 3), (17, .goto (-12), 3), (20, .return_, 1)]
set_option maxRecDepth 100000 in
theorem kJ7_fill_53178_ok : ∀ q ∈ kJ7_fill_53178, decode cJ7_fill_53178 q.1 = .ok (q.2.1, q.2.2) := by decide +kernel
def kL_tell : List (Nat × Instr × Nat) := [(0, .aload_n 3, 1), (1, .iconst 0, 1), (2, .aload_n 0, 1), (3, .iload_n 1, 1), (4, .iload_n 2, 1), (5, .invokevirtual 7, 3), (8, .i2l, 1), (9, .lastore, 1), (10, .goto 7, 3), (13, .astore 4, 2), (15, .iconst 1, 1), (16, .ireturn, 1), (17, .iconst 0, 1), (18, .ireturn, 1)]
set_option maxRecDepth 100000 in
theorem kL_tell_ok : ∀ q ∈ kL_tell, decode cL_tell q.1 = .ok (q.2.1, q.2.2) := by decide +kernel
def kL_count : List (Nat × Instr × Nat) := [(0, .aload_n 2, 1), (1, .iconst 0, 1), (2, .aload_n 0, 1), (3, .iload_n 1, 1), (4, .invokevirtual 15, 3), (7, .i2l, 1), (8, .lastore, 1), (9, .goto 6, 3), (12, .astore_n 3, 1), (13, .iconst 1, 1), (14, .ireturn, 1), (15, .iconst 0, 1), (16, .ireturn, 1)]
set_option maxRecDepth 100000 in
theorem kL_count_ok : ∀ q ∈ kL_count, decode cL_count q.1 = .ok (q.2.1, q.2.2) := by decide +kernel
def kL_element : List (Nat × Instr × Nat) := [(0, .aload 4, 2), (2, .iconst 0, 1), (3, .aload_n 0, 1), (4, .iload_n 1, 1), (5, .iload_n 2, 1), (6, .iload_n 3, 1), (7, .invokevirtual 21, 3), (10, .i2l, 1), (11, .lastore, 1), (12, .goto 7, 3), (15, .astore 5, 2), (17, .iconst 1, 1), (18, .ireturn, 1), (19, .iconst 0, 1), (20, .ireturn, 1)]
set_option maxRecDepth 100000 in
theorem kL_element_ok : ∀ q ∈ kL_element, decode cL_element q.1 = .ok (q.2.1, q.2.2) := by decide +kernel
end
section
def kL_log : List (Nat × Instr × Nat) := [(0, .aload_n 2, 1), (1, .iconst 0, 1), (2, .aload_n 0, 1), (3, .iload_n 1, 1), (4, .invokevirtual 25, 3), (7, .i2l, 1), (8, .lastore, 1), (9, .goto 6, 3), (12, .astore_n 3, 1), (13, .iconst 1, 1), (14, .ireturn, 1), (15, .iconst 0, 1), (16, .ireturn, 1)]
set_option maxRecDepth 100000 in
theorem kL_log_ok : ∀ q ∈ kL_log, decode cL_log q.1 = .ok (q.2.1, q.2.2) := by decide +kernel
def kL_trace : List (Nat × Instr × Nat) := [(0, .aload_n 2, 1), (1, .iconst 0, 1), (2, .aload_n 0, 1), (3, .iload_n 1, 1), (4, .invokevirtual 28, 3), (7, .i2l, 1), (8, .lastore, 1), (9, .goto 6, 3), (12, .astore_n 3, 1), (13, .iconst 1, 1), (14, .ireturn, 1), (15, .iconst 0, 1), (16, .ireturn, 1)]
set_option maxRecDepth 100000 in
theorem kL_trace_ok : ∀ q ∈ kL_trace, decode cL_trace q.1 = .ok (q.2.1, q.2.2) := by decide +kernel
def kL_character : List (Nat × Instr × Nat) := [(0, .aload_n 3, 1), (1, .iconst 0, 1), (2, .aload_n 0, 1), (3, .iload_n 1, 1), (4, .iload_n 2, 1), (5, .invokevirtual 31, 3), (8, .i2l, 1), (9, .lastore, 1), (10, .goto 7, 3), (13, .astore 4, 2), (15, .iconst 1, 1), (16, .ireturn, 1), (17, .iconst 0, 1), (18, .ireturn, 1)]
set_option maxRecDepth 100000 in
theorem kL_character_ok : ∀ q ∈ kL_character, decode cL_character q.1 = .ok (q.2.1, q.2.2) := by decide +kernel
def kL_order : List (Nat × Instr × Nat) := [(0, .aload_n 2, 1), (1, .iconst 0, 1), (2, .aload_n 0, 1), (3, .iload_n 1, 1), (4, .invokevirtual 34, 3), (7, .i2l, 1), (8, .lastore, 1), (9, .goto 6, 3), (12, .astore_n 3, 1), (13, .iconst 1, 1), (14, .ireturn, 1), (15, .iconst 0, 1), (16, .ireturn, 1)]
set_option maxRecDepth 100000 in
theorem kL_order_ok : ∀ q ∈ kL_order, decode cL_order q.1 = .ok (q.2.1, q.2.2) := by decide +kernel
def kL_coefficient : List (Nat × Instr × Nat) := [(0, .aload_n 3, 1), (1, .iconst 0, 1), (2, .aload_n 0, 1), (3, .iload_n 1, 1), (4, .iload_n 2, 1), (5, .invokevirtual 37, 3), (8, .i2l, 1), (9, .lastore, 1), (10, .goto 7, 3), (13, .astore 4, 2), (15, .iconst 1, 1), (16, .ireturn, 1), (17, .iconst 0, 1), (18, .ireturn, 1)]
set_option maxRecDepth 100000 in
theorem kL_coefficient_ok : ∀ q ∈ kL_coefficient, decode cL_coefficient q.1 = .ok (q.2.1, q.2.2) := by decide +kernel
def kL_of : List (Nat × Instr × Nat) := [(0, .aload_n 3, 1), (1, .iconst 0, 1), (2, .aload_n 0, 1), (3, .iload_n 1, 1), (4, .iload_n 2, 1), (5, .invokevirtual 40, 3), (8, .lastore, 1), (9, .goto 7, 3), (12, .astore 4, 2), (14, .iconst 1, 1), (15, .ireturn, 1), (16, .iconst 0, 1), (17, .ireturn, 1)]
set_option maxRecDepth 100000 in
theorem kL_of_ok : ∀ q ∈ kL_of, decode cL_of q.1 = .ok (q.2.1, q.2.2) := by decide +kernel
def kL_same : List (Nat × Instr × Nat) := [(0, .aload_n 3, 1), (1, .iconst 0, 1), (2, .aload_n 0, 1), (3, .iload_n 1, 1), (4, .iload_n 2, 1), (5, .invokevirtual 44, 3), (8, .ifCond .eq 7, 3), (11, .lconst 1, 1), (12, .goto 4, 3), (15, .lconst 0, 1), (16, .lastore, 1), (17, .goto 7, 3), (20, .astore 4, 2), (22, .iconst 1, 1), (23, .ireturn, 1), (24, .iconst 0, 1), (25, .ireturn, 1)]
set_option maxRecDepth 100000 in
theorem kL_same_ok : ∀ q ∈ kL_same, decode cL_same q.1 = .ok (q.2.1, q.2.2) := by decide +kernel
def kL_solutions : List (Nat × Instr × Nat) := [(0, .aload 6, 2), (2, .iconst 0, 1), (3, .aload_n 0, 1), (4, .iload_n 1, 1), (5, .iload_n 2, 1), (6, .iload_n 3, 1), (7, .iload 4, 2), (9, .iload 5, 2), (11, .invokevirtual 48, 3), (14, .i2l, 1), (15, .lastore, 1), (16, .goto 11, 3), (19, .astore 7, 2), (21, .iconst 1, 1), (22, .ireturn, 1), (23, .astore 7, 2), (25, .iconst 2, 1), (26, .ireturn, 1), (27, .iconst 0, 1), (28, .ireturn, 1)]
set_option maxRecDepth 100000 in
theorem kL_solutions_ok : ∀ q ∈ kL_solutions, decode cL_solutions q.1 = .ok (q.2.1, q.2.2) := by decide +kernel
def kL_points : List (Nat × Instr × Nat) := [(0, .aload 5, 2), (2, .iconst 0, 1), (3, .aload_n 0, 1), (4, .iload_n 1, 1), (5, .iload_n 2, 1), (6, .iload_n 3, 1), (7, .iload 4, 2), (9, .invokevirtual 52, 3), (12, .i2l, 1), (13, .lastore, 1), (14, .goto 11, 3), (17, .astore 6, 2), (19, .iconst 1, 1), (20, .ireturn, 1), (21, .astore 6, 2), (23, .iconst 2, 1), (24, .ireturn, 1), (25, .iconst 0, 1), (26, .ireturn, 1)]
set_option maxRecDepth 100000 in
theorem kL_points_ok : ∀ q ∈ kL_points, decode cL_points q.1 = .ok (q.2.1, q.2.2) := by decide +kernel
def kL_rows : List (Nat × Instr × Nat) := [(0, .aload 4, 2), (2, .iconst 0, 1), (3, .aload_n 0, 1), (4, .iload_n 1, 1), (5, .iload_n 2, 1), (6, .iload_n 3, 1), (7, .invokevirtual 56, 3), (10, .i2l, 1), (11, .lastore, 1), (12, .goto 11, 3), (15, .astore 5, 2), (17, .iconst 1, 1), (18, .ireturn, 1), (19, .astore 5, 2), (21, .iconst 2, 1), (22, .ireturn, 1), (23, .iconst 0, 1), (24, .ireturn, 1)]
set_option maxRecDepth 100000 in
theorem kL_rows_ok : ∀ q ∈ kL_rows, decode cL_rows q.1 = .ok (q.2.1, q.2.2) := by decide +kernel
def kL_lifted : List (Nat × Instr × Nat) := [(0, .aload 4, 2), (2, .iconst 0, 1), (3, .aload_n 0, 1), (4, .iload_n 1, 1), (5, .iload_n 2, 1), (6, .iload_n 3, 1), (7, .invokevirtual 59, 3), (10, .i2l, 1), (11, .lastore, 1), (12, .goto 7, 3), (15, .astore 5, 2), (17, .iconst 1, 1), (18, .ireturn, 1), (19, .iconst 0, 1), (20, .ireturn, 1)]
set_option maxRecDepth 100000 in
theorem kL_lifted_ok : ∀ q ∈ kL_lifted, decode cL_lifted q.1 = .ok (q.2.1, q.2.2) := by decide +kernel
def kL_curve : List (Nat × Instr × Nat) := [(0, .aload_n 3, 1), (1, .iconst 0, 1), (2, .aload_n 0, 1), (3, .iload_n 1, 1), (4, .iload_n 2, 1), (5, .invokevirtual 62, 3), (8, .i2l, 1), (9, .lastore, 1), (10, .goto 7, 3), (13, .astore 4, 2), (15, .iconst 1, 1), (16, .ireturn, 1), (17, .iconst 0, 1), (18, .ireturn, 1)]
set_option maxRecDepth 100000 in
theorem kL_curve_ok : ∀ q ∈ kL_curve, decode cL_curve q.1 = .ok (q.2.1, q.2.2) := by decide +kernel
def kL_least : List (Nat × Instr × Nat) := [(0, .aload_n 3, 1), (1, .iconst 0, 1), (2, .aload_n 0, 1), (3, .iload_n 1, 1), (4, .iload_n 2, 1), (5, .invokevirtual 65, 3), (8, .i2l, 1), (9, .lastore, 1), (10, .goto 7, 3), (13, .astore 4, 2), (15, .iconst 1, 1), (16, .ireturn, 1), (17, .iconst 0, 1), (18, .ireturn, 1)]
set_option maxRecDepth 100000 in
theorem kL_least_ok : ∀ q ∈ kL_least, decode cL_least q.1 = .ok (q.2.1, q.2.2) := by decide +kernel
def kL_let : List (Nat × Instr × Nat) := [(0, .aload_n 3, 1), (1, .iconst 0, 1), (2, .aload_n 0, 1), (3, .iload_n 1, 1), (4, .iload_n 2, 1), (5, .invokevirtual 68, 3), (8, .i2l, 1), (9, .lastore, 1), (10, .goto 11, 3), (13, .astore 4, 2), (15, .iconst 1, 1), (16, .ireturn, 1), (17, .astore 4, 2), (19, .iconst 2, 1), (20, .ireturn, 1), (21, .iconst 0, 1), (22, .ireturn, 1)]
set_option maxRecDepth 100000 in
theorem kL_let_ok : ∀ q ∈ kL_let, decode cL_let q.1 = .ok (q.2.1, q.2.2) := by decide +kernel
def kL_alike : List (Nat × Instr × Nat) := [(0, .aload_n 2, 1), (1, .iconst 0, 1), (2, .aload_n 0, 1), (3, .iload_n 1, 1), (4, .invokevirtual 71, 3), (7, .i2l, 1), (8, .lastore, 1), (9, .goto 6, 3), (12, .astore_n 3, 1), (13, .iconst 1, 1), (14, .ireturn, 1), (15, .iconst 0, 1), (16, .ireturn, 1)]
set_option maxRecDepth 100000 in
theorem kL_alike_ok : ∀ q ∈ kL_alike, decode cL_alike q.1 = .ok (q.2.1, q.2.2) := by decide +kernel
def kL_mark : List (Nat × Instr × Nat) := [(0, .aload_n 2, 1), (1, .iconst 0, 1), (2, .aload_n 0, 1), (3, .iload_n 1, 1), (4, .invokevirtual 74, 3), (7, .i2l, 1), (8, .lastore, 1), (9, .goto 6, 3), (12, .astore_n 3, 1), (13, .iconst 1, 1), (14, .ireturn, 1), (15, .iconst 0, 1), (16, .ireturn, 1)]
set_option maxRecDepth 100000 in
theorem kL_mark_ok : ∀ q ∈ kL_mark, decode cL_mark q.1 = .ok (q.2.1, q.2.2) := by decide +kernel
def kL_differences : List (Nat × Instr × Nat) := [(0, .aload_n 2, 1), (1, .iconst 0, 1), (2, .aload_n 0, 1), (3, .iload_n 1, 1), (4, .invokevirtual 77, 3), (7, .i2l, 1), (8, .lastore, 1), (9, .goto 6, 3), (12, .astore_n 3, 1), (13, .iconst 1, 1), (14, .ireturn, 1), (15, .iconst 0, 1), (16, .ireturn, 1)]
set_option maxRecDepth 100000 in
theorem kL_differences_ok : ∀ q ∈ kL_differences, decode cL_differences q.1 = .ok (q.2.1, q.2.2) := by decide +kernel
def kL_cyclotomic : List (Nat × Instr × Nat) := [(0, .aload 4, 2), (2, .iconst 0, 1), (3, .aload_n 0, 1), (4, .iload_n 1, 1), (5, .iload_n 2, 1), (6, .iload_n 3, 1), (7, .invokevirtual 80, 3), (10, .i2l, 1), (11, .lastore, 1), (12, .goto 7, 3), (15, .astore 5, 2), (17, .iconst 1, 1), (18, .ireturn, 1), (19, .iconst 0, 1), (20, .ireturn, 1)]
set_option maxRecDepth 100000 in
theorem kL_cyclotomic_ok : ∀ q ∈ kL_cyclotomic, decode cL_cyclotomic q.1 = .ok (q.2.1, q.2.2) := by decide +kernel
def kL_say : List (Nat × Instr × Nat) := [(0, .aload_n 2, 1), (1, .iconst 0, 1), (2, .aload_n 0, 1), (3, .iload_n 1, 1), (4, .invokevirtual 83, 3), (7, .i2l, 1), (8, .lastore, 1), (9, .goto 6, 3), (12, .astore_n 3, 1), (13, .iconst 1, 1), (14, .ireturn, 1), (15, .iconst 0, 1), (16, .ireturn, 1)]
set_option maxRecDepth 100000 in
theorem kL_say_ok : ∀ q ∈ kL_say, decode cL_say q.1 = .ok (q.2.1, q.2.2) := by decide +kernel
end
section
/-! THE SMALL MACHINE: a method's code as a list, a heap as two lists of cells and pooled rows, numbers as Int (no overflow is asked for at each step), longs as Int64; 'mm_wp' runs a stretch of code and yields what must hold. -/
abbrev MV : Type := Int ⊕ Int64 ⊕ Option Nat ⊕ Nat
abbrev ME : Type := (Nat × List MV) ⊕ (Nat × Nat × (Int → Int)) ⊕ (Nat × (Int → Int64)) ⊕ (Nat × Nat)
abbrev HP : Type := Option Nat × List ME × List ME × Nat × (Nat → Int → Int)
abbrev LV : Type := List (Option MV)
abbrev Tr : Type := List MV → HP → (Option MV → HP → Prop) → (String → HP → Prop) → Prop
abbrev MC : Type := List (Nat × Instr × Nat)
abbrev mI (z : Int) : MV := .inl z
abbrev mL (x : Int64) : MV := .inr (.inl x)
abbrev mR (i : Nat) : MV := .inr (.inr (.inl (some i)))
abbrev mN : MV := .inr (.inr (.inl none))
abbrev mQ (r : Nat) : MV := .inr (.inr (.inr r))
abbrev eO (ci : Nat) (fs : List MV) : ME := .inl (ci, fs)
abbrev eI (k n : Nat) (f : Int → Int) : ME := .inr (.inl (k, n, f))
abbrev eL (n : Nat) (f : Int → Int64) : ME := .inr (.inr (.inl (n, f)))
abbrev eG (n b : Nat) : ME := .inr (.inr (.inr (n, b)))
def mm_rng (z : Int) : Prop := -2147483648 ≤ z ∧ z ≤ 2147483647
def mm_rngB (lo hi z : Int) : Bool := decide (lo ≤ z) && decide (z ≤ hi)
def mm_look {α : Type} : List (Nat × α) → Nat → Option α
  | [], _ => none
  | (k, v) :: t, i => match Nat.beq k i with
    | true => some v
    | false => mm_look t i
def mm_c1 : MV → Bool
  | .inr (.inl _) => false
  | _ => true
def mm_and (a b : Int) : Int := (Int32.ofInt a &&& Int32.ofInt b).toInt
def mm_or (a b : Int) : Int := (Int32.ofInt a ||| Int32.ofInt b).toInt
def mm_shl (a b : Int) : Int := (Int32.ofInt a <<< (Int32.ofInt b &&& 31)).toInt
def mm_shr (a b : Int) : Int := (Int32.ofInt a >>> (Int32.ofInt b &&& 31)).toInt
def mm_ushr (a b : Int) : Int := (((Int32.ofInt a).toUInt32 >>> ((Int32.ofInt b).toUInt32 &&& Int32.toUInt32 31)).toInt32).toInt
def mm_i2b (a : Int) : Int := ((Int32.ofInt a).toInt8.toInt32).toInt
def mm_cmp (x y : Int64) : Int := (lg_cmp x y).toInt
def mm_upd (f : Int → Int) (j v : Int) : Int → Int := fun i => if i = j then v else f i
def mm_updL (f : Int → Int64) (j : Int) (v : Int64) : Int → Int64 := fun i => if i = j then v else f i
def mm_updR (f : Nat → Int → Int) (r : Nat) (v : Int → Int) : Nat → Int → Int := fun i => if i = r then v else f i
/-- steps on the stack alone, nothing asked -/
def mm_p0 (lt : List (Nat × MV)) (ins : Instr) (st : List MV) : Option (List MV) :=
  match ins with
  | .iconst z => match mm_rngB (-2147483648) 2147483647 z with
    | true => some (mI z :: st)
    | false => none
  | .bipush z => match mm_rngB (-128) 127 z with
    | true => some (mI z :: st)
    | false => none
  | .sipush z => match mm_rngB (-32768) 32767 z with
    | true => some (mI z :: st)
    | false => none
  | .lconst k => some (mL (Int64.ofNat k.val) :: st)
  | .aconst_null => some (mN :: st)
  | .ldc i => match mm_look lt i with
    | some (.inl z) => match mm_rngB (-2147483648) 2147483647 z with
      | true => some (mI z :: st)
      | false => none
    | _ => none
  | .ldc_w i => match mm_look lt i with
    | some (.inl z) => match mm_rngB (-2147483648) 2147483647 z with
      | true => some (mI z :: st)
      | false => none
    | _ => none
  | .ldc2_w i => match mm_look lt i with
    | some (.inr (.inl x)) => some (mL x :: st)
    | _ => none
  | .dup => match st with
    | v :: r => match mm_c1 v with
      | true => some (v :: v :: r)
      | false => none
    | [] => none
  | .pop => match st with
    | v :: r => match mm_c1 v with
      | true => some r
      | false => none
    | [] => none
  | .dup2 => match st with
    | v :: r => match mm_c1 v with
      | false => some (v :: v :: r)
      | true => match r with
        | w :: r2 => match mm_c1 w with
          | true => some (v :: w :: v :: w :: r2)
          | false => none
        | [] => none
    | [] => none
  | .i2l => match st with
    | .inl z :: r => some (mL (Int64.ofInt z) :: r)
    | _ => none
  | .i2b => match st with
    | .inl z :: r => some (mI (mm_i2b z) :: r)
    | _ => none
  | .ladd => match st with
    | .inr (.inl y) :: .inr (.inl x) :: r => some (mL (x + y) :: r)
    | _ => none
  | .lsub => match st with
    | .inr (.inl y) :: .inr (.inl x) :: r => some (mL (x - y) :: r)
    | _ => none
  | .lmul => match st with
    | .inr (.inl y) :: .inr (.inl x) :: r => some (mL (x * y) :: r)
    | _ => none
  | .lneg => match st with
    | .inr (.inl x) :: r => some (mL (-x) :: r)
    | _ => none
  | .lcmp => match st with
    | .inr (.inl y) :: .inr (.inl x) :: r => some (mI (mm_cmp x y) :: r)
    | _ => none
  | .iand => match st with
    | .inl b :: .inl a :: r => some (mI (mm_and a b) :: r)
    | _ => none
  | .ior => match st with
    | .inl b :: .inl a :: r => some (mI (mm_or a b) :: r)
    | _ => none
  | .ishl => match st with
    | .inl b :: .inl a :: r => some (mI (mm_shl a b) :: r)
    | _ => none
  | .ishr => match st with
    | .inl b :: .inl a :: r => some (mI (mm_shr a b) :: r)
    | _ => none
  | .iushr => match st with
    | .inl b :: .inl a :: r => some (mI (mm_ushr a b) :: r)
    | _ => none
  | _ => none
/-- steps on the stack alone, with what they ask -/
def mm_p1 (ins : Instr) (st : List MV) : Option (Prop × List MV) :=
  match ins with
  | .iadd => match st with
    | .inl b :: .inl a :: r => some (mm_rng (a + b), mI (a + b) :: r)
    | _ => none
  | .isub => match st with
    | .inl b :: .inl a :: r => some (mm_rng (a - b), mI (a - b) :: r)
    | _ => none
  | .imul => match st with
    | .inl b :: .inl a :: r => some (mm_rng (a * b), mI (a * b) :: r)
    | _ => none
  | .ineg => match st with
    | .inl a :: r => some (mm_rng (-a), mI (-a) :: r)
    | _ => none
  | .idiv => match st with
    | .inl b :: .inl a :: r => some (b ≠ 0 ∧ mm_rng (a.tdiv b), mI (a.tdiv b) :: r)
    | _ => none
  | .irem => match st with
    | .inl b :: .inl a :: r => some (b ≠ 0 ∧ mm_rng (a.tdiv b), mI (a.tmod b) :: r)
    | _ => none
  | .ldiv => match st with
    | .inr (.inl y) :: .inr (.inl x) :: r => some (y ≠ 0, mL (x / y) :: r)
    | _ => none
  | .lrem => match st with
    | .inr (.inl y) :: .inr (.inl x) :: r => some (y ≠ 0, mL (x - x / y * y) :: r)
    | _ => none
  | .l2i => match st with
    | .inr (.inl x) :: r => some (mm_rng x.toInt, mI x.toInt :: r)
    | _ => none
  | _ => none
def mm_br (c : Jvm.ClassFile.Cond) (a b : Int) (J G : Prop) : Prop := match c with
  | .eq => (a = b → J) ∧ (¬ a = b → G)
  | .ne => (¬ a = b → J) ∧ (a = b → G)
  | .lt => (a < b → J) ∧ (b ≤ a → G)
  | .ge => (b ≤ a → J) ∧ (a < b → G)
  | .gt => (b < a → J) ∧ (a ≤ b → G)
  | .le => (a ≤ b → J) ∧ (b < a → G)
def mm_ts (a : Int) (J : Int → Prop) : Int → List Int → Prop
  | _, [] => True
  | lo, o :: t => (a = lo → J o) ∧ mm_ts a J (lo + 1) t
def mm_ls (a : Int) (J : Int → Prop) (d : Int) : List (Int × Int) → Prop
  | [] => J d
  | (k, o) :: t => (a = k → J o) ∧ (¬ a = k → mm_ls a J d t)
def mm_get (h : HP) (i : Nat) : Option ME := match Nat.blt i 1000 with
  | true => h.2.1[i]?
  | false => h.2.2.1[i - 1000]?
def mm_set (h : HP) (i : Nat) (e : ME) : HP := match Nat.blt i 1000 with
  | true => (h.1, h.2.1.set i e, h.2.2)
  | false => (h.1, h.2.1, h.2.2.1.set (i - 1000) e, h.2.2.2)
def mm_setR (h : HP) (r : Nat) (f : Int → Int) : HP := (h.1, h.2.1, h.2.2.1, h.2.2.2.1, mm_updR h.2.2.2.2 r f)
def mm_lpre (l : LV) : Nat → LV
  | 0 => l
  | k + 1 => match l[k]? with
    | some (some (.inr (.inl _))) => l.set k none
    | _ => l
def mm_lset (l : LV) (i : Nat) (v : MV) : LV :=
  match mm_c1 v with
  | true => (mm_lpre l i).set i (some v)
  | false => ((mm_lpre l i).set i (some v)).set (i + 1) none
/-- the width of a stack, as the machine weighs it -/
def mm_wd : List MV → Nat
  | [] => 0
  | v :: t => (match mm_c1 v with | true => 1 | false => 2) + mm_wd t
end
section
/-! how the small machine's heap, locals and stack lie in the real one -/
/-- tables' numbers, the array classes by kind, the base address, where the read-only arrays lie -/
abbrev SG : Type := va_G × (Nat → ClassId) × Nat × (Nat → Nat)
def mm_off (i : Nat) : Nat := match Nat.blt i 16 with
  | true => i
  | false => match Nat.blt i 33 with
    | true => i + 8
    | false => match Nat.blt i 1000 with
      | true => i + 24
      | false => i - 941
def mm_offr (r : Nat) : Nat := match Nat.blt r 8 with
  | true => 16 + r
  | false => 33 + r
def mm_ad (g : SG) (i : Nat) : Nat := match Nat.blt i 2000 with
  | true => g.2.2.1 + mm_off i
  | false => g.2.2.2 i
def mm_ar (g : SG) (r : Nat) : Nat := g.2.2.1 + mm_offr r
def mm_cv (g : SG) : MV → Value
  | .inl z => .int (Int32.ofInt z)
  | .inr (.inl x) => .long x
  | .inr (.inr (.inl none)) => .null
  | .inr (.inr (.inl (some i))) => .ref (mm_ad g i)
  | .inr (.inr (.inr r)) => .ref (mm_ar g r)
def mm_okV : MV → Prop
  | .inl z => mm_rng z
  | _ => True
def mm_okS : List MV → Prop
  | [] => True
  | v :: t => mm_okV v ∧ mm_okS t
def mm_conc (g : SG) : ME → va_E
  | .inl (ci, fs) => .inr (ci, fs.map (mm_cv g))
  | .inr (.inl (k, n, f)) => .inl (g.2.1 k, n, .inl (fun j => Int32.ofInt (f (j : Int))))
  | .inr (.inr (.inl (n, f))) => .inl (g.2.1 3, n, .inr (.inl (fun j => f (j : Int))))
  | .inr (.inr (.inr (n, b))) => .inl (g.2.1 4, n, .inr (.inr (.inr (.inr (fun j => some (mm_ar g (b + j)))))))
def mm_okE : ME → Prop
  | .inl (_, fs) => mm_okS fs
  | .inr (.inl (k, n, f)) => (k = 0 ∨ k = 1 ∨ k = 2) ∧ (∀ j : Nat, j < n → mm_rng (f j)) ∧ (k = 1 → ∀ j : Nat, j < n → f j = 0 ∨ f j = 1) ∧ (k = 2 → ∀ j : Nat, j < n → -128 ≤ f j ∧ f j ≤ 127) ∧ n < 2147483648
  | .inr (.inr (.inl (n, _))) => n < 2147483648
  | .inr (.inr (.inr (n, _))) => n < 2147483648
def mm_okES : List ME → Prop
  | [] => True
  | e :: t => mm_okE e ∧ mm_okES t
def mm_wC (g : SG) : Nat → List ME → va_W
  | _, [] => []
  | k, e :: t => (mm_ad g k, mm_conc g e) :: mm_wC g (k + 1) t
def mm_row (g : SG) (f : Int → Int) : va_E := .inl (g.2.1 0, 220, .inl (fun j => Int32.ofInt (f (j : Int))))
def mm_wR (g : SG) (n : Nat) (rows : Nat → Int → Int) : va_W := (List.range n).map (fun r => (mm_ar g r, mm_row g (rows r)))
def mm_wl (g : SG) (h : HP) : va_W := mm_wC g 0 h.2.1 ++ (mm_wC g 1000 h.2.2.1 ++ mm_wR g h.2.2.2.1 h.2.2.2.2)
def mm_pos (h : HP) (i : Nat) : Nat := match Nat.blt i 1000 with
  | true => i
  | false => h.2.1.length + (i - 1000)
theorem mm_wC_len (g : SG) : ∀ (L : List ME) (k : Nat), (mm_wC g k L).length = L.length
  | [], _ => rfl
  | e :: t, k => by simp [mm_wC, mm_wC_len g t (k + 1)]
theorem mm_wC_get (g : SG) : ∀ (L : List ME) (k i : Nat) (e : ME), L[i]? = some e → (mm_wC g k L)[i]? = some (mm_ad g (k + i), mm_conc g e)
  | [], _, _, _, h => by simp at h
  | x :: t, k, 0, e, h => by
    simp at h
    subst h
    simp [mm_wC]
  | x :: t, k, i + 1, e, h => by
    simp only [List.getElem?_cons_succ] at h
    have h1 := mm_wC_get g t (k + 1) i e h
    rw [show k + 1 + i = k + (i + 1) by omega] at h1
    simpa [mm_wC] using h1
theorem mm_wC_set (g : SG) : ∀ (L : List ME) (k i : Nat) (e : ME), (mm_wC g k L).set i (mm_ad g (k + i), mm_conc g e) = mm_wC g k (L.set i e)
  | [], _, _, _ => rfl
  | x :: t, k, 0, e => by simp [mm_wC]
  | x :: t, k, i + 1, e => by
    have h1 := mm_wC_set g t (k + 1) i e
    rw [show k + 1 + i = k + (i + 1) by omega] at h1
    simp [mm_wC, h1]
theorem mm_wR_len (g : SG) (n : Nat) (rows : Nat → Int → Int) : (mm_wR g n rows).length = n := by simp [mm_wR]
theorem mm_wR_get (g : SG) {n r : Nat} (rows : Nat → Int → Int) (h : r < n) : (mm_wR g n rows)[r]? = some (mm_ar g r, mm_row g (rows r)) := by
  simp [mm_wR, h]
theorem mm_wR_set (g : SG) {n r : Nat} (rows : Nat → Int → Int) (h : r < n) (f : Int → Int) : (mm_wR g n rows).set r (mm_ar g r, mm_row g f) = mm_wR g n (mm_updR rows r f) := by
  apply List.ext_getElem?
  intro i
  by_cases hi : i = r
  · subst hi
    rw [List.getElem?_set_self (by rw [mm_wR_len]; exact h), mm_wR_get g _ h]
    simp [mm_updR]
  · rw [List.getElem?_set_ne (Ne.symm hi)]
    by_cases hn : i < n
    · rw [mm_wR_get g _ hn, mm_wR_get g _ hn]
      simp [mm_updR, hi]
    · rw [List.getElem?_eq_none (by rw [mm_wR_len]; omega), List.getElem?_eq_none (by rw [mm_wR_len]; omega)]
theorem mm_blt_t {a b : Nat} (h : Nat.blt a b = true) : a < b := Nat.le_of_ble_eq_true h
theorem mm_blt_f {a b : Nat} (h : Nat.blt a b = false) : b ≤ a := by
  rcases Nat.lt_or_ge a b with q | q
  · have : Nat.blt a b = true := Nat.ble_eq_true_of_le q
    rw [this] at h
    cases h
  · exact q
theorem mm_wl_get (g : SG) {h : HP} {i : Nat} {e : ME} (he : mm_get h i = some e) : (mm_wl g h)[mm_pos h i]? = some (mm_ad g i, mm_conc g e) := by
  unfold mm_get at he
  unfold mm_wl mm_pos
  split at he
  · rename_i hb
    have h1 := mm_wC_get g h.2.1 0 i e he
    have hl : i < (mm_wC g 0 h.2.1).length := by rw [mm_wC_len]; exact (List.getElem?_eq_some_iff.mp he).1
    simp only [hb]
    rw [List.getElem?_append_left hl, h1, Nat.zero_add]
  · rename_i hb
    have h1 := mm_wC_get g h.2.2.1 1000 (i - 1000) e he
    have hb2 := mm_blt_f hb
    have hl : i - 1000 < (mm_wC g 1000 h.2.2.1).length := by rw [mm_wC_len]; exact (List.getElem?_eq_some_iff.mp he).1
    simp only [hb]
    rw [List.getElem?_append_right (by rw [mm_wC_len]; omega), mm_wC_len, Nat.add_sub_cancel_left, List.getElem?_append_left hl, h1, show 1000 + (i - 1000) = i by omega]
theorem mm_wl_set (g : SG) {h : HP} {i : Nat} {e0 : ME} (he : mm_get h i = some e0) (e : ME) : (mm_wl g h).set (mm_pos h i) (mm_ad g i, mm_conc g e) = mm_wl g (mm_set h i e) := by
  unfold mm_get at he
  unfold mm_wl mm_pos mm_set
  split at he
  · rename_i hb
    have hl : i < (mm_wC g 0 h.2.1).length := by rw [mm_wC_len]; exact (List.getElem?_eq_some_iff.mp he).1
    have h1 := mm_wC_set g h.2.1 0 i e
    rw [Nat.zero_add] at h1
    simp only [hb]
    rw [List.set_append_left _ _ hl, h1]
  · rename_i hb
    have hb2 := mm_blt_f hb
    have hl : i - 1000 < (mm_wC g 1000 h.2.2.1).length := by rw [mm_wC_len]; exact (List.getElem?_eq_some_iff.mp he).1
    have h1 := mm_wC_set g h.2.2.1 1000 (i - 1000) e
    rw [show 1000 + (i - 1000) = i by omega] at h1
    simp only [hb]
    rw [List.set_append_right _ _ (by rw [mm_wC_len]; omega), mm_wC_len, Nat.add_sub_cancel_left, List.set_append_left _ _ hl, h1]
theorem mm_wl_getR (g : SG) {h : HP} {r : Nat} (hr : r < h.2.2.2.1) : (mm_wl g h)[h.2.1.length + (h.2.2.1.length + r)]? = some (mm_ar g r, mm_row g (h.2.2.2.2 r)) := by
  unfold mm_wl
  rw [List.getElem?_append_right (by rw [mm_wC_len]; omega), mm_wC_len, Nat.add_sub_cancel_left, List.getElem?_append_right (by rw [mm_wC_len]; omega), mm_wC_len, Nat.add_sub_cancel_left, mm_wR_get g _ hr]
theorem mm_wl_setR (g : SG) {h : HP} {r : Nat} (hr : r < h.2.2.2.1) (f : Int → Int) : (mm_wl g h).set (h.2.1.length + (h.2.2.1.length + r)) (mm_ar g r, mm_row g f) = mm_wl g (mm_setR h r f) := by
  unfold mm_wl mm_setR
  rw [List.set_append_right _ _ (by rw [mm_wC_len]; omega), mm_wC_len, Nat.add_sub_cancel_left, List.set_append_right _ _ (by rw [mm_wC_len]; omega), mm_wC_len, Nat.add_sub_cancel_left, mm_wR_set g _ hr]
theorem mm_okES_get : ∀ (L : List ME) (i : Nat) (e : ME), mm_okES L → L[i]? = some e → mm_okE e
  | [], _, _, _, h => by simp at h
  | x :: t, 0, e, hk, h => by
    simp at h
    subst h
    exact hk.1
  | x :: t, i + 1, e, hk, h => mm_okES_get t i e hk.2 (by simpa using h)
theorem mm_okES_set : ∀ (L : List ME) (i : Nat) (e : ME), mm_okES L → mm_okE e → mm_okES (L.set i e)
  | [], _, _, _, _ => trivial
  | x :: t, 0, e, hk, h => ⟨h, hk.2⟩
  | x :: t, i + 1, e, hk, h => ⟨hk.1, mm_okES_set t i e hk.2 h⟩
theorem mm_okS_get : ∀ (L : List MV) (i : Nat) (v : MV), mm_okS L → L[i]? = some v → mm_okV v
  | [], _, _, _, h => by simp at h
  | x :: t, 0, e, hk, h => by
    simp at h
    subst h
    exact hk.1
  | x :: t, i + 1, e, hk, h => mm_okS_get t i e hk.2 (by simpa using h)
theorem mm_okS_set : ∀ (L : List MV) (i : Nat) (v : MV), mm_okS L → mm_okV v → mm_okS (L.set i v)
  | [], _, _, _, _ => trivial
  | x :: t, 0, e, hk, h => ⟨h, hk.2⟩
  | x :: t, i + 1, e, hk, h => ⟨hk.1, mm_okS_set t i e hk.2 h⟩
theorem mm_okS_app : ∀ (a b : List MV), mm_okS a → mm_okS b → mm_okS (a ++ b)
  | [], _, _, h => h
  | _ :: t, b, h1, h2 => ⟨h1.1, mm_okS_app t b h1.2 h2⟩
theorem mm_okS_of : ∀ (a : List MV), (∀ v ∈ a, mm_okV v) → mm_okS a
  | [], _ => trivial
  | v :: t, h => ⟨h v List.mem_cons_self, mm_okS_of t (fun w hw => h w (List.mem_cons_of_mem _ hw))⟩
theorem mm_okS_mem : ∀ (a : List MV), mm_okS a → ∀ v ∈ a, mm_okV v
  | [], _, v, h => by cases h
  | w :: t, hk, v, h => by
    rcases List.mem_cons.mp h with rfl | h
    · exact hk.1
    · exact mm_okS_mem t hk.2 v h
def mm_A (g : SG) : Nat → Prop := fun q => g.2.2.1 ≤ q
/-- the heap holds the small machine's -/
def mm_okH (g : SG) (h : HP) (H : Heap) : Prop := va_P g.1 vwCl (mm_wl g h) H ∧ va_D (mm_A g) (mm_wl g h) ∧ mm_okES h.2.1 ∧ mm_okES h.2.2.1 ∧ (∀ r : Nat, r < h.2.2.2.1 → ∀ j : Nat, j < 220 → mm_rng (h.2.2.2.2 r j)) ∧ g.2.2.1 ≤ H.size ∧ ∀ t, h.1 = some t → H.size = g.2.2.1 + t
def mm_tys (g : SG) : List (ClassId × FieldType) := [(g.2.1 0, .int), (g.2.1 1, .boolean), (g.2.1 2, .byte), (g.2.1 3, .long), (g.2.1 4, .array .int)]
def mm_lvl (g : SG) : Nat → LV → List (Nat × Value)
  | _, [] => []
  | k, none :: t => mm_lvl g (k + 1) t
  | k, some v :: t => (k, mm_cv g v) :: mm_lvl g (k + 1) t
theorem mm_lvl_mem (g : SG) : ∀ (lv : LV) (k i : Nat) (w : Value), (i, w) ∈ mm_lvl g k lv ↔ ∃ (j : Nat) (v : MV), i = k + j ∧ lv[j]? = some (some v) ∧ w = mm_cv g v
  | [], k, i, w => by simp [mm_lvl]
  | none :: t, k, i, w => by
    rw [mm_lvl, mm_lvl_mem g t (k + 1) i w]
    constructor
    · rintro ⟨j, v, h1, h2, h3⟩
      exact ⟨j + 1, v, by omega, by simpa using h2, h3⟩
    · rintro ⟨j, v, h1, h2, h3⟩
      cases j with
      | zero => simp at h2
      | succ j => exact ⟨j, v, by omega, by simpa using h2, h3⟩
  | some u :: t, k, i, w => by
    rw [mm_lvl, List.mem_cons, mm_lvl_mem g t (k + 1) i w]
    constructor
    · rintro (h | ⟨j, v, h1, h2, h3⟩)
      · cases h
        exact ⟨0, u, rfl, by simp, rfl⟩
      · exact ⟨j + 1, v, by omega, by simpa using h2, h3⟩
    · rintro ⟨j, v, h1, h2, h3⟩
      cases j with
      | zero =>
        simp at h2
        subst h2
        left
        rw [h1, h3]
        rfl
      | succ j => exact Or.inr ⟨j, v, by omega, by simpa using h2, h3⟩
def mm_okL (g : SG) (lv : LV) (ls : Array Slot) (n : Nat) : Prop := lv_has ls n (mm_lvl g 0 lv) ∧ lv.length = n ∧ ∀ v : MV, some v ∈ lv → mm_okV v
theorem mm_ld {g : SG} {lv : LV} {ls : Array Slot} {n i : Nat} {v : MV} (h : mm_okL g lv ls n) (hi : lv[i]? = some (some v)) : ls[i]? = some (.val (mm_cv g v)) ∧ mm_okV v :=
  ⟨h.1.2.2 (i, mm_cv g v) ((mm_lvl_mem g lv 0 i _).mpr ⟨i, v, by omega, hi, rfl⟩), h.2.2 v (List.mem_of_getElem? hi)⟩
theorem mm_cat {g : SG} (v : MV) : (mm_cv g v).category = 2 ↔ mm_c1 v = false := by
  rcases v with z | x | o | r
  · simp [mm_cv, mm_c1, Value.category]
  · simp [mm_cv, mm_c1, Value.category]
  · rcases o with _ | i <;> simp [mm_cv, mm_c1, Value.category]
  · simp [mm_cv, mm_c1, Value.category]
theorem mm_cat1 {g : SG} {v : MV} (h : mm_c1 v = true) : (mm_cv g v).category = 1 := by
  rcases lv_cat (mm_cv g v) with q | q
  · exact q
  · rw [(mm_cat v).mp q] at h
    cases h
theorem mm_cat2 {g : SG} {v : MV} (h : mm_c1 v = false) : (mm_cv g v).category = 2 := (mm_cat v).mpr h
theorem mm_lpre_len (l : LV) (i : Nat) : (mm_lpre l i).length = l.length := by
  cases i with
  | zero => rfl
  | succ k =>
    simp only [mm_lpre]
    split <;> simp
theorem mm_lset_len (l : LV) (i : Nat) (v : MV) : (mm_lset l i v).length = l.length := by
  unfold mm_lset
  split <;> simp [mm_lpre_len]
theorem mm_lpre_get {l : LV} {i j : Nat} {u : MV} (hj : (mm_lpre l i)[j]? = some (some u)) (hne : j ≠ i) : l[j]? = some (some u) ∧ ¬ (j + 1 = i ∧ mm_c1 u = false) := by
  cases i with
  | zero => exact ⟨hj, by omega⟩
  | succ k =>
    simp only [mm_lpre] at hj
    split at hj
    · rename_i x hx
      by_cases e : j = k
      · subst e
        rw [List.getElem?_set] at hj
        simp only [if_true] at hj
        split at hj <;> cases hj
      · rw [List.getElem?_set_ne (Ne.symm e)] at hj
        exact ⟨hj, by omega⟩
    · rename_i hx
      refine ⟨hj, ?_⟩
      rintro ⟨e1, e2⟩
      have e3 : j = k := by omega
      subst e3
      rcases u with z | x | o
      · cases e2
      · exact hx x hj
      · cases o <;> cases e2
theorem mm_lset_key {l : LV} {i j : Nat} {v u : MV} (hj : ((mm_lpre l i).set i (some v))[j]? = some (some u)) : (j = i ∧ u = v) ∨ (j ≠ i ∧ l[j]? = some (some u) ∧ ¬ (j + 1 = i ∧ mm_c1 u = false)) := by
  by_cases e : j = i
  · subst e
    left
    rw [List.getElem?_set] at hj
    simp only [if_true] at hj
    split at hj
    · cases hj; exact ⟨rfl, rfl⟩
    · cases hj
  · right
    rw [List.getElem?_set_ne (Ne.symm e)] at hj
    exact ⟨e, mm_lpre_get hj e⟩
theorem mm_lset_get {l : LV} {i j : Nat} {v u : MV} (h : (mm_lset l i v)[j]? = some (some u)) : (j = i ∧ u = v) ∨ (j ≠ i ∧ l[j]? = some (some u) ∧ ¬ (j + 1 = i ∧ mm_c1 u = false) ∧ (mm_c1 v = false → j ≠ i + 1)) := by
  unfold mm_lset at h
  split at h
  · rename_i hv
    rcases mm_lset_key h with q | ⟨q1, q2, q3⟩
    · exact Or.inl q
    · exact Or.inr ⟨q1, q2, q3, by intro z; rw [hv] at z; cases z⟩
  · by_cases e : j = i + 1
    · subst e
      rw [List.getElem?_set] at h
      simp only [if_true] at h
      split at h <;> cases h
    · rw [List.getElem?_set_ne (Ne.symm e)] at h
      rcases mm_lset_key h with q | ⟨q1, q2, q3⟩
      · exact Or.inl q
      · exact Or.inr ⟨q1, q2, q3, fun _ => e⟩
theorem mm_okL_set {g : SG} {lv : LV} {ls ls' : Array Slot} {n i : Nat} {v : MV} (h : mm_okL g lv ls n) (hv : mm_okV v)
    (h' : lv_has ls' n ((i, mm_cv g v) :: (mm_lvl g 0 lv).filter (fun q => !(q.1 == i) && !(q.1 + 1 == i && q.2.category == 2)))) (hc : mm_c1 v = true) : mm_okL g (mm_lset lv i v) ls' n := by
  refine ⟨⟨h'.1, h'.2.1, fun q hq => ?_⟩, by rw [mm_lset_len]; exact h.2.1, fun w hw => ?_⟩
  · obtain ⟨j, u, e1, e2, e3⟩ := (mm_lvl_mem g _ 0 q.1 q.2).mp hq
    rw [Nat.zero_add] at e1
    apply h'.2.2
    rcases mm_lset_get e2 with ⟨a, b⟩ | ⟨a, b, d, -⟩
    · exact List.mem_cons.mpr (Or.inl (Prod.ext (by rw [e1, a]) (by rw [e3, b])))
    · refine List.mem_cons_of_mem _ ?_
      refine List.mem_filter.mpr ⟨(mm_lvl_mem g lv 0 q.1 q.2).mpr ⟨j, u, by omega, b, e3⟩, ?_⟩
      simp only [Bool.and_eq_true, Bool.not_eq_true', beq_eq_false_iff_ne, ne_eq, Bool.and_eq_false_iff]
      refine ⟨by omega, ?_⟩
      by_cases z : q.1 + 1 = i
      · right
        rw [e3, mm_cat]
        intro z2
        exact d ⟨by omega, z2⟩
      · exact Or.inl z
  · obtain ⟨j, hj⟩ := List.getElem?_of_mem hw
    rcases mm_lset_get hj with ⟨-, b⟩ | ⟨-, b, -⟩
    · rw [b]; exact hv
    · exact h.2.2 w (List.mem_of_getElem? b)
theorem mm_okL_set2 {g : SG} {lv : LV} {ls ls' : Array Slot} {n i : Nat} {v : MV} (h : mm_okL g lv ls n) (hv : mm_okV v)
    (h' : lv_has ls' n ((i, mm_cv g v) :: (mm_lvl g 0 lv).filter (fun q => !(q.1 == i) && (!(q.1 == i + 1) && !(q.1 + 1 == i && q.2.category == 2))))) (hc : mm_c1 v = false) : mm_okL g (mm_lset lv i v) ls' n := by
  refine ⟨⟨h'.1, h'.2.1, fun q hq => ?_⟩, by rw [mm_lset_len]; exact h.2.1, fun w hw => ?_⟩
  · obtain ⟨j, u, e1, e2, e3⟩ := (mm_lvl_mem g _ 0 q.1 q.2).mp hq
    rw [Nat.zero_add] at e1
    apply h'.2.2
    rcases mm_lset_get e2 with ⟨a, b⟩ | ⟨a, b, d, d2⟩
    · exact List.mem_cons.mpr (Or.inl (Prod.ext (by rw [e1, a]) (by rw [e3, b])))
    · refine List.mem_cons_of_mem _ ?_
      refine List.mem_filter.mpr ⟨(mm_lvl_mem g lv 0 q.1 q.2).mpr ⟨j, u, by omega, b, e3⟩, ?_⟩
      have d3 := d2 hc
      simp only [Bool.and_eq_true, Bool.not_eq_true', beq_eq_false_iff_ne, ne_eq, Bool.and_eq_false_iff]
      refine ⟨by omega, by omega, ?_⟩
      by_cases z : q.1 + 1 = i
      · right
        rw [e3, mm_cat]
        intro z2
        exact d ⟨by omega, z2⟩
      · exact Or.inl z
  · obtain ⟨j, hj⟩ := List.getElem?_of_mem hw
    rcases mm_lset_get hj with ⟨-, b⟩ | ⟨-, b, -⟩
    · rw [b]; exact hv
    · exact h.2.2 w (List.mem_of_getElem? b)
/-! numbers -/
theorem mm_rng32 (x : Int32) : mm_rng x.toInt := by
  have h1 := x.le_toInt
  have h2 := x.toInt_lt
  unfold mm_rng
  omega
theorem mm_ti {z : Int} (h : mm_rng z) : (Int32.ofInt z).toInt = z := by
  unfold mm_rng at h
  exact Int32.toInt_ofInt_of_le (by omega) (by omega)
theorem mm_le32 {a b : Int} (ha : mm_rng a) (hb : mm_rng b) : Int32.ofInt a ≤ Int32.ofInt b ↔ a ≤ b := by rw [Int32.le_iff_toInt_le, mm_ti ha, mm_ti hb]
theorem mm_lt32 {a b : Int} (ha : mm_rng a) (hb : mm_rng b) : Int32.ofInt a < Int32.ofInt b ↔ a < b := by rw [Int32.lt_iff_toInt_lt, mm_ti ha, mm_ti hb]
theorem mm_eq32 {a b : Int} (ha : mm_rng a) (hb : mm_rng b) : Int32.ofInt a = Int32.ofInt b ↔ a = b := by rw [← Int32.toInt_inj, mm_ti ha, mm_ti hb]
theorem mm_rng0 : mm_rng 0 := by unfold mm_rng; omega
theorem mm_z32 : (0 : Int32) = Int32.ofInt 0 := rfl
theorem mm_div32 {a b : Int} (ha : mm_rng a) (hb : mm_rng b) (hq : mm_rng (a.tdiv b)) : Int32.ofInt a / Int32.ofInt b = Int32.ofInt (a.tdiv b) := by
  rw [← Int32.toInt_inj, Int32.toInt_div, mm_ti ha, mm_ti hb, mm_ti hq]
  unfold mm_rng at hq
  exact Int.bmod_eq_of_le (by omega) (by omega)
theorem mm_rem32 {a b : Int} (ha : mm_rng a) (hb : mm_rng b) (hq : mm_rng (a.tdiv b)) : Int32.ofInt a - Int32.ofInt a / Int32.ofInt b * Int32.ofInt b = Int32.ofInt (a.tmod b) := by
  rw [mm_div32 ha hb hq, ← Int32.ofInt_mul, ← Int32.ofInt_sub, Int.tmod_def, Int.mul_comm]
theorem mm_tmod_rng {a b : Int} (ha : mm_rng a) (hb : mm_rng b) (h0 : b ≠ 0) : mm_rng (a.tmod b) := by
  have h1 := Int.tmod_lt_of_pos a (b := b.natAbs) (by omega)
  have h2 : a.tmod b.natAbs = a.tmod b := by
    rcases Int.natAbs_eq b with h | h
    · rw [← h]
    · have : (b.natAbs : Int) = -b := by omega
      rw [this, Int.tmod_neg]
  have h3 : -(b.natAbs : Int) < a.tmod b := by
    rw [← h2]
    exact Int.lt_tmod_of_pos a (by omega)
  rw [h2] at h1
  unfold mm_rng at *
  omega
theorem mm_in {j : Int} {n : Nat} (hj : mm_rng j) (h0 : 0 ≤ j) (h1 : j < n) : vp_in (Int32.ofInt j) n := by
  rw [vp_in_iff, mm_ti hj]
  exact ⟨h0, h1⟩
theorem mm_cl {j : Int} (hj : mm_rng j) (h0 : 0 ≤ j) : (((Int32.ofInt j).toNatClampNeg : Nat) : Int) = j := by
  rw [← Int32.toNat_toInt, mm_ti hj]
  omega
end
section
/-! what a stretch of code asks for -/
def mm_lenok (ins : Instr) (len : Nat) : Bool := match ins with
  | .bipush _ => Nat.beq len 2
  | .ldc _ => Nat.beq len 2
  | .iload _ => Nat.beq len 2
  | .lload _ => Nat.beq len 2
  | .aload _ => Nat.beq len 2
  | .istore _ => Nat.beq len 2
  | .lstore _ => Nat.beq len 2
  | .astore _ => Nat.beq len 2
  | .newarray _ => Nat.beq len 2
  | .sipush _ => Nat.beq len 3
  | .ldc_w _ => Nat.beq len 3
  | .ldc2_w _ => Nat.beq len 3
  | .getfield _ => Nat.beq len 3
  | .putfield _ => Nat.beq len 3
  | .getstatic _ => Nat.beq len 3
  | .ifCond _ _ => Nat.beq len 3
  | .if_icmp _ _ => Nat.beq len 3
  | .goto _ => Nat.beq len 3
  | .iinc _ _ => Nat.beq len 3
  | .invokevirtual _ => Nat.beq len 3
  | .invokestatic _ => Nat.beq len 3
  | .invokespecial _ => Nat.beq len 3
  | .new _ => Nat.beq len 3
  | .multianewarray _ _ => Nat.beq len 4
  | .tableswitch _ _ _ _ => true
  | .lookupswitch _ _ => true
  | _ => Nat.beq len 1
/-- a call: arguments (the receiver too), cells, slots, whether it may throw, how it is called (0 virtual, 1 static, 2 special) and the receiver's kind, what it does -/
abbrev CE : Type := Nat × Nat × Nat × Bool × (Nat × Nat) × Tr
/-- fields; calls; constants; classes to make; Object's constructor; whether this is a constructor; how it returns; its cells and slots; read-only arrays; statics; where it throws; which list new arrays join -/
abbrev NE : Type := List (Nat × Nat × Nat) × List (Nat × CE) × List (Nat × MV) × List (Nat × Nat × List MV) × List Nat × Bool × Nat × (Nat × Nat) × List (Nat × Nat × (Int → Int)) × List (Nat × Nat) × List (Nat × String) × Bool
def ne_ft (E : NE) := E.1
def ne_ct (E : NE) := E.2.1
def ne_lt (E : NE) := E.2.2.1
def ne_nt (E : NE) := E.2.2.2.1
def ne_oi (E : NE) := E.2.2.2.2.1
def ne_ini (E : NE) := E.2.2.2.2.2.1
def ne_rk (E : NE) := E.2.2.2.2.2.2.1
def ne_rc (E : NE) := E.2.2.2.2.2.2.2.1.1
def ne_rs (E : NE) := E.2.2.2.2.2.2.2.1.2
def ne_ro (E : NE) := E.2.2.2.2.2.2.2.2.1
def ne_gs (E : NE) := E.2.2.2.2.2.2.2.2.2.1
def ne_tt (E : NE) := E.2.2.2.2.2.2.2.2.2.2.1
def ne_rg (E : NE) := E.2.2.2.2.2.2.2.2.2.2.2
def mm_ldI (l : LV) (i : Nat) : Option Int := match l[i]? with
  | some (some (.inl z)) => some z
  | _ => none
def mm_ldL (l : LV) (i : Nat) : Option Int64 := match l[i]? with
  | some (some (.inr (.inl x))) => some x
  | _ => none
def mm_ldA (l : LV) (i : Nat) : Option (Option Nat ⊕ Nat) := match l[i]? with
  | some (some (.inr (.inr x))) => some x
  | _ => none
def mm_rcv (ci : Nat) (av : List MV) (h : HP) : Bool := match av with
  | .inr (.inr (.inl (some a))) :: _ => match mm_get h a with
    | some (.inl (cj, _)) => Nat.beq ci cj
    | _ => false
  | _ => false
def mm_rc (w : Nat) (ck : Nat × Nat) (av : List MV) (h : HP) : Bool := Nat.beq ck.1 w && (Nat.beq w 1 || mm_rcv ck.2 av h)
def mm_mem (t : Nat) : List Nat → Bool
  | [] => false
  | k :: r => match Nat.beq k t with
    | true => true
    | false => mm_mem t r
/-- how fields are: 0 int, 1 boolean, 2 a reference; whether final -/
def mm_fks : List (List (Nat × Bool)) := [
  [(2, true), (2, false), (2, false), (2, true)],
  [(0, false), (0, false), (0, false), (0, false), (0, false), (2, true), (2, true), (2, true), (2, true), (2, true), (2, true), (2, true), (2, true)],
  [(0, false), (2, true), (2, true), (2, true), (2, true)],
  [(2, true), (0, false), (0, false), (2, true), (2, true), (2, true), (0, false), (0, false), (0, false), (0, false), (0, false), (0, false)],
  [(0, false), (0, false), (0, false), (2, true), (2, true), (2, true), (2, true), (0, false)],
  [(2, true), (0, false)],
  [(2, true), (2, true), (2, true)],
  [(2, true), (2, true), (0, false), (0, false), (0, false)],
  [(2, true), (2, true), (2, true), (2, true), (0, false)],
  [(2, true), (2, true), (2, true), (2, true), (2, true), (2, true), (2, true), (2, true), (2, true), (2, true), (2, true), (0, false), (0, false)],
  [(2, true), (0, false), (0, false), (0, false), (0, false), (0, false), (0, false), (2, true), (2, true), (2, true), (2, true), (2, true), (2, true), (2, true), (0, false), (0, false), (2, true), (2, true), (2, true), (2, true), (2, true), (2, true), (2, true), (0, false), (2, true), (2, true), (2, true), (2, true), (0, false), (0, false), (0, false), (0, false), (0, false), (0, false), (0, false), (0, false), (0, false), (0, false), (0, false), (1, false), (1, false), (2, true), (2, true), (2, true), (2, true), (2, true), (2, true), (0, false), (0, false), (2, true), (2, true), (2, true), (0, false)]]
def mm_fk (ci k : Nat) : Option (Nat × Bool) := match mm_fks[ci]? with
  | some l => l[k]?
  | none => none
def mm_akind (ty : ArrayType) : Option Nat := match ty with
  | .int => some 0
  | .boolean => some 1
  | .byte => some 2
  | .long => some 3
  | _ => none
def mm_push (b : Bool) (h : HP) (t : Nat) (e : ME) : Option (Nat × HP) := match b with
  | true => match Nat.beq (mm_off h.2.1.length) t && Nat.blt h.2.1.length 1000 with
    | true => some (h.2.1.length, (some (t + 1), h.2.1 ++ [e], h.2.2))
    | false => none
  | false => match Nat.beq (mm_off (1000 + h.2.2.1.length)) t && Nat.blt h.2.2.1.length 1000 with
    | true => some (1000 + h.2.2.1.length, (some (t + 1), h.2.1, h.2.2.1 ++ [e], h.2.2.2))
    | false => none
/-- the new stack and heap, the cells and slots that came -/
def mm_alloc (E : NE) (ins : Instr) (st : List MV) (h : HP) : Option (List MV × HP × Nat × Nat) := match ins with
  | .new i => match mm_look (ne_nt E) i with
    | some (ci, fs) => match h.1 with
      | some t => match mm_push (!(Nat.beq ci 10)) h t (eO ci fs) with
        | some (k, h') => some (mR k :: st, h', 1, fs.length)
        | none => none
      | none => none
    | none => none
  | .newarray ty => match st with
    | .inl n :: r => match h.1 with
      | some t => match n with
        | .ofNat n' => match mm_akind ty with
          | some 3 => match mm_push (ne_rg E) h t (eL n' (fun _ => 0)) with
            | some (k, h') => some (mR k :: r, h', 1, n')
            | none => none
          | some kd => match mm_push (ne_rg E) h t (eI kd n' (fun _ => 0)) with
            | some (k, h') => some (mR k :: r, h', 1, n')
            | none => none
          | none => none
        | .negSucc _ => none
      | none => none
    | _ => none
  | .multianewarray _ 2 => match st with
    | .inl m :: .inl n :: r => match h.1 with
      | some t => match n with
        | .ofNat n' => match decide (m = 220) && (List.range n').all (fun j => Nat.beq (mm_offr (h.2.2.2.1 + j)) (t + 1 + j)) with
          | true => match mm_push true h t (eG n' h.2.2.2.1) with
            | some (k, h') => some (mR k :: r, (some (t + 1 + n'), h'.2.1, h'.2.2.1, h'.2.2.2.1 + n', fun q => match Nat.blt q h.2.2.2.1 with | true => h.2.2.2.2 q | false => fun _ => 0), 1 + n', n' + n' * 220)
            | none => none
          | false => none
        | .negSucc _ => none
      | none => none
    | _ => none
  | _ => none
def mm_rk (k : Nat) (ins : Instr) (r : Option MV) : Prop := match ins with
  | .return_ => k = 0 ∧ r = none
  | .ireturn => match r with
    | some (.inl z) => k = 1 ∨ (k = 2 ∧ (z = 0 ∨ z = 1))
    | _ => False
  | .lreturn => match r with
    | some (.inr (.inl _)) => k = 3
    | _ => False
  | .areturn => match r with
    | some (.inr (.inr (.inr _))) => k = 4
    | _ => False
  | _ => False
def mm_w1 (E : NE) (ins : Instr) (l : LV) (st : List MV) (h : HP) (cn sn : Nat) (go : LV → List MV → HP → Nat → Nat → Prop) (jm : Int → LV → List MV → HP → Nat → Nat → Prop) (N : Option MV → HP → Prop) (X : String → HP → Prop) : Prop :=
  match mm_p0 (ne_lt E) ins st with
  | some st' => go l st' h cn sn
  | none => match mm_p1 ins st with
    | some (P, st') => P ∧ go l st' h cn sn
    | none => match ins with
      | .iload i => match mm_ldI l i with
        | some z => go l (mI z :: st) h cn sn
        | none => False
      | .iload_n i => match mm_ldI l i.val with
        | some z => go l (mI z :: st) h cn sn
        | none => False
      | .lload i => match mm_ldL l i with
        | some x => go l (mL x :: st) h cn sn
        | none => False
      | .lload_n i => match mm_ldL l i.val with
        | some x => go l (mL x :: st) h cn sn
        | none => False
      | .aload i => match mm_ldA l i with
        | some x => go l (.inr (.inr x) :: st) h cn sn
        | none => False
      | .aload_n i => match mm_ldA l i.val with
        | some x => go l (.inr (.inr x) :: st) h cn sn
        | none => False
      | .istore i => match st with
        | .inl z :: r => match Nat.blt i l.length with
          | true => go (mm_lset l i (mI z)) r h cn sn
          | false => False
        | _ => False
      | .istore_n i => match st with
        | .inl z :: r => match Nat.blt i.val l.length with
          | true => go (mm_lset l i.val (mI z)) r h cn sn
          | false => False
        | _ => False
      | .lstore i => match st with
        | .inr (.inl x) :: r => match Nat.blt (i + 1) l.length with
          | true => go (mm_lset l i (mL x)) r h cn sn
          | false => False
        | _ => False
      | .lstore_n i => match st with
        | .inr (.inl x) :: r => match Nat.blt (i.val + 1) l.length with
          | true => go (mm_lset l i.val (mL x)) r h cn sn
          | false => False
        | _ => False
      | .astore i => match st with
        | .inr (.inr x) :: r => match Nat.blt i l.length with
          | true => go (mm_lset l i (.inr (.inr x))) r h cn sn
          | false => False
        | _ => False
      | .astore_n i => match st with
        | .inr (.inr x) :: r => match Nat.blt i.val l.length with
          | true => go (mm_lset l i.val (.inr (.inr x))) r h cn sn
          | false => False
        | _ => False
      | .iinc i k => match mm_ldI l i with
        | some z => mm_rng (z + k) ∧ go (mm_lset l i (mI (z + k))) st h cn sn
        | none => False
      | .ifCond c o => match st with
        | .inl a :: r => mm_br c a 0 (jm o l r h cn sn) (go l r h cn sn)
        | _ => False
      | .if_icmp c o => match st with
        | .inl b :: .inl a :: r => mm_br c a b (jm o l r h cn sn) (go l r h cn sn)
        | _ => False
      | .goto o => jm o l st h cn sn
      | .tableswitch d lo hi os => match st with
        | .inl a :: r => match decide (hi + 1 = lo + (os.size : Int)) with
          | true => (a < lo ∨ hi < a → jm d l r h cn sn) ∧ mm_ts a (fun o => jm o l r h cn sn) lo os.toList
          | false => False
        | _ => False
      | .lookupswitch d ps => match st with
        | .inl a :: r => match (ps.toList.zip (ps.toList.drop 1)).all (fun q => decide (q.1.1 < q.2.1)) with
          | true => mm_ls a (fun o => jm o l r h cn sn) d ps.toList
          | false => False
        | _ => False
      | .getfield i => match st with
        | .inr (.inr (.inl (some a))) :: r => match mm_look (ne_ft E) i with
          | some (ci, k) => match mm_get h a with
            | some (.inl (cj, fs)) => match Nat.beq ci cj with
              | true => match fs[k]? with
                | some v => go l (v :: r) h cn sn
                | none => False
              | false => False
            | _ => False
          | none => False
        | _ => False
      | .putfield i => match st with
        | v :: .inr (.inr (.inl (some a))) :: r => match mm_look (ne_ft E) i with
          | some (ci, k) => match mm_get h a with
            | some (.inl (cj, fs)) => match Nat.beq ci cj && Nat.blt k fs.length with
              | true => match mm_fk ci k with
                | some (kd, fin) => match fin && !(ne_ini E) with
                  | true => False
                  | false => match v with
                    | .inl z => match kd with
                      | 0 => go l r (mm_set h a (eO ci (fs.set k (mI z)))) cn sn
                      | 1 => (z = 0 ∨ z = 1) ∧ go l r (mm_set h a (eO ci (fs.set k (mI z)))) cn sn
                      | _ => False
                    | .inr (.inr (.inl x)) => match kd with
                      | 2 => go l r (mm_set h a (eO ci (fs.set k (.inr (.inr (.inl x)))))) cn sn
                      | _ => False
                    | _ => False
                | none => False
              | false => False
            | _ => False
          | none => False
        | _ => False
      | .getstatic i => match mm_look (ne_gs E) i with
        | some a => go l (mR a :: st) h cn sn
        | none => False
      | .iaload => match st with
        | .inl j :: .inr (.inr (.inl (some a))) :: r => match Nat.blt a 2000 with
          | true => match mm_get h a with
            | some (.inr (.inl (0, n, f))) => (0 ≤ j ∧ j < (n : Int)) ∧ go l (mI (f j) :: r) h cn sn
            | _ => False
          | false => match mm_look (ne_ro E) a with
            | some (n, f) => (0 ≤ j ∧ j < (n : Int)) ∧ go l (mI (f j) :: r) h cn sn
            | none => False
        | .inl j :: .inr (.inr (.inr q)) :: r => (q < h.2.2.2.1 ∧ 0 ≤ j ∧ j < 220) ∧ go l (mI (h.2.2.2.2 q j) :: r) h cn sn
        | _ => False
      | .baload => match st with
        | .inl j :: .inr (.inr (.inl (some a))) :: r => match mm_get h a with
          | some (.inr (.inl (k, n, f))) => match k with
            | 1 => (0 ≤ j ∧ j < (n : Int)) ∧ go l (mI (f j) :: r) h cn sn
            | 2 => (0 ≤ j ∧ j < (n : Int)) ∧ go l (mI (f j) :: r) h cn sn
            | _ => False
          | _ => False
        | _ => False
      | .laload => match st with
        | .inl j :: .inr (.inr (.inl (some a))) :: r => match mm_get h a with
          | some (.inr (.inr (.inl (n, f)))) => (0 ≤ j ∧ j < (n : Int)) ∧ go l (mL (f j) :: r) h cn sn
          | _ => False
        | _ => False
      | .aaload => match st with
        | .inl j :: .inr (.inr (.inl (some a))) :: r => match mm_get h a with
          | some (.inr (.inr (.inr (n, b)))) => (0 ≤ j ∧ j < (n : Int)) ∧ go l (mQ (b + j.toNat) :: r) h cn sn
          | _ => False
        | _ => False
      | .iastore => match st with
        | .inl v :: .inl j :: .inr (.inr (.inl (some a))) :: r => match Nat.blt a 2000 with
          | true => match mm_get h a with
            | some (.inr (.inl (0, n, f))) => (0 ≤ j ∧ j < (n : Int)) ∧ go l r (mm_set h a (eI 0 n (mm_upd f j v))) cn sn
            | _ => False
          | false => False
        | .inl v :: .inl j :: .inr (.inr (.inr q)) :: r => (q < h.2.2.2.1 ∧ 0 ≤ j ∧ j < 220) ∧ go l r (mm_setR h q (mm_upd (h.2.2.2.2 q) j v)) cn sn
        | _ => False
      | .bastore => match st with
        | .inl v :: .inl j :: .inr (.inr (.inl (some a))) :: r => match mm_get h a with
          | some (.inr (.inl (k, n, f))) => match k with
            | 1 => ((v = 0 ∨ v = 1) ∧ 0 ≤ j ∧ j < (n : Int)) ∧ go l r (mm_set h a (eI 1 n (mm_upd f j v))) cn sn
            | 2 => ((-128 ≤ v ∧ v ≤ 127) ∧ 0 ≤ j ∧ j < (n : Int)) ∧ go l r (mm_set h a (eI 2 n (mm_upd f j v))) cn sn
            | _ => False
          | _ => False
        | _ => False
      | .lastore => match st with
        | .inr (.inl v) :: .inl j :: .inr (.inr (.inl (some a))) :: r => match mm_get h a with
          | some (.inr (.inr (.inl (n, f)))) => (0 ≤ j ∧ j < (n : Int)) ∧ go l r (mm_set h a (eL n (mm_updL f j v))) cn sn
          | _ => False
        | _ => False
      | .arraylength => match st with
        | .inr (.inr (.inl (some a))) :: r => match Nat.blt a 2000 with
          | true => match mm_get h a with
            | some (.inr (.inl (_, n, _))) => go l (mI (n : Int) :: r) h cn sn
            | some (.inr (.inr (.inl (n, _)))) => go l (mI (n : Int) :: r) h cn sn
            | _ => False
          | false => match mm_look (ne_ro E) a with
            | some (n, _) => go l (mI (n : Int) :: r) h cn sn
            | none => False
        | .inr (.inr (.inr q)) :: r => q < h.2.2.2.1 ∧ go l (mI 220 :: r) h cn sn
        | _ => False
      | .invokevirtual i => match mm_look (ne_ct E) i with
        | some (n, mc, ms, th, ck, T) => match Nat.ble n st.length && (Nat.ble (mm_wd (st.drop n)) 8 && (Nat.ble (cn + mc) (ne_rc E) && (Nat.ble (sn + ms) (ne_rs E) && mm_rc 0 ck (st.take n).reverse h))) with
          | true => T (st.take n).reverse h (fun r h' => go l (r.toList ++ st.drop n) h' (cn + mc) (sn + ms)) (match th with | true => X | false => fun _ _ => False)
          | false => False
        | none => False
      | .invokestatic i => match mm_look (ne_ct E) i with
        | some (n, mc, ms, th, ck, T) => match Nat.ble n st.length && (Nat.ble (mm_wd (st.drop n)) 8 && (Nat.ble (cn + mc) (ne_rc E) && (Nat.ble (sn + ms) (ne_rs E) && mm_rc 1 ck (st.take n).reverse h))) with
          | true => T (st.take n).reverse h (fun r h' => go l (r.toList ++ st.drop n) h' (cn + mc) (sn + ms)) (match th with | true => X | false => fun _ _ => False)
          | false => False
        | none => False
      | .invokespecial i => match mm_mem i (ne_oi E) with
        | true => match st with
          | .inr (.inr (.inl (some _))) :: r => match Nat.ble (mm_wd r) 8 with
            | true => go l r h cn sn
            | false => False
          | _ => False
        | false => match mm_look (ne_ct E) i with
          | some (n, mc, ms, th, ck, T) => match Nat.ble n st.length && (Nat.ble (mm_wd (st.drop n)) 8 && (Nat.ble (cn + mc) (ne_rc E) && (Nat.ble (sn + ms) (ne_rs E) && mm_rc 2 ck (st.take n).reverse h))) with
            | true => T (st.take n).reverse h (fun r h' => go l (r.toList ++ st.drop n) h' (cn + mc) (sn + ms)) (match th with | true => X | false => fun _ _ => False)
            | false => False
          | none => False
      | .ireturn => match st with
        | .inl z :: [] => match Nat.ble cn (ne_rc E) && Nat.ble sn (ne_rs E) with
          | true => match ne_rk E with
            | 1 => N (some (mI z)) h
            | 2 => (z = 0 ∨ z = 1) ∧ N (some (mI z)) h
            | _ => False
          | false => False
        | _ => False
      | .lreturn => match st with
        | .inr (.inl x) :: [] => match Nat.ble cn (ne_rc E) && (Nat.ble sn (ne_rs E) && Nat.beq (ne_rk E) 3) with
          | true => N (some (mL x)) h
          | false => False
        | _ => False
      | .areturn => match st with
        | .inr (.inr (.inr q)) :: [] => match Nat.ble cn (ne_rc E) && (Nat.ble sn (ne_rs E) && Nat.beq (ne_rk E) 4) with
          | true => N (some (mQ q)) h
          | false => False
        | _ => False
      | .return_ => match st with
        | [] => match Nat.ble cn (ne_rc E) && (Nat.ble sn (ne_rs E) && Nat.beq (ne_rk E) 0) with
          | true => N none h
          | false => False
        | _ => False
      | _ => match mm_alloc E ins st h with
        | some (st', h', a, b) => match Nat.ble (cn + a) (ne_rc E) && Nat.ble (sn + b) (ne_rs E) with
          | true => go l st' h' (cn + a) (sn + b)
          | false => False
        | none => False
def mm_at (cd : MC) (t : Nat) : MC := cd.dropWhile (fun q => !(Nat.beq q.1 t))
def mm_nx (cuts : List Nat) (K : Nat → LV → List MV → HP → Nat → Nat → Prop) (go : MC → LV → List MV → HP → Nat → Nat → Prop) (t : Nat) (sfx : MC) (l : LV) (st : List MV) (h : HP) (cn sn : Nat) : Prop :=
  match mm_mem t cuts with
  | true => K t l st h cn sn
  | false => match sfx with
    | [] => False
    | q :: r => match Nat.beq q.1 t with
      | true => go (q :: r) l st h cn sn
      | false => False
def mm_wp (E : NE) (cd : MC) (cuts : List Nat) (K : Nat → LV → List MV → HP → Nat → Nat → Prop) (N : Option MV → HP → Prop) (X : String → HP → Prop) : Nat → MC → LV → List MV → HP → Nat → Nat → Prop
  | 0, _, _, _, _, _, _ => False
  | _ + 1, [], _, _, _, _, _ => False
  | f + 1, q :: tl, l, st, h, cn, sn => match mm_lenok q.2.1 q.2.2 with
    | false => False
    | true => match mm_look (ne_tt E) q.1 with
      | some en => match Nat.ble (mm_wd st) 8 && (Nat.ble (cn + 1) (ne_rc E) && Nat.ble (sn + 6) (ne_rs E)) with
        | true => X en (none, h.2)
        | false => False
      | none => mm_w1 E q.2.1 l st h cn sn (fun l' st' h' cn' sn' => mm_nx cuts K (mm_wp E cd cuts K N X f) (q.1 + q.2.2) tl l' st' h' cn' sn')
          (fun o l' st' h' cn' sn' => mm_nx cuts K (mm_wp E cd cuts K N X f) ((q.1 : Int) + o).toNat (mm_at cd ((q.1 : Int) + o).toNat) l' st' h' cn' sn') N X
/-- the jumps lead forward of the start -/
def mm_insok (pc : Nat) (ins : Instr) : Bool := match ins with
  | .ifCond _ o => decide (0 ≤ (pc : Int) + o)
  | .if_icmp _ o => decide (0 ≤ (pc : Int) + o)
  | .goto o => decide (0 ≤ (pc : Int) + o)
  | .tableswitch d _ _ os => decide (0 ≤ (pc : Int) + d) && os.toList.all (fun o => decide (0 ≤ (pc : Int) + o))
  | .lookupswitch d ps => decide (0 ≤ (pc : Int) + d) && ps.toList.all (fun q => decide (0 ≤ (pc : Int) + q.2))
  | _ => true
def mm_codeok (cd : MC) : Bool := cd.all (fun q => mm_insok q.1 q.2.1)
/-- run from pc on, at least a step, up to the cuts -/
def mm_run (E : NE) (cd : MC) (cuts : List Nat) (K : Nat → LV → List MV → HP → Nat → Nat → Prop) (N : Option MV → HP → Prop) (X : String → HP → Prop) (pc : Nat) (l : LV) (st : List MV) (h : HP) (cn sn : Nat) : Prop :=
  match mm_at cd pc with
  | [] => False
  | q :: r => match Nat.beq q.1 pc with
    | true => mm_wp E cd cuts K N X 100000 (q :: r) l st h cn sn
    | false => False
/-- K holds wherever a run of the small machine leads to it -/
def mm_Cl (E : NE) (cd : MC) (N : Option MV → HP → Prop) (X : String → HP → Prop) (K : Nat → LV → List MV → HP → Nat → Nat → Prop) : Prop :=
  ∀ (cuts : List Nat) (pc : Nat) (l : LV) (st : List MV) (h : HP) (cn sn : Nat), mm_run E cd cuts K N X pc l st h cn sn → K pc l st h cn sn
def mm_lay : List MV → LV
  | [] => []
  | v :: t => match mm_c1 v with
    | true => some v :: mm_lay t
    | false => some v :: none :: mm_lay t
def mm_entry (nL : Nat) (av : List MV) : LV := mm_lay av ++ List.replicate (nL - (mm_lay av).length) none
/-- the method does what T says -/
def mm_Spec (E : NE) (cd : MC) (nL : Nat) (T : Tr) : Prop :=
  ∀ (N : Option MV → HP → Prop) (X : String → HP → Prop) (K : Nat → LV → List MV → HP → Nat → Nat → Prop) (av : List MV) (h : HP), mm_Cl E cd N X K → T av h N X → Nat.ble (mm_lay av).length nL = true ∧ K 0 (mm_entry nL av) [] h 0 0
end
section
/-! the good words of the tables, by their places -/
def mm_gt : List Jvm.Cond := lw_tbl.filter goodWord
theorem mm_gt_in {w : Jvm.Cond} (h : w ∈ mm_gt) : w ∈ lw_tbl ∧ goodWord w = true := List.mem_filter.mp h
theorem tb1 {i : Nat} {w : Jvm.Cond} (h : tables_1_1[i]? = some w) (hg : goodWord w = true) : w ∈ mm_gt := List.mem_filter.mpr ⟨List.mem_append_right _ (List.mem_append_left _ (List.mem_of_getElem? h)), hg⟩
theorem tb2 {i : Nat} {w : Jvm.Cond} (h : tables_1_2[i]? = some w) (hg : goodWord w = true) : w ∈ mm_gt := List.mem_filter.mpr ⟨List.mem_append_right _ (List.mem_append_right _ (List.mem_append_left _ (List.mem_of_getElem? h))), hg⟩
theorem tb3 {i : Nat} {w : Jvm.Cond} (h : tables_1_3[i]? = some w) (hg : goodWord w = true) : w ∈ mm_gt := List.mem_filter.mpr ⟨List.mem_append_right _ (List.mem_append_right _ (List.mem_append_right _ (List.mem_append_left _ (List.mem_of_getElem? h)))), hg⟩
theorem tb4 {i : Nat} {w : Jvm.Cond} (h : tables_1_4[i]? = some w) (hg : goodWord w = true) : w ∈ mm_gt := List.mem_filter.mpr ⟨List.mem_append_right _ (List.mem_append_right _ (List.mem_append_right _ (List.mem_append_right _ (List.mem_append_left _ (List.mem_of_getElem? h))))), hg⟩
theorem tb5 {i : Nat} {w : Jvm.Cond} (h : tables_1_5[i]? = some w) (hg : goodWord w = true) : w ∈ mm_gt := List.mem_filter.mpr ⟨List.mem_append_right _ (List.mem_append_right _ (List.mem_append_right _ (List.mem_append_right _ (List.mem_append_right _ (List.mem_append_left _ (List.mem_of_getElem? h)))))), hg⟩
theorem tb6 {i : Nat} {w : Jvm.Cond} (h : tables_1_6[i]? = some w) (hg : goodWord w = true) : w ∈ mm_gt := List.mem_filter.mpr ⟨List.mem_append_right _ (List.mem_append_right _ (List.mem_append_right _ (List.mem_append_right _ (List.mem_append_right _ (List.mem_append_right _ (List.mem_append_left _ (List.mem_of_getElem? h))))))), hg⟩
theorem tb7 {i : Nat} {w : Jvm.Cond} (h : tables_1_7[i]? = some w) (hg : goodWord w = true) : w ∈ mm_gt := List.mem_filter.mpr ⟨List.mem_append_right _ (List.mem_append_right _ (List.mem_append_right _ (List.mem_append_right _ (List.mem_append_right _ (List.mem_append_right _ (List.mem_append_right _ (List.mem_append_left _ (List.mem_of_getElem? h)))))))), hg⟩
theorem tb8 {i : Nat} {w : Jvm.Cond} (h : tables_1_8[i]? = some w) (hg : goodWord w = true) : w ∈ mm_gt := List.mem_filter.mpr ⟨List.mem_append_right _ (List.mem_append_right _ (List.mem_append_right _ (List.mem_append_right _ (List.mem_append_right _ (List.mem_append_right _ (List.mem_append_right _ (List.mem_append_right _ (List.mem_of_getElem? h)))))))), hg⟩
theorem tbs {q : MethodName × Nat} (h : q ∈ lw_privs) : Jvm.Cond.selects q.1.cls q.1 q.1 ∈ mm_gt := List.mem_filter.mpr ⟨List.mem_append_left _ (List.mem_map.mpr ⟨q, h, rfl⟩), rfl⟩
set_option maxRecDepth 100000 in
theorem clX0 : ∀ w ∈ u_ws RX0 TX0 4, w ∈ mm_gt := by
  intro w hw
  obtain ⟨k, hk, rfl⟩ := List.mem_map.mp hw
  have hk := List.mem_range.mp hk
  match k, hk with
  | 0, _ => exact tb1 (i := 152) rfl rfl
  | 1, _ => exact tb1 (i := 154) rfl rfl
  | 2, _ => exact tb1 (i := 156) rfl rfl
  | 3, _ => exact tb1 (i := 158) rfl rfl
  | k + 4, h => exact absurd h (by omega)
set_option maxRecDepth 100000 in
theorem clX1 : ∀ w ∈ u_ws RX1 TX1 13, w ∈ mm_gt := by
  intro w hw
  obtain ⟨k, hk, rfl⟩ := List.mem_map.mp hw
  have hk := List.mem_range.mp hk
  match k, hk with
  | 0, _ => exact tb1 (i := 58) rfl rfl
  | 1, _ => exact tb1 (i := 60) rfl rfl
  | 2, _ => exact tb1 (i := 62) rfl rfl
  | 3, _ => exact tb1 (i := 64) rfl rfl
  | 4, _ => exact tb1 (i := 66) rfl rfl
  | 5, _ => exact tb1 (i := 68) rfl rfl
  | 6, _ => exact tb1 (i := 70) rfl rfl
  | 7, _ => exact tb1 (i := 72) rfl rfl
  | 8, _ => exact tb1 (i := 74) rfl rfl
  | 9, _ => exact tb1 (i := 76) rfl rfl
  | 10, _ => exact tb1 (i := 78) rfl rfl
  | 11, _ => exact tb1 (i := 80) rfl rfl
  | 12, _ => exact tb1 (i := 82) rfl rfl
  | k + 13, h => exact absurd h (by omega)
set_option maxRecDepth 100000 in
theorem clX2 : ∀ w ∈ u_ws RX2 TX2 5, w ∈ mm_gt := by
  intro w hw
  obtain ⟨k, hk, rfl⟩ := List.mem_map.mp hw
  have hk := List.mem_range.mp hk
  match k, hk with
  | 0, _ => exact tb1 (i := 206) rfl rfl
  | 1, _ => exact tb1 (i := 208) rfl rfl
  | 2, _ => exact tb1 (i := 210) rfl rfl
  | 3, _ => exact tb1 (i := 212) rfl rfl
  | 4, _ => exact tb1 (i := 214) rfl rfl
  | k + 5, h => exact absurd h (by omega)
set_option maxRecDepth 100000 in
theorem clX3 : ∀ w ∈ u_ws RX3 TX3 12, w ∈ mm_gt := by
  intro w hw
  obtain ⟨k, hk, rfl⟩ := List.mem_map.mp hw
  have hk := List.mem_range.mp hk
  match k, hk with
  | 0, _ => exact tb1 (i := 232) rfl rfl
  | 1, _ => exact tb1 (i := 234) rfl rfl
  | 2, _ => exact tb1 (i := 236) rfl rfl
  | 3, _ => exact tb1 (i := 238) rfl rfl
  | 4, _ => exact tb2 (i := 0) rfl rfl
  | 5, _ => exact tb2 (i := 2) rfl rfl
  | 6, _ => exact tb2 (i := 4) rfl rfl
  | 7, _ => exact tb2 (i := 6) rfl rfl
  | 8, _ => exact tb2 (i := 8) rfl rfl
  | 9, _ => exact tb2 (i := 10) rfl rfl
  | 10, _ => exact tb2 (i := 12) rfl rfl
  | 11, _ => exact tb2 (i := 14) rfl rfl
  | k + 12, h => exact absurd h (by omega)
set_option maxRecDepth 100000 in
theorem clX4 : ∀ w ∈ u_ws RX4 TX4 8, w ∈ mm_gt := by
  intro w hw
  obtain ⟨k, hk, rfl⟩ := List.mem_map.mp hw
  have hk := List.mem_range.mp hk
  match k, hk with
  | 0, _ => exact tb1 (i := 105) rfl rfl
  | 1, _ => exact tb1 (i := 107) rfl rfl
  | 2, _ => exact tb1 (i := 109) rfl rfl
  | 3, _ => exact tb1 (i := 111) rfl rfl
  | 4, _ => exact tb1 (i := 113) rfl rfl
  | 5, _ => exact tb1 (i := 115) rfl rfl
  | 6, _ => exact tb1 (i := 117) rfl rfl
  | 7, _ => exact tb1 (i := 119) rfl rfl
  | k + 8, h => exact absurd h (by omega)
set_option maxRecDepth 100000 in
theorem clX5 : ∀ w ∈ u_ws RX5 TX5 2, w ∈ mm_gt := by
  intro w hw
  obtain ⟨k, hk, rfl⟩ := List.mem_map.mp hw
  have hk := List.mem_range.mp hk
  match k, hk with
  | 0, _ => exact tb2 (i := 48) rfl rfl
  | 1, _ => exact tb2 (i := 50) rfl rfl
  | k + 2, h => exact absurd h (by omega)
set_option maxRecDepth 100000 in
theorem clX6 : ∀ w ∈ u_ws RX6 TX6 3, w ∈ mm_gt := by
  intro w hw
  obtain ⟨k, hk, rfl⟩ := List.mem_map.mp hw
  have hk := List.mem_range.mp hk
  match k, hk with
  | 0, _ => exact tb1 (i := 135) rfl rfl
  | 1, _ => exact tb1 (i := 137) rfl rfl
  | 2, _ => exact tb1 (i := 139) rfl rfl
  | k + 3, h => exact absurd h (by omega)
set_option maxRecDepth 100000 in
theorem clX7 : ∀ w ∈ u_ws RX7 TX7 5, w ∈ mm_gt := by
  intro w hw
  obtain ⟨k, hk, rfl⟩ := List.mem_map.mp hw
  have hk := List.mem_range.mp hk
  match k, hk with
  | 0, _ => exact tb1 (i := 172) rfl rfl
  | 1, _ => exact tb1 (i := 174) rfl rfl
  | 2, _ => exact tb1 (i := 176) rfl rfl
  | 3, _ => exact tb1 (i := 178) rfl rfl
  | 4, _ => exact tb1 (i := 180) rfl rfl
  | k + 5, h => exact absurd h (by omega)
set_option maxRecDepth 100000 in
theorem clX8 : ∀ w ∈ u_ws RX8 TX8 5, w ∈ mm_gt := by
  intro w hw
  obtain ⟨k, hk, rfl⟩ := List.mem_map.mp hw
  have hk := List.mem_range.mp hk
  match k, hk with
  | 0, _ => exact tb2 (i := 29) rfl rfl
  | 1, _ => exact tb2 (i := 31) rfl rfl
  | 2, _ => exact tb2 (i := 33) rfl rfl
  | 3, _ => exact tb2 (i := 35) rfl rfl
  | 4, _ => exact tb2 (i := 37) rfl rfl
  | k + 5, h => exact absurd h (by omega)
set_option maxRecDepth 100000 in
theorem clX9 : ∀ w ∈ u_ws RX9 TX9 13, w ∈ mm_gt := by
  intro w hw
  obtain ⟨k, hk, rfl⟩ := List.mem_map.mp hw
  have hk := List.mem_range.mp hk
  match k, hk with
  | 0, _ => exact tb2 (i := 160) rfl rfl
  | 1, _ => exact tb2 (i := 162) rfl rfl
  | 2, _ => exact tb2 (i := 164) rfl rfl
  | 3, _ => exact tb2 (i := 166) rfl rfl
  | 4, _ => exact tb2 (i := 168) rfl rfl
  | 5, _ => exact tb2 (i := 170) rfl rfl
  | 6, _ => exact tb2 (i := 172) rfl rfl
  | 7, _ => exact tb2 (i := 174) rfl rfl
  | 8, _ => exact tb2 (i := 176) rfl rfl
  | 9, _ => exact tb2 (i := 178) rfl rfl
  | 10, _ => exact tb2 (i := 180) rfl rfl
  | 11, _ => exact tb2 (i := 182) rfl rfl
  | 12, _ => exact tb2 (i := 184) rfl rfl
  | k + 13, h => exact absurd h (by omega)
set_option maxRecDepth 100000 in
theorem clX10 : ∀ w ∈ u_ws RX10 TX10 53, w ∈ mm_gt := by
  intro w hw
  obtain ⟨k, hk, rfl⟩ := List.mem_map.mp hw
  have hk := List.mem_range.mp hk
  match k, hk with
  | 0, _ => exact tb6 (i := 54) rfl rfl
  | 1, _ => exact tb6 (i := 56) rfl rfl
  | 2, _ => exact tb6 (i := 58) rfl rfl
  | 3, _ => exact tb6 (i := 60) rfl rfl
  | 4, _ => exact tb6 (i := 62) rfl rfl
  | 5, _ => exact tb6 (i := 64) rfl rfl
  | 6, _ => exact tb6 (i := 66) rfl rfl
  | 7, _ => exact tb6 (i := 68) rfl rfl
  | 8, _ => exact tb6 (i := 70) rfl rfl
  | 9, _ => exact tb6 (i := 72) rfl rfl
  | 10, _ => exact tb6 (i := 74) rfl rfl
  | 11, _ => exact tb6 (i := 76) rfl rfl
  | 12, _ => exact tb6 (i := 78) rfl rfl
  | 13, _ => exact tb6 (i := 80) rfl rfl
  | 14, _ => exact tb6 (i := 82) rfl rfl
  | 15, _ => exact tb6 (i := 84) rfl rfl
  | 16, _ => exact tb6 (i := 86) rfl rfl
  | 17, _ => exact tb6 (i := 88) rfl rfl
  | 18, _ => exact tb6 (i := 90) rfl rfl
  | 19, _ => exact tb6 (i := 92) rfl rfl
  | 20, _ => exact tb6 (i := 94) rfl rfl
  | 21, _ => exact tb6 (i := 96) rfl rfl
  | 22, _ => exact tb6 (i := 98) rfl rfl
  | 23, _ => exact tb6 (i := 100) rfl rfl
  | 24, _ => exact tb6 (i := 102) rfl rfl
  | 25, _ => exact tb6 (i := 104) rfl rfl
  | 26, _ => exact tb6 (i := 106) rfl rfl
  | 27, _ => exact tb6 (i := 108) rfl rfl
  | 28, _ => exact tb6 (i := 110) rfl rfl
  | 29, _ => exact tb6 (i := 112) rfl rfl
  | 30, _ => exact tb6 (i := 114) rfl rfl
  | 31, _ => exact tb6 (i := 116) rfl rfl
  | 32, _ => exact tb6 (i := 118) rfl rfl
  | 33, _ => exact tb6 (i := 120) rfl rfl
  | 34, _ => exact tb6 (i := 122) rfl rfl
  | 35, _ => exact tb6 (i := 124) rfl rfl
  | 36, _ => exact tb6 (i := 126) rfl rfl
  | 37, _ => exact tb6 (i := 128) rfl rfl
  | 38, _ => exact tb6 (i := 130) rfl rfl
  | 39, _ => exact tb6 (i := 132) rfl rfl
  | 40, _ => exact tb6 (i := 134) rfl rfl
  | 41, _ => exact tb6 (i := 136) rfl rfl
  | 42, _ => exact tb6 (i := 138) rfl rfl
  | 43, _ => exact tb6 (i := 140) rfl rfl
  | 44, _ => exact tb6 (i := 142) rfl rfl
  | 45, _ => exact tb6 (i := 144) rfl rfl
  | 46, _ => exact tb6 (i := 146) rfl rfl
  | 47, _ => exact tb6 (i := 148) rfl rfl
  | 48, _ => exact tb6 (i := 150) rfl rfl
  | 49, _ => exact tb6 (i := 152) rfl rfl
  | 50, _ => exact tb6 (i := 154) rfl rfl
  | 51, _ => exact tb6 (i := 156) rfl rfl
  | 52, _ => exact tb6 (i := 158) rfl rfl
  | k + 53, h => exact absurd h (by omega)
/-! tables of the classes: fields by pool number, constants -/
def ftJ6 : List (Nat × Nat × Nat) := []
def ltJ6 : List (Nat × MV) := [(265, mI (1431655765)), (266, mI (858993459)), (267, mI (252645135))]
theorem ltJ6_ok : ∀ q ∈ ltJ6, (∀ z : Int, q.2 = mI z → Jvm.Cond.constant RJ6 q.1 (Int32.ofInt z) ∈ mm_gt) ∧ ∀ x : Int64, q.2 = mL x → Jvm.Cond.constantLong RJ6 q.1 x ∈ mm_gt := by
  exact List.forall_mem_cons.mpr ⟨⟨(fun z h => by cases h; exact tb5 (i := 119) rfl rfl), (fun x h => by cases h)⟩, List.forall_mem_cons.mpr ⟨⟨(fun z h => by cases h; exact tb5 (i := 120) rfl rfl), (fun x h => by cases h)⟩, List.forall_mem_cons.mpr ⟨⟨(fun z h => by cases h; exact tb5 (i := 121) rfl rfl), (fun x h => by cases h)⟩, List.forall_mem_nil _⟩⟩⟩
def ftL : List (Nat × Nat × Nat) := []
def ltL : List (Nat × MV) := []
def ftX0 : List (Nat × Nat × Nat) := [(11, 0, 1), (17, 0, 2), (20, 0, 3), (24, 0, 0), (34, 1, 2)]
def ltX0 : List (Nat × MV) := []
set_option maxRecDepth 100000 in
theorem ftX0_ok : ∀ q ∈ ftX0, ∃ r : vw_C, vwCl[q.2.1]? = some r ∧ q.2.2 < r.2.2 ∧ Jvm.Cond.fieldLink RX0 q.1 (r.2.1 q.2.2).1 (r.2.1 q.2.2).2.1 (r.2.1 q.2.2).2.2.1 ∈ mm_gt := by
  exact List.forall_mem_cons.mpr ⟨⟨(RX0, TX0, 4), rfl, (by decide), tb1 (i := 149) rfl rfl⟩, List.forall_mem_cons.mpr ⟨⟨(RX0, TX0, 4), rfl, (by decide), tb1 (i := 150) rfl rfl⟩, List.forall_mem_cons.mpr ⟨⟨(RX0, TX0, 4), rfl, (by decide), tb1 (i := 151) rfl rfl⟩, List.forall_mem_cons.mpr ⟨⟨(RX0, TX0, 4), rfl, (by decide), tb1 (i := 148) rfl rfl⟩, List.forall_mem_cons.mpr ⟨⟨(RX1, TX1, 13), rfl, (by decide), tb1 (i := 43) rfl rfl⟩, List.forall_mem_nil _⟩⟩⟩⟩⟩
def ftX1 : List (Nat × Nat × Nat) := [(11, 1, 5), (15, 1, 6), (18, 1, 7), (21, 1, 8), (24, 1, 9), (27, 1, 10), (30, 1, 11), (33, 1, 12), (39, 1, 0), (43, 1, 1), (46, 1, 2), (90, 1, 3), (103, 1, 4)]
def ltX1 : List (Nat × MV) := []
set_option maxRecDepth 100000 in
theorem ftX1_ok : ∀ q ∈ ftX1, ∃ r : vw_C, vwCl[q.2.1]? = some r ∧ q.2.2 < r.2.2 ∧ Jvm.Cond.fieldLink RX1 q.1 (r.2.1 q.2.2).1 (r.2.1 q.2.2).2.1 (r.2.1 q.2.2).2.2.1 ∈ mm_gt := by
  exact List.forall_mem_cons.mpr ⟨⟨(RX1, TX1, 13), rfl, (by decide), tb1 (i := 50) rfl rfl⟩, List.forall_mem_cons.mpr ⟨⟨(RX1, TX1, 13), rfl, (by decide), tb1 (i := 51) rfl rfl⟩, List.forall_mem_cons.mpr ⟨⟨(RX1, TX1, 13), rfl, (by decide), tb1 (i := 52) rfl rfl⟩, List.forall_mem_cons.mpr ⟨⟨(RX1, TX1, 13), rfl, (by decide), tb1 (i := 53) rfl rfl⟩, List.forall_mem_cons.mpr ⟨⟨(RX1, TX1, 13), rfl, (by decide), tb1 (i := 54) rfl rfl⟩, List.forall_mem_cons.mpr ⟨⟨(RX1, TX1, 13), rfl, (by decide), tb1 (i := 55) rfl rfl⟩, List.forall_mem_cons.mpr ⟨⟨(RX1, TX1, 13), rfl, (by decide), tb1 (i := 56) rfl rfl⟩, List.forall_mem_cons.mpr ⟨⟨(RX1, TX1, 13), rfl, (by decide), tb1 (i := 57) rfl rfl⟩, List.forall_mem_cons.mpr ⟨⟨(RX1, TX1, 13), rfl, (by decide), tb1 (i := 36) rfl rfl⟩, List.forall_mem_cons.mpr ⟨⟨(RX1, TX1, 13), rfl, (by decide), tb1 (i := 38) rfl rfl⟩, List.forall_mem_cons.mpr ⟨⟨(RX1, TX1, 13), rfl, (by decide), tb1 (i := 41) rfl rfl⟩, List.forall_mem_cons.mpr ⟨⟨(RX1, TX1, 13), rfl, (by decide), tb1 (i := 47) rfl rfl⟩, List.forall_mem_cons.mpr ⟨⟨(RX1, TX1, 13), rfl, (by decide), tb1 (i := 49) rfl rfl⟩, List.forall_mem_nil _⟩⟩⟩⟩⟩⟩⟩⟩⟩⟩⟩⟩⟩
def ftX10 : List (Nat × Nat × Nat) := [(9, 10, 0), (13, 10, 7), (16, 10, 8), (19, 10, 9), (22, 10, 10), (25, 10, 11), (28, 10, 12), (31, 10, 13), (34, 10, 16), (38, 10, 17), (41, 10, 18), (44, 10, 19), (48, 10, 20), (51, 10, 21), (54, 10, 22), (57, 10, 24), (60, 10, 25), (63, 10, 26), (66, 10, 27), (69, 10, 36), (73, 10, 41), (76, 10, 42), (79, 10, 43), (82, 10, 44), (85, 10, 45), (88, 10, 46), (91, 10, 49), (94, 10, 50), (97, 10, 51), (104, 10, 1), (107, 10, 2), (113, 10, 3), (119, 10, 4), (129, 10, 5), (142, 10, 6), (166, 10, 14), (169, 10, 23), (178, 10, 15), (212, 10, 28), (215, 10, 29), (218, 10, 30), (224, 10, 31), (227, 10, 32), (233, 10, 33), (241, 10, 34), (244, 10, 35), (256, 10, 39), (260, 10, 40), (283, 10, 38), (306, 10, 37), (442, 10, 48), (445, 10, 47), (478, 10, 52)]
def ltX10 : List (Nat × MV) := [(47, mI (32768)), (172, mL (-1)), (187, mL (-1000000)), (189, mL (1000000)), (368, mL (7)), (383, mL (4)), (385, mL (3)), (402, mL (5)), (432, mL (30)), (437, mL (6)), (451, mL (4096)), (465, mL (-99)), (467, mL (99)), (481, mL (9)), (483, mL (10))]
set_option maxRecDepth 100000 in
theorem ftX10_ok : ∀ q ∈ ftX10, ∃ r : vw_C, vwCl[q.2.1]? = some r ∧ q.2.2 < r.2.2 ∧ Jvm.Cond.fieldLink RX10 q.1 (r.2.1 q.2.2).1 (r.2.1 q.2.2).2.1 (r.2.1 q.2.2).2.2.1 ∈ mm_gt := by
  exact List.forall_mem_cons.mpr ⟨⟨(RX10, TX10, 53), rfl, (by decide), tb6 (i := 1) rfl rfl⟩, List.forall_mem_cons.mpr ⟨⟨(RX10, TX10, 53), rfl, (by decide), tb6 (i := 8) rfl rfl⟩, List.forall_mem_cons.mpr ⟨⟨(RX10, TX10, 53), rfl, (by decide), tb6 (i := 9) rfl rfl⟩, List.forall_mem_cons.mpr ⟨⟨(RX10, TX10, 53), rfl, (by decide), tb6 (i := 10) rfl rfl⟩, List.forall_mem_cons.mpr ⟨⟨(RX10, TX10, 53), rfl, (by decide), tb6 (i := 11) rfl rfl⟩, List.forall_mem_cons.mpr ⟨⟨(RX10, TX10, 53), rfl, (by decide), tb6 (i := 12) rfl rfl⟩, List.forall_mem_cons.mpr ⟨⟨(RX10, TX10, 53), rfl, (by decide), tb6 (i := 13) rfl rfl⟩, List.forall_mem_cons.mpr ⟨⟨(RX10, TX10, 53), rfl, (by decide), tb6 (i := 14) rfl rfl⟩, List.forall_mem_cons.mpr ⟨⟨(RX10, TX10, 53), rfl, (by decide), tb6 (i := 17) rfl rfl⟩, List.forall_mem_cons.mpr ⟨⟨(RX10, TX10, 53), rfl, (by decide), tb6 (i := 18) rfl rfl⟩, List.forall_mem_cons.mpr ⟨⟨(RX10, TX10, 53), rfl, (by decide), tb6 (i := 19) rfl rfl⟩, List.forall_mem_cons.mpr ⟨⟨(RX10, TX10, 53), rfl, (by decide), tb6 (i := 20) rfl rfl⟩, List.forall_mem_cons.mpr ⟨⟨(RX10, TX10, 53), rfl, (by decide), tb6 (i := 21) rfl rfl⟩, List.forall_mem_cons.mpr ⟨⟨(RX10, TX10, 53), rfl, (by decide), tb6 (i := 22) rfl rfl⟩, List.forall_mem_cons.mpr ⟨⟨(RX10, TX10, 53), rfl, (by decide), tb6 (i := 23) rfl rfl⟩, List.forall_mem_cons.mpr ⟨⟨(RX10, TX10, 53), rfl, (by decide), tb6 (i := 25) rfl rfl⟩, List.forall_mem_cons.mpr ⟨⟨(RX10, TX10, 53), rfl, (by decide), tb6 (i := 26) rfl rfl⟩, List.forall_mem_cons.mpr ⟨⟨(RX10, TX10, 53), rfl, (by decide), tb6 (i := 27) rfl rfl⟩, List.forall_mem_cons.mpr ⟨⟨(RX10, TX10, 53), rfl, (by decide), tb6 (i := 28) rfl rfl⟩, List.forall_mem_cons.mpr ⟨⟨(RX10, TX10, 53), rfl, (by decide), tb6 (i := 37) rfl rfl⟩, List.forall_mem_cons.mpr ⟨⟨(RX10, TX10, 53), rfl, (by decide), tb6 (i := 42) rfl rfl⟩, List.forall_mem_cons.mpr ⟨⟨(RX10, TX10, 53), rfl, (by decide), tb6 (i := 43) rfl rfl⟩, List.forall_mem_cons.mpr ⟨⟨(RX10, TX10, 53), rfl, (by decide), tb6 (i := 44) rfl rfl⟩, List.forall_mem_cons.mpr ⟨⟨(RX10, TX10, 53), rfl, (by decide), tb6 (i := 45) rfl rfl⟩, List.forall_mem_cons.mpr ⟨⟨(RX10, TX10, 53), rfl, (by decide), tb6 (i := 46) rfl rfl⟩, List.forall_mem_cons.mpr ⟨⟨(RX10, TX10, 53), rfl, (by decide), tb6 (i := 47) rfl rfl⟩, List.forall_mem_cons.mpr ⟨⟨(RX10, TX10, 53), rfl, (by decide), tb6 (i := 50) rfl rfl⟩, List.forall_mem_cons.mpr ⟨⟨(RX10, TX10, 53), rfl, (by decide), tb6 (i := 51) rfl rfl⟩, List.forall_mem_cons.mpr ⟨⟨(RX10, TX10, 53), rfl, (by decide), tb6 (i := 52) rfl rfl⟩, List.forall_mem_cons.mpr ⟨⟨(RX10, TX10, 53), rfl, (by decide), tb6 (i := 2) rfl rfl⟩, List.forall_mem_cons.mpr ⟨⟨(RX10, TX10, 53), rfl, (by decide), tb6 (i := 3) rfl rfl⟩, List.forall_mem_cons.mpr ⟨⟨(RX10, TX10, 53), rfl, (by decide), tb6 (i := 4) rfl rfl⟩, List.forall_mem_cons.mpr ⟨⟨(RX10, TX10, 53), rfl, (by decide), tb6 (i := 5) rfl rfl⟩, List.forall_mem_cons.mpr ⟨⟨(RX10, TX10, 53), rfl, (by decide), tb6 (i := 6) rfl rfl⟩, List.forall_mem_cons.mpr ⟨⟨(RX10, TX10, 53), rfl, (by decide), tb6 (i := 7) rfl rfl⟩, List.forall_mem_cons.mpr ⟨⟨(RX10, TX10, 53), rfl, (by decide), tb6 (i := 15) rfl rfl⟩, List.forall_mem_cons.mpr ⟨⟨(RX10, TX10, 53), rfl, (by decide), tb6 (i := 24) rfl rfl⟩, List.forall_mem_cons.mpr ⟨⟨(RX10, TX10, 53), rfl, (by decide), tb6 (i := 16) rfl rfl⟩, List.forall_mem_cons.mpr ⟨⟨(RX10, TX10, 53), rfl, (by decide), tb6 (i := 29) rfl rfl⟩, List.forall_mem_cons.mpr ⟨⟨(RX10, TX10, 53), rfl, (by decide), tb6 (i := 30) rfl rfl⟩, List.forall_mem_cons.mpr ⟨⟨(RX10, TX10, 53), rfl, (by decide), tb6 (i := 31) rfl rfl⟩, List.forall_mem_cons.mpr ⟨⟨(RX10, TX10, 53), rfl, (by decide), tb6 (i := 32) rfl rfl⟩, List.forall_mem_cons.mpr ⟨⟨(RX10, TX10, 53), rfl, (by decide), tb6 (i := 33) rfl rfl⟩, List.forall_mem_cons.mpr ⟨⟨(RX10, TX10, 53), rfl, (by decide), tb6 (i := 34) rfl rfl⟩, List.forall_mem_cons.mpr ⟨⟨(RX10, TX10, 53), rfl, (by decide), tb6 (i := 35) rfl rfl⟩, List.forall_mem_cons.mpr ⟨⟨(RX10, TX10, 53), rfl, (by decide), tb6 (i := 36) rfl rfl⟩, List.forall_mem_cons.mpr ⟨⟨(RX10, TX10, 53), rfl, (by decide), tb6 (i := 40) rfl rfl⟩, List.forall_mem_cons.mpr ⟨⟨(RX10, TX10, 53), rfl, (by decide), tb6 (i := 41) rfl rfl⟩, List.forall_mem_cons.mpr ⟨⟨(RX10, TX10, 53), rfl, (by decide), tb6 (i := 39) rfl rfl⟩, List.forall_mem_cons.mpr ⟨⟨(RX10, TX10, 53), rfl, (by decide), tb6 (i := 38) rfl rfl⟩, List.forall_mem_cons.mpr ⟨⟨(RX10, TX10, 53), rfl, (by decide), tb6 (i := 49) rfl rfl⟩, List.forall_mem_cons.mpr ⟨⟨(RX10, TX10, 53), rfl, (by decide), tb6 (i := 48) rfl rfl⟩, List.forall_mem_cons.mpr ⟨⟨(RX10, TX10, 53), rfl, (by decide), tb6 (i := 53) rfl rfl⟩, List.forall_mem_nil _⟩⟩⟩⟩⟩⟩⟩⟩⟩⟩⟩⟩⟩⟩⟩⟩⟩⟩⟩⟩⟩⟩⟩⟩⟩⟩⟩⟩⟩⟩⟩⟩⟩⟩⟩⟩⟩⟩⟩⟩⟩⟩⟩⟩⟩⟩⟩⟩⟩⟩⟩⟩⟩
theorem ltX10_ok : ∀ q ∈ ltX10, (∀ z : Int, q.2 = mI z → Jvm.Cond.constant RX10 q.1 (Int32.ofInt z) ∈ mm_gt) ∧ ∀ x : Int64, q.2 = mL x → Jvm.Cond.constantLong RX10 q.1 x ∈ mm_gt := by
  exact List.forall_mem_cons.mpr ⟨⟨(fun z h => by cases h; exact tb5 (i := 181) rfl rfl), (fun x h => by cases h)⟩, List.forall_mem_cons.mpr ⟨⟨(fun z h => by cases h), (fun x h => by cases h; exact tb5 (i := 229) rfl rfl)⟩, List.forall_mem_cons.mpr ⟨⟨(fun z h => by cases h), (fun x h => by cases h; exact tb7 (i := 12) rfl rfl)⟩, List.forall_mem_cons.mpr ⟨⟨(fun z h => by cases h), (fun x h => by cases h; exact tb7 (i := 13) rfl rfl)⟩, List.forall_mem_cons.mpr ⟨⟨(fun z h => by cases h), (fun x h => by cases h; exact tb6 (i := 176) rfl rfl)⟩, List.forall_mem_cons.mpr ⟨⟨(fun z h => by cases h), (fun x h => by cases h; exact tb7 (i := 133) rfl rfl)⟩, List.forall_mem_cons.mpr ⟨⟨(fun z h => by cases h), (fun x h => by cases h; exact tb7 (i := 142) rfl rfl)⟩, List.forall_mem_cons.mpr ⟨⟨(fun z h => by cases h), (fun x h => by cases h; exact tb7 (i := 179) rfl rfl)⟩, List.forall_mem_cons.mpr ⟨⟨(fun z h => by cases h), (fun x h => by cases h; exact tb8 (i := 0) rfl rfl)⟩, List.forall_mem_cons.mpr ⟨⟨(fun z h => by cases h), (fun x h => by cases h; exact tb8 (i := 13) rfl rfl)⟩, List.forall_mem_cons.mpr ⟨⟨(fun z h => by cases h), (fun x h => by cases h; exact tb8 (i := 26) rfl rfl)⟩, List.forall_mem_cons.mpr ⟨⟨(fun z h => by cases h), (fun x h => by cases h; exact tb8 (i := 55) rfl rfl)⟩, List.forall_mem_cons.mpr ⟨⟨(fun z h => by cases h), (fun x h => by cases h; exact tb8 (i := 56) rfl rfl)⟩, List.forall_mem_cons.mpr ⟨⟨(fun z h => by cases h), (fun x h => by cases h; exact tb8 (i := 103) rfl rfl)⟩, List.forall_mem_cons.mpr ⟨⟨(fun z h => by cases h), (fun x h => by cases h; exact tb8 (i := 104) rfl rfl)⟩, List.forall_mem_nil _⟩⟩⟩⟩⟩⟩⟩⟩⟩⟩⟩⟩⟩⟩⟩
def ftX2 : List (Nat × Nat × Nat) := [(9, 2, 1), (15, 2, 2), (18, 2, 3), (21, 2, 4), (24, 2, 0)]
def ltX2 : List (Nat × MV) := []
set_option maxRecDepth 100000 in
theorem ftX2_ok : ∀ q ∈ ftX2, ∃ r : vw_C, vwCl[q.2.1]? = some r ∧ q.2.2 < r.2.2 ∧ Jvm.Cond.fieldLink RX2 q.1 (r.2.1 q.2.2).1 (r.2.1 q.2.2).2.1 (r.2.1 q.2.2).2.2.1 ∈ mm_gt := by
  exact List.forall_mem_cons.mpr ⟨⟨(RX2, TX2, 5), rfl, (by decide), tb1 (i := 198) rfl rfl⟩, List.forall_mem_cons.mpr ⟨⟨(RX2, TX2, 5), rfl, (by decide), tb1 (i := 200) rfl rfl⟩, List.forall_mem_cons.mpr ⟨⟨(RX2, TX2, 5), rfl, (by decide), tb1 (i := 202) rfl rfl⟩, List.forall_mem_cons.mpr ⟨⟨(RX2, TX2, 5), rfl, (by decide), tb1 (i := 204) rfl rfl⟩, List.forall_mem_cons.mpr ⟨⟨(RX2, TX2, 5), rfl, (by decide), tb1 (i := 195) rfl rfl⟩, List.forall_mem_nil _⟩⟩⟩⟩⟩
def ftX3 : List (Nat × Nat × Nat) := [(12, 3, 0), (18, 3, 3), (22, 3, 4), (26, 3, 5), (30, 2, 0), (34, 3, 1), (37, 3, 2), (46, 3, 6), (47, 3, 7), (50, 3, 8), (59, 3, 9), (79, 3, 11), (110, 4, 0), (115, 1, 2), (130, 3, 10)]
def ltX3 : List (Nat × MV) := []
set_option maxRecDepth 100000 in
theorem ftX3_ok : ∀ q ∈ ftX3, ∃ r : vw_C, vwCl[q.2.1]? = some r ∧ q.2.2 < r.2.2 ∧ Jvm.Cond.fieldLink RX3 q.1 (r.2.1 q.2.2).1 (r.2.1 q.2.2).2.1 (r.2.1 q.2.2).2.2.1 ∈ mm_gt := by
  exact List.forall_mem_cons.mpr ⟨⟨(RX3, TX3, 12), rfl, (by decide), tb1 (i := 217) rfl rfl⟩, List.forall_mem_cons.mpr ⟨⟨(RX3, TX3, 12), rfl, (by decide), tb1 (i := 223) rfl rfl⟩, List.forall_mem_cons.mpr ⟨⟨(RX3, TX3, 12), rfl, (by decide), tb1 (i := 224) rfl rfl⟩, List.forall_mem_cons.mpr ⟨⟨(RX3, TX3, 12), rfl, (by decide), tb1 (i := 225) rfl rfl⟩, List.forall_mem_cons.mpr ⟨⟨(RX2, TX2, 5), rfl, (by decide), tb1 (i := 196) rfl rfl⟩, List.forall_mem_cons.mpr ⟨⟨(RX3, TX3, 12), rfl, (by decide), tb1 (i := 219) rfl rfl⟩, List.forall_mem_cons.mpr ⟨⟨(RX3, TX3, 12), rfl, (by decide), tb1 (i := 221) rfl rfl⟩, List.forall_mem_cons.mpr ⟨⟨(RX3, TX3, 12), rfl, (by decide), tb1 (i := 226) rfl rfl⟩, List.forall_mem_cons.mpr ⟨⟨(RX3, TX3, 12), rfl, (by decide), tb1 (i := 227) rfl rfl⟩, List.forall_mem_cons.mpr ⟨⟨(RX3, TX3, 12), rfl, (by decide), tb1 (i := 228) rfl rfl⟩, List.forall_mem_cons.mpr ⟨⟨(RX3, TX3, 12), rfl, (by decide), tb1 (i := 229) rfl rfl⟩, List.forall_mem_cons.mpr ⟨⟨(RX3, TX3, 12), rfl, (by decide), tb1 (i := 231) rfl rfl⟩, List.forall_mem_cons.mpr ⟨⟨(RX4, TX4, 8), rfl, (by decide), tb1 (i := 95) rfl rfl⟩, List.forall_mem_cons.mpr ⟨⟨(RX1, TX1, 13), rfl, (by decide), tb1 (i := 45) rfl rfl⟩, List.forall_mem_cons.mpr ⟨⟨(RX3, TX3, 12), rfl, (by decide), tb1 (i := 230) rfl rfl⟩, List.forall_mem_nil _⟩⟩⟩⟩⟩⟩⟩⟩⟩⟩⟩⟩⟩⟩⟩
def ftX4 : List (Nat × Nat × Nat) := [(11, 4, 3), (15, 4, 4), (19, 4, 5), (23, 4, 6), (26, 4, 0), (30, 4, 2), (48, 4, 1), (84, 4, 7)]
def ltX4 : List (Nat × MV) := [(69, mL (-1000000)), (71, mL (1000000))]
set_option maxRecDepth 100000 in
theorem ftX4_ok : ∀ q ∈ ftX4, ∃ r : vw_C, vwCl[q.2.1]? = some r ∧ q.2.2 < r.2.2 ∧ Jvm.Cond.fieldLink RX4 q.1 (r.2.1 q.2.2).1 (r.2.1 q.2.2).2.1 (r.2.1 q.2.2).2.2.1 ∈ mm_gt := by
  exact List.forall_mem_cons.mpr ⟨⟨(RX4, TX4, 8), rfl, (by decide), tb1 (i := 100) rfl rfl⟩, List.forall_mem_cons.mpr ⟨⟨(RX4, TX4, 8), rfl, (by decide), tb1 (i := 101) rfl rfl⟩, List.forall_mem_cons.mpr ⟨⟨(RX4, TX4, 8), rfl, (by decide), tb1 (i := 102) rfl rfl⟩, List.forall_mem_cons.mpr ⟨⟨(RX4, TX4, 8), rfl, (by decide), tb1 (i := 103) rfl rfl⟩, List.forall_mem_cons.mpr ⟨⟨(RX4, TX4, 8), rfl, (by decide), tb1 (i := 92) rfl rfl⟩, List.forall_mem_cons.mpr ⟨⟨(RX4, TX4, 8), rfl, (by decide), tb1 (i := 99) rfl rfl⟩, List.forall_mem_cons.mpr ⟨⟨(RX4, TX4, 8), rfl, (by decide), tb1 (i := 97) rfl rfl⟩, List.forall_mem_cons.mpr ⟨⟨(RX4, TX4, 8), rfl, (by decide), tb1 (i := 104) rfl rfl⟩, List.forall_mem_nil _⟩⟩⟩⟩⟩⟩⟩⟩
theorem ltX4_ok : ∀ q ∈ ltX4, (∀ z : Int, q.2 = mI z → Jvm.Cond.constant RX4 q.1 (Int32.ofInt z) ∈ mm_gt) ∧ ∀ x : Int64, q.2 = mL x → Jvm.Cond.constantLong RX4 q.1 x ∈ mm_gt := by
  exact List.forall_mem_cons.mpr ⟨⟨(fun z h => by cases h), (fun x h => by cases h; exact tb3 (i := 81) rfl rfl)⟩, List.forall_mem_cons.mpr ⟨⟨(fun z h => by cases h), (fun x h => by cases h; exact tb3 (i := 82) rfl rfl)⟩, List.forall_mem_nil _⟩⟩
def ftX5 : List (Nat × Nat × Nat) := [(13, 5, 0), (17, 5, 1)]
def ltX5 : List (Nat × MV) := [(38, mI (1000000))]
set_option maxRecDepth 100000 in
theorem ftX5_ok : ∀ q ∈ ftX5, ∃ r : vw_C, vwCl[q.2.1]? = some r ∧ q.2.2 < r.2.2 ∧ Jvm.Cond.fieldLink RX5 q.1 (r.2.1 q.2.2).1 (r.2.1 q.2.2).2.1 (r.2.1 q.2.2).2.2.1 ∈ mm_gt := by
  exact List.forall_mem_cons.mpr ⟨⟨(RX5, TX5, 2), rfl, (by decide), tb2 (i := 46) rfl rfl⟩, List.forall_mem_cons.mpr ⟨⟨(RX5, TX5, 2), rfl, (by decide), tb2 (i := 47) rfl rfl⟩, List.forall_mem_nil _⟩⟩
theorem ltX5_ok : ∀ q ∈ ltX5, (∀ z : Int, q.2 = mI z → Jvm.Cond.constant RX5 q.1 (Int32.ofInt z) ∈ mm_gt) ∧ ∀ x : Int64, q.2 = mL x → Jvm.Cond.constantLong RX5 q.1 x ∈ mm_gt := by
  exact List.forall_mem_cons.mpr ⟨⟨(fun z h => by cases h; exact tb5 (i := 174) rfl rfl), (fun x h => by cases h)⟩, List.forall_mem_nil _⟩
def ftX6 : List (Nat × Nat × Nat) := [(9, 6, 0), (15, 6, 1), (19, 6, 2), (23, 1, 0), (33, 4, 0), (41, 1, 2)]
def ltX6 : List (Nat × MV) := []
set_option maxRecDepth 100000 in
theorem ftX6_ok : ∀ q ∈ ftX6, ∃ r : vw_C, vwCl[q.2.1]? = some r ∧ q.2.2 < r.2.2 ∧ Jvm.Cond.fieldLink RX6 q.1 (r.2.1 q.2.2).1 (r.2.1 q.2.2).2.1 (r.2.1 q.2.2).2.2.1 ∈ mm_gt := by
  exact List.forall_mem_cons.mpr ⟨⟨(RX6, TX6, 3), rfl, (by decide), tb1 (i := 132) rfl rfl⟩, List.forall_mem_cons.mpr ⟨⟨(RX6, TX6, 3), rfl, (by decide), tb1 (i := 133) rfl rfl⟩, List.forall_mem_cons.mpr ⟨⟨(RX6, TX6, 3), rfl, (by decide), tb1 (i := 134) rfl rfl⟩, List.forall_mem_cons.mpr ⟨⟨(RX1, TX1, 13), rfl, (by decide), tb1 (i := 35) rfl rfl⟩, List.forall_mem_cons.mpr ⟨⟨(RX4, TX4, 8), rfl, (by decide), tb1 (i := 93) rfl rfl⟩, List.forall_mem_cons.mpr ⟨⟨(RX1, TX1, 13), rfl, (by decide), tb1 (i := 42) rfl rfl⟩, List.forall_mem_nil _⟩⟩⟩⟩⟩⟩
def ftX7 : List (Nat × Nat × Nat) := [(11, 7, 1), (15, 7, 0), (19, 1, 2), (25, 7, 2), (42, 7, 3), (45, 7, 4)]
def ltX7 : List (Nat × MV) := []
set_option maxRecDepth 100000 in
theorem ftX7_ok : ∀ q ∈ ftX7, ∃ r : vw_C, vwCl[q.2.1]? = some r ∧ q.2.2 < r.2.2 ∧ Jvm.Cond.fieldLink RX7 q.1 (r.2.1 q.2.2).1 (r.2.1 q.2.2).2.1 (r.2.1 q.2.2).2.2.1 ∈ mm_gt := by
  exact List.forall_mem_cons.mpr ⟨⟨(RX7, TX7, 5), rfl, (by decide), tb1 (i := 168) rfl rfl⟩, List.forall_mem_cons.mpr ⟨⟨(RX7, TX7, 5), rfl, (by decide), tb1 (i := 167) rfl rfl⟩, List.forall_mem_cons.mpr ⟨⟨(RX1, TX1, 13), rfl, (by decide), tb1 (i := 40) rfl rfl⟩, List.forall_mem_cons.mpr ⟨⟨(RX7, TX7, 5), rfl, (by decide), tb1 (i := 169) rfl rfl⟩, List.forall_mem_cons.mpr ⟨⟨(RX7, TX7, 5), rfl, (by decide), tb1 (i := 170) rfl rfl⟩, List.forall_mem_cons.mpr ⟨⟨(RX7, TX7, 5), rfl, (by decide), tb1 (i := 171) rfl rfl⟩, List.forall_mem_nil _⟩⟩⟩⟩⟩⟩
def ftX8 : List (Nat × Nat × Nat) := [(13, 8, 3), (16, 8, 0), (20, 8, 1), (24, 8, 2), (27, 8, 4), (31, 2, 0), (40, 2, 2), (44, 2, 1), (67, 2, 3), (76, 2, 4), (115, 4, 1)]
def ltX8 : List (Nat × MV) := []
set_option maxRecDepth 100000 in
theorem ftX8_ok : ∀ q ∈ ftX8, ∃ r : vw_C, vwCl[q.2.1]? = some r ∧ q.2.2 < r.2.2 ∧ Jvm.Cond.fieldLink RX8 q.1 (r.2.1 q.2.2).1 (r.2.1 q.2.2).2.1 (r.2.1 q.2.2).2.2.1 ∈ mm_gt := by
  exact List.forall_mem_cons.mpr ⟨⟨(RX8, TX8, 5), rfl, (by decide), tb2 (i := 27) rfl rfl⟩, List.forall_mem_cons.mpr ⟨⟨(RX8, TX8, 5), rfl, (by decide), tb2 (i := 24) rfl rfl⟩, List.forall_mem_cons.mpr ⟨⟨(RX8, TX8, 5), rfl, (by decide), tb2 (i := 25) rfl rfl⟩, List.forall_mem_cons.mpr ⟨⟨(RX8, TX8, 5), rfl, (by decide), tb2 (i := 26) rfl rfl⟩, List.forall_mem_cons.mpr ⟨⟨(RX8, TX8, 5), rfl, (by decide), tb2 (i := 28) rfl rfl⟩, List.forall_mem_cons.mpr ⟨⟨(RX2, TX2, 5), rfl, (by decide), tb1 (i := 197) rfl rfl⟩, List.forall_mem_cons.mpr ⟨⟨(RX2, TX2, 5), rfl, (by decide), tb1 (i := 201) rfl rfl⟩, List.forall_mem_cons.mpr ⟨⟨(RX2, TX2, 5), rfl, (by decide), tb1 (i := 199) rfl rfl⟩, List.forall_mem_cons.mpr ⟨⟨(RX2, TX2, 5), rfl, (by decide), tb1 (i := 203) rfl rfl⟩, List.forall_mem_cons.mpr ⟨⟨(RX2, TX2, 5), rfl, (by decide), tb1 (i := 205) rfl rfl⟩, List.forall_mem_cons.mpr ⟨⟨(RX4, TX4, 8), rfl, (by decide), tb1 (i := 98) rfl rfl⟩, List.forall_mem_nil _⟩⟩⟩⟩⟩⟩⟩⟩⟩⟩⟩
def ftX9 : List (Nat × Nat × Nat) := [(10, 9, 0), (19, 9, 1), (25, 9, 8), (28, 9, 9), (32, 9, 10), (40, 9, 2), (49, 9, 3), (56, 9, 4), (63, 9, 5), (72, 9, 6), (79, 9, 7), (83, 9, 12), (95, 9, 11), (116, 3, 2), (117, 3, 1), (120, 3, 0), (132, 4, 1), (145, 1, 0), (148, 1, 1), (151, 1, 2), (154, 4, 0), (157, 1, 4), (160, 1, 3)]
def ltX9 : List (Nat × MV) := []
set_option maxRecDepth 100000 in
theorem ftX9_ok : ∀ q ∈ ftX9, ∃ r : vw_C, vwCl[q.2.1]? = some r ∧ q.2.2 < r.2.2 ∧ Jvm.Cond.fieldLink RX9 q.1 (r.2.1 q.2.2).1 (r.2.1 q.2.2).2.1 (r.2.1 q.2.2).2.2.1 ∈ mm_gt := by
  exact List.forall_mem_cons.mpr ⟨⟨(RX9, TX9, 13), rfl, (by decide), tb2 (i := 147) rfl rfl⟩, List.forall_mem_cons.mpr ⟨⟨(RX9, TX9, 13), rfl, (by decide), tb2 (i := 148) rfl rfl⟩, List.forall_mem_cons.mpr ⟨⟨(RX9, TX9, 13), rfl, (by decide), tb2 (i := 155) rfl rfl⟩, List.forall_mem_cons.mpr ⟨⟨(RX9, TX9, 13), rfl, (by decide), tb2 (i := 156) rfl rfl⟩, List.forall_mem_cons.mpr ⟨⟨(RX9, TX9, 13), rfl, (by decide), tb2 (i := 157) rfl rfl⟩, List.forall_mem_cons.mpr ⟨⟨(RX9, TX9, 13), rfl, (by decide), tb2 (i := 149) rfl rfl⟩, List.forall_mem_cons.mpr ⟨⟨(RX9, TX9, 13), rfl, (by decide), tb2 (i := 150) rfl rfl⟩, List.forall_mem_cons.mpr ⟨⟨(RX9, TX9, 13), rfl, (by decide), tb2 (i := 151) rfl rfl⟩, List.forall_mem_cons.mpr ⟨⟨(RX9, TX9, 13), rfl, (by decide), tb2 (i := 152) rfl rfl⟩, List.forall_mem_cons.mpr ⟨⟨(RX9, TX9, 13), rfl, (by decide), tb2 (i := 153) rfl rfl⟩, List.forall_mem_cons.mpr ⟨⟨(RX9, TX9, 13), rfl, (by decide), tb2 (i := 154) rfl rfl⟩, List.forall_mem_cons.mpr ⟨⟨(RX9, TX9, 13), rfl, (by decide), tb2 (i := 159) rfl rfl⟩, List.forall_mem_cons.mpr ⟨⟨(RX9, TX9, 13), rfl, (by decide), tb2 (i := 158) rfl rfl⟩, List.forall_mem_cons.mpr ⟨⟨(RX3, TX3, 12), rfl, (by decide), tb1 (i := 222) rfl rfl⟩, List.forall_mem_cons.mpr ⟨⟨(RX3, TX3, 12), rfl, (by decide), tb1 (i := 220) rfl rfl⟩, List.forall_mem_cons.mpr ⟨⟨(RX3, TX3, 12), rfl, (by decide), tb1 (i := 218) rfl rfl⟩, List.forall_mem_cons.mpr ⟨⟨(RX4, TX4, 8), rfl, (by decide), tb1 (i := 96) rfl rfl⟩, List.forall_mem_cons.mpr ⟨⟨(RX1, TX1, 13), rfl, (by decide), tb1 (i := 37) rfl rfl⟩, List.forall_mem_cons.mpr ⟨⟨(RX1, TX1, 13), rfl, (by decide), tb1 (i := 39) rfl rfl⟩, List.forall_mem_cons.mpr ⟨⟨(RX1, TX1, 13), rfl, (by decide), tb1 (i := 44) rfl rfl⟩, List.forall_mem_cons.mpr ⟨⟨(RX4, TX4, 8), rfl, (by decide), tb1 (i := 94) rfl rfl⟩, List.forall_mem_cons.mpr ⟨⟨(RX1, TX1, 13), rfl, (by decide), tb1 (i := 48) rfl rfl⟩, List.forall_mem_cons.mpr ⟨⟨(RX1, TX1, 13), rfl, (by decide), tb1 (i := 46) rfl rfl⟩, List.forall_mem_nil _⟩⟩⟩⟩⟩⟩⟩⟩⟩⟩⟩⟩⟩⟩⟩⟩⟩⟩⟩⟩⟩⟩⟩
end
section
/-! the small machine's steps are the real one's: the stack alone -/
section MS1
variable {p : Program} {l : Launch} {e : Env} {R : Room} {s : State} {m : MethodId} {args : Array Value} {below : List Frame} {meth : Method} {c : Code} {Q : State → Prop}
variable {cc : ByteArray} {own : String} {g : SG} {H : Heap} {locs : List Loc} {cells slots : Nat} {ls : Array Slot} {pc : Nat} {rest : List Value}
theorem mm_top {z : Int} {x : Int32} (e1 : Int32.ofInt z = x) (k : W p l e R s m args below meth c H locs cells slots Q (F0 m pc ls (.int (Int32.ofInt z) :: rest))) : W p l e R s m args below meth c H locs cells slots Q (F0 m pc ls (.int x :: rest)) := by
  rw [← e1]
  exact k
theorem mm_topL {z x : Int64} (e1 : z = x) (k : W p l e R s m args below meth c H locs cells slots Q (F0 m pc ls (.long z :: rest))) : W p l e R s m args below meth c H locs cells slots Q (F0 m pc ls (.long x :: rest)) := by
  rw [← e1]
  exact k
theorem mm_rngB_t {lo hi z : Int} (h : mm_rngB lo hi z = true) : lo ≤ z ∧ z ≤ hi := by
  unfold mm_rngB at h
  simpa using h
theorem mm_b8 {z : Int} (h : -128 ≤ z ∧ z ≤ 127) : (Int8.ofInt z).toInt32 = Int32.ofInt z := by
  have h1 : (Int8.ofInt z).toInt = z := Int8.toInt_ofInt_of_le (by omega) (by omega)
  rw [← Int32.ofInt_int8ToInt, h1]
theorem mm_b16 {z : Int} (h : -32768 ≤ z ∧ z ≤ 32767) : (Int16.ofInt z).toInt32 = Int32.ofInt z := by
  have h1 : (Int16.ofInt z).toInt = z := Int16.toInt_ofInt_of_le (by omega) (by omega)
  rw [← Int32.ofInt_int16ToInt, h1]
def mm_Lok (own : String) (lt : List (Nat × MV)) (args : Array Value) (s : State) : Prop := ∀ (i : Nat) (v : MV), mm_look lt i = some v → (∀ z : Int, v = mI z → (Jvm.Cond.constant own i (Int32.ofInt z)).before args s = true) ∧ ∀ x : Int64, v = mL x → (Jvm.Cond.constantLong own i x).before args s = true
set_option maxHeartbeats 4000000 in
theorem mm_p0_sound (hx : p.tables.exec = Jvm.exec) (hb : c.code = cc) (hown : s.vm.findClass own = some m.cls) {lt : List (Nat × MV)} (hlt : mm_Lok own lt args s) {ins : Instr} {len : Nat} (hd : decode cc pc = .ok (ins, len)) (hl : mm_lenok ins len = true) {st st' : List MV} (hp : mm_p0 lt ins st = some st') (hs : mm_okS st)
    (k : mm_okS st' → W p l e R s m args below meth c H locs cells slots Q (F0 m (pc + len) ls (st'.map (mm_cv g)))) : W p l e R s m args below meth c H locs cells slots Q (F0 m pc ls (st.map (mm_cv g))) := by
  have L1 : ∀ {n : Nat}, Nat.beq len n = true → len = n := fun h => Nat.eq_of_beq_eq_true h
  unfold mm_p0 at hp
  split at hp
  · -- iconst
    have e1 := L1 (n := 1) hl
    subst e1
    split at hp
    · rename_i z hz
      cases hp
      exact lv_iconst hx hb hd rfl (k ⟨by have := mm_rngB_t hz; unfold mm_okV mm_rng; omega, hs⟩)
    · cases hp
  · have e1 := L1 (n := 2) hl
    subst e1
    split at hp
    · rename_i z hz
      cases hp
      exact lv_bipush hx hb hd (mm_b8 (mm_rngB_t hz)) (k ⟨by have := mm_rngB_t hz; unfold mm_okV mm_rng; omega, hs⟩)
    · cases hp
  · have e1 := L1 (n := 3) hl
    subst e1
    split at hp
    · rename_i z hz
      cases hp
      exact lv_sipush hx hb hd (mm_b16 (mm_rngB_t hz)) (k ⟨by have := mm_rngB_t hz; unfold mm_okV mm_rng; omega, hs⟩)
    · cases hp
  · have e1 := L1 (n := 1) hl
    subst e1
    cases hp
    exact lv_lconst hx hb hd rfl (k ⟨trivial, hs⟩)
  · have e1 := L1 (n := 1) hl
    subst e1
    cases hp
    exact lv_null hx hb hd (k ⟨trivial, hs⟩)
  · have e1 := L1 (n := 2) hl
    subst e1
    split at hp
    · rename_i z hz
      split at hp
      · rename_i hr
        cases hp
        exact lv_ldc hx hb hown ((hlt _ _ hz).1 _ rfl) hd (k ⟨by have := mm_rngB_t hr; unfold mm_okV mm_rng; omega, hs⟩)
      · cases hp
    · cases hp
  · have e1 := L1 (n := 3) hl
    subst e1
    split at hp
    · rename_i z hz
      split at hp
      · rename_i hr
        cases hp
        exact lv_ldcw hx hb hown ((hlt _ _ hz).1 _ rfl) hd (k ⟨by have := mm_rngB_t hr; unfold mm_okV mm_rng; omega, hs⟩)
      · cases hp
    · cases hp
  · have e1 := L1 (n := 3) hl
    subst e1
    split at hp
    · rename_i x hz
      cases hp
      exact lv_ldc2 hx hb hown ((hlt _ _ hz).2 _ rfl) hd (k ⟨trivial, hs⟩)
    · cases hp
  · -- dup
    have e1 := L1 (n := 1) hl
    subst e1
    split at hp
    · split at hp
      · rename_i hc
        cases hp
        exact lv_dup hx hb hd (mm_cat1 hc) (k ⟨hs.1, hs⟩)
      · cases hp
    · cases hp
  · -- pop
    have e1 := L1 (n := 1) hl
    subst e1
    split at hp
    · split at hp
      · rename_i hc
        cases hp
        exact lv_pop hx hb hd (mm_cat1 hc) (k hs.2)
      · cases hp
    · cases hp
  · -- dup2
    have e1 := L1 (n := 1) hl
    subst e1
    split at hp
    · split at hp
      · rename_i hc
        cases hp
        exact lv_dup2_2 hx hb hd (mm_cat2 hc) (k ⟨hs.1, hs⟩)
      · rename_i hc
        split at hp
        · split at hp
          · rename_i hc2
            cases hp
            exact lv_dup2_11 hx hb hd (mm_cat1 hc) (mm_cat1 hc2) (k ⟨hs.1, hs.2.1, hs⟩)
          · cases hp
        · cases hp
    · cases hp
  · -- i2l
    have e1 := L1 (n := 1) hl
    subst e1
    split at hp
    · cases hp
      have hr : mm_rng _ := hs.1
      exact lv_i2l hx hb hd (Int32.toInt64_ofInt (by unfold mm_rng at hr; exact hr.1) (by unfold mm_rng at hr; exact hr.2)) (k ⟨trivial, hs.2⟩)
    · cases hp
  · -- i2b
    have e1 := L1 (n := 1) hl
    subst e1
    split at hp
    · cases hp
      exact lv_i2b hx hb hd rfl (mm_top (Int32.ofInt_toInt _) (k ⟨mm_rng32 _, hs.2⟩))
    · cases hp
  · have e1 := L1 (n := 1) hl
    subst e1
    split at hp
    · cases hp
      exact lv_ladd hx hb hd (k ⟨trivial, hs.2.2⟩)
    · cases hp
  · have e1 := L1 (n := 1) hl
    subst e1
    split at hp
    · cases hp
      exact lv_lsub hx hb hd (k ⟨trivial, hs.2.2⟩)
    · cases hp
  · have e1 := L1 (n := 1) hl
    subst e1
    split at hp
    · cases hp
      exact lv_lmul hx hb hd (k ⟨trivial, hs.2.2⟩)
    · cases hp
  · have e1 := L1 (n := 1) hl
    subst e1
    split at hp
    · cases hp
      exact lv_lneg hx hb hd (k ⟨trivial, hs.2⟩)
    · cases hp
  · have e1 := L1 (n := 1) hl
    subst e1
    split at hp
    · cases hp
      exact W.lcmp hx hb hd (mm_top (Int32.ofInt_toInt _) (k ⟨mm_rng32 _, hs.2.2⟩))
    · cases hp
  · have e1 := L1 (n := 1) hl
    subst e1
    split at hp
    · cases hp
      exact lv_iand hx hb hd (mm_top (Int32.ofInt_toInt _) (k ⟨mm_rng32 _, hs.2.2⟩))
    · cases hp
  · have e1 := L1 (n := 1) hl
    subst e1
    split at hp
    · cases hp
      exact lv_ior hx hb hd (mm_top (Int32.ofInt_toInt _) (k ⟨mm_rng32 _, hs.2.2⟩))
    · cases hp
  · have e1 := L1 (n := 1) hl
    subst e1
    split at hp
    · cases hp
      exact lv_ishl hx hb hd (mm_top (Int32.ofInt_toInt _) (k ⟨mm_rng32 _, hs.2.2⟩))
    · cases hp
  · have e1 := L1 (n := 1) hl
    subst e1
    split at hp
    · cases hp
      exact lv_ishr hx hb hd (mm_top (Int32.ofInt_toInt _) (k ⟨mm_rng32 _, hs.2.2⟩))
    · cases hp
  · have e1 := L1 (n := 1) hl
    subst e1
    split at hp
    · cases hp
      exact lv_iushr hx hb hd rfl (mm_top (Int32.ofInt_toInt _) (k ⟨mm_rng32 _, hs.2.2⟩))
    · cases hp
  · cases hp
set_option maxHeartbeats 4000000 in
theorem mm_p1_sound (hx : p.tables.exec = Jvm.exec) (hb : c.code = cc) {ins : Instr} {len : Nat} (hd : decode cc pc = .ok (ins, len)) (hl : mm_lenok ins len = true) {st st' : List MV} {P : Prop} (hp : mm_p1 ins st = some (P, st')) (hP : P) (hs : mm_okS st)
    (k : mm_okS st' → W p l e R s m args below meth c H locs cells slots Q (F0 m (pc + len) ls (st'.map (mm_cv g)))) : W p l e R s m args below meth c H locs cells slots Q (F0 m pc ls (st.map (mm_cv g))) := by
  have L1 : ∀ {n : Nat}, Nat.beq len n = true → len = n := fun h => Nat.eq_of_beq_eq_true h
  have Z0 : ∀ {b : Int}, mm_rng b → b ≠ 0 → ¬ Int32.ofInt b = 0 := fun hr h0 h => h0 ((mm_eq32 hr mm_rng0).mp (h.trans mm_z32))
  unfold mm_p1 at hp
  split at hp
  · have e1 := L1 (n := 1) hl
    subst e1
    split at hp
    · cases hp
      exact lv_iadd hx hb hd (mm_top (Int32.ofInt_add _ _) (k ⟨hP, hs.2.2⟩))
    · cases hp
  · have e1 := L1 (n := 1) hl
    subst e1
    split at hp
    · cases hp
      exact lv_isub hx hb hd (mm_top (Int32.ofInt_sub _ _) (k ⟨hP, hs.2.2⟩))
    · cases hp
  · have e1 := L1 (n := 1) hl
    subst e1
    split at hp
    · cases hp
      exact lv_imul hx hb hd (mm_top (Int32.ofInt_mul _ _) (k ⟨hP, hs.2.2⟩))
    · cases hp
  · have e1 := L1 (n := 1) hl
    subst e1
    split at hp
    · cases hp
      exact lv_ineg hx hb hd (mm_top (Int32.ofInt_neg _) (k ⟨hP, hs.2⟩))
    · cases hp
  · have e1 := L1 (n := 1) hl
    subst e1
    split at hp
    · cases hp
      exact lv_idiv hx hb hd (Z0 hs.1 hP.1) (mm_top (mm_div32 hs.2.1 hs.1 hP.2).symm (k ⟨hP.2, hs.2.2⟩))
    · cases hp
  · have e1 := L1 (n := 1) hl
    subst e1
    split at hp
    · cases hp
      exact lv_irem hx hb hd (Z0 hs.1 hP.1) (mm_top (mm_rem32 hs.2.1 hs.1 hP.2).symm (k ⟨mm_tmod_rng hs.2.1 hs.1 hP.1, hs.2.2⟩))
    · cases hp
  · have e1 := L1 (n := 1) hl
    subst e1
    split at hp
    · cases hp
      exact lv_ldiv hx hb hd hP (k ⟨trivial, hs.2.2⟩)
    · cases hp
  · have e1 := L1 (n := 1) hl
    subst e1
    split at hp
    · cases hp
      exact lv_lrem hx hb hd hP (k ⟨trivial, hs.2.2⟩)
    · cases hp
  · have e1 := L1 (n := 1) hl
    subst e1
    split at hp
    · cases hp
      exact lv_l2i hx hb hd (Int32.ofInt_int64ToInt _).symm (k ⟨hP, hs.2⟩)
    · cases hp
  · cases hp
end MS1
end
section
/-! the small machine's steps are the real one's: locals, branches, the heap -/
theorem mm_cok : ∀ (ci : Nat) (q : vw_C), vwCl[ci]? = some q → (∀ w ∈ u_ws q.1 q.2.1 q.2.2, w ∈ mm_gt) ∧ (∃ ty0 : Nat → FieldType, ∀ k, k < q.2.2 → parseFieldDescriptor (q.2.1 k).2.2.1 = some (ty0 k)) ∧ (∀ a, a < q.2.2 → ∀ b, b < q.2.2 → a ≠ b → (q.2.1 a).2.1 ≠ (q.2.1 b).2.1) := by
  intro ci q h
  match ci, h with
  | 0, h => cases h; exact ⟨clX0, ⟨tyX0, tyX0_ok⟩, nmX0⟩
  | 1, h => cases h; exact ⟨clX1, ⟨tyX1, tyX1_ok⟩, nmX1⟩
  | 2, h => cases h; exact ⟨clX2, ⟨tyX2, tyX2_ok⟩, nmX2⟩
  | 3, h => cases h; exact ⟨clX3, ⟨tyX3, tyX3_ok⟩, nmX3⟩
  | 4, h => cases h; exact ⟨clX4, ⟨tyX4, tyX4_ok⟩, nmX4⟩
  | 5, h => cases h; exact ⟨clX5, ⟨tyX5, tyX5_ok⟩, nmX5⟩
  | 6, h => cases h; exact ⟨clX6, ⟨tyX6, tyX6_ok⟩, nmX6⟩
  | 7, h => cases h; exact ⟨clX7, ⟨tyX7, tyX7_ok⟩, nmX7⟩
  | 8, h => cases h; exact ⟨clX8, ⟨tyX8, tyX8_ok⟩, nmX8⟩
  | 9, h => cases h; exact ⟨clX9, ⟨tyX9, tyX9_ok⟩, nmX9⟩
  | 10, h => cases h; exact ⟨clX10, ⟨tyX10, tyX10_ok⟩, nmX10⟩
  | k + 11, h => simp at h
def mm_tyk (t : Option FieldType) : Option Nat := match t with
  | some .int => some 0
  | some .boolean => some 1
  | some (.object _) => some 2
  | some (.array _) => some 2
  | _ => none
def mm_fkc : Bool := (List.range 11).all (fun ci => match mm_fks[ci]?, vwCl[ci]? with
  | some l, some q => decide (l.length = q.2.2) && (List.range l.length).all (fun k => match l[k]? with
    | some (kd, fin) => decide ((q.2.1 k).2.2.2 = fin) && decide (mm_tyk (parseFieldDescriptor (q.2.1 k).2.2.1) = some kd)
    | none => false)
  | _, _ => false)
theorem mm_fkc_t : mm_fkc = true := by decide +kernel
theorem mm_fkok {ci k kd : Nat} {fin : Bool} (h : mm_fk ci k = some (kd, fin)) : ∃ q : vw_C, vwCl[ci]? = some q ∧ k < q.2.2 ∧ (q.2.1 k).2.2.2 = fin ∧ mm_tyk (parseFieldDescriptor (q.2.1 k).2.2.1) = some kd := by
  unfold mm_fk at h
  split at h
  · rename_i l hl
    have hci : ci < 11 := (List.getElem?_eq_some_iff.mp hl).1
    have h1 := List.all_eq_true.mp mm_fkc_t ci (List.mem_range.mpr hci)
    rw [hl] at h1
    obtain ⟨q, hq⟩ : ∃ q, vwCl[ci]? = some q := ⟨vwCl[ci]'hci, List.getElem?_eq_getElem hci⟩
    rw [hq] at h1
    simp only [Bool.and_eq_true, decide_eq_true_eq] at h1
    have hk : k < l.length := (List.getElem?_eq_some_iff.mp h).1
    have h2 := List.all_eq_true.mp h1.2 k (List.mem_range.mpr hk)
    rw [h] at h2
    simp only [Bool.and_eq_true, decide_eq_true_eq] at h2
    exact ⟨q, hq, by omega, h2.1, h2.2⟩
  · cases h
theorem mm_tyk0 {t : Option FieldType} (h : mm_tyk t = some 0) : t = some .int := by
  unfold mm_tyk at h
  split at h <;> first | rfl | cases h
theorem mm_tyk1 {t : Option FieldType} (h : mm_tyk t = some 1) : t = some .boolean := by
  unfold mm_tyk at h
  split at h <;> first | rfl | cases h
theorem mm_tyk2 {t : Option FieldType} (h : mm_tyk t = some 2) : ∃ ty, t = some ty ∧ ∀ v : Value, (v = .null ∨ ∃ a, v = .ref a) → narrow ty v = v ∧ fits ty v = true := by
  unfold mm_tyk at h
  split at h
  · cases h
  · cases h
  · rename_i C
    refine ⟨_, rfl, ?_⟩
    rintro v (rfl | ⟨a, rfl⟩) <;> exact ⟨rfl, rfl⟩
  · rename_i C
    refine ⟨_, rfl, ?_⟩
    rintro v (rfl | ⟨a, rfl⟩) <;> exact ⟨rfl, rfl⟩
  · cases h
def mm_Fok (own : String) (ft : List (Nat × Nat × Nat)) : Prop := ∀ (i ci k : Nat), mm_look ft i = some (ci, k) → ∃ q : vw_C, vwCl[ci]? = some q ∧ k < q.2.2 ∧ Jvm.Cond.fieldLink own i (q.2.1 k).1 (q.2.1 k).2.1 (q.2.1 k).2.2.1 ∈ mm_gt
theorem mm_look_mem {α : Type} : ∀ (l : List (Nat × α)) (i : Nat) (v : α), mm_look l i = some v → (i, v) ∈ l
  | [], _, _, h => by cases h
  | (k, w) :: t, i, v, h => by
    unfold mm_look at h
    split at h
    · rename_i hk
      cases h
      rw [Nat.eq_of_beq_eq_true hk]
      exact List.mem_cons_self
    · exact List.mem_cons_of_mem _ (mm_look_mem t i v h)
theorem mm_Fok_of {own : String} {ft : List (Nat × Nat × Nat)} (h : ∀ q ∈ ft, ∃ r : vw_C, vwCl[q.2.1]? = some r ∧ q.2.2 < r.2.2 ∧ Jvm.Cond.fieldLink own q.1 (r.2.1 q.2.2).1 (r.2.1 q.2.2).2.1 (r.2.1 q.2.2).2.2.1 ∈ mm_gt) : mm_Fok own ft :=
  fun i ci k hk => h (i, ci, k) (mm_look_mem ft i (ci, k) hk)
section MS2
variable {p : Program} {l : Launch} {e : Env} {R : Room} {s : State} {m : MethodId} {args : Array Value} {below : List Frame} {meth : Method} {c : Code} {Q : State → Prop}
variable {cc : ByteArray} {own : String} {g : SG} {E : NE}
/-- from here the machine comes to Q, whatever the addresses are -/
def mm_K (p : Program) (l : Launch) (e : Env) (R : Room) (s : State) (m : MethodId) (args : Array Value) (below : List Frame) (meth : Method) (c : Code) (Q : State → Prop) (g : SG) (pc : Nat) (lv : LV) (st : List MV) (h : HP) (cn sn : Nat) : Prop :=
  ∀ (H : Heap) (locs : List Loc) (ls : Array Slot), mm_okH g h H → va_S (mm_A g) s.heap H locs → mm_okL g lv ls c.maxLocals → mm_okS st → W p l e R s m args below meth c H locs cn sn Q (F0 m pc ls (st.map (mm_cv g)))
/-- what stands fast in a method's run -/
def mm_Ctx (p : Program) (R : Room) (s : State) (m : MethodId) (args : Array Value) (meth : Method) (c : Code) (cc : ByteArray) (own : String) (g : SG) (E : NE) : Prop :=
  p.tables.exec = Jvm.exec ∧ c.code = cc ∧ s.vm.findClass own = some m.cls ∧ (∀ w ∈ mm_gt, w.before args s = true) ∧ va_K g.1 vwCl (mm_tys g) s ∧ g.2.2.1 ≤ s.heap.size ∧
  (ne_ini E = true → meth.name = "<init>" ∧ ∀ (i ci k : Nat) (q : vw_C), mm_look (ne_ft E) i = some (ci, k) → vwCl[ci]? = some q → (q.2.1 k).1 = own) ∧
  mm_Lok own (ne_lt E) args s ∧ mm_Fok own (ne_ft E) ∧
  (∀ (i n : Nat) (f : Int → Int), mm_look (ne_ro E) i = some (n, f) → 2000 ≤ i ∧ va_X (g.2.2.2 i) n (fun j => Int32.ofInt (f (j : Int))) s s.heap ∧ g.2.2.2 i < s.heap.size ∧ ¬ mm_A g (g.2.2.2 i) ∧ n < 2147483648 ∧ ∀ j : Nat, j < n → mm_rng (f j)) ∧
  (∀ i a : Nat, mm_look (ne_gs E) i = some a → 2000 ≤ a ∧ ∃ (C n d : String), va_Z C n d (.ref (g.2.2.2 a)) (mm_A g) s s.heap ∧ (Jvm.Cond.fieldLink own i C n d).before args s = true) ∧
  (ne_oi E = [] ∨ (1 ≤ R.frames ∧ 20 ≤ R.locals)) ∧ (∀ i ∈ ne_oi E, (Jvm.Cond.methodLink own i objectInit).before args s = true ∧ (Jvm.Cond.instanceMethod objectInit).before args s = true ∧ (Jvm.Cond.code objectInit ⟨#[0xb1]⟩ 1 none).before args s = true)
theorem mm_okH_put {h : HP} {H1 : Heap} {i : Nat} {e0 e1 : ME} {H : Heap} (hH : mm_okH g h H) (hg : mm_get h i = some e0) (he : mm_okE e1) (hP : va_P g.1 vwCl ((mm_wl g h).set (mm_pos h i) (mm_ad g i, mm_conc g e1)) H1) (hD : va_D (mm_A g) ((mm_wl g h).set (mm_pos h i) (mm_ad g i, mm_conc g e1))) (hz : H1.size = H.size) : mm_okH g (mm_set h i e1) H1 := by
  rw [mm_wl_set g hg] at hP hD
  obtain ⟨-, -, h1, h2, h3, h4, h5⟩ := hH
  refine ⟨hP, hD, ?_, ?_, ?_, by rw [hz]; exact h4, ?_⟩
  · unfold mm_set; split
    · exact mm_okES_set _ _ _ h1 he
    · exact h1
  · unfold mm_set; split
    · exact h2
    · exact mm_okES_set _ _ _ h2 he
  · unfold mm_set; split <;> exact h3
  · intro t ht
    rw [hz]
    apply h5
    unfold mm_set at ht
    split at ht <;> exact ht
theorem mm_wdle : ∀ (rest : List MV), ((rest.map (mm_cv g)).map fun v => v.category).sum = mm_wd rest
  | [] => rfl
  | v :: t => by
    simp only [List.map_cons, List.sum_cons, mm_wd]
    rw [mm_wdle t]
    cases hv : mm_c1 v with
    | true => rw [mm_cat1 hv]
    | false => rw [mm_cat2 hv]
/-- nothing was added where the sizes are known -/
theorem mm_get_ok {h : HP} {H : Heap} (hH : mm_okH g h H) {i : Nat} {e0 : ME} (hg : mm_get h i = some e0) : mm_okE e0 := by
  unfold mm_get at hg
  split at hg
  · exact mm_okES_get _ _ _ hH.2.2.1 hg
  · exact mm_okES_get _ _ _ hH.2.2.2.1 hg
end MS2
end
section
/-! stores into the places of a world which also say that the heap is as long as before -/
section MS3
variable {p : Program} {l : Launch} {e : Env} {R : Room} {s : State} {m : MethodId} {args : Array Value} {below : List Frame} {meth : Method} {c : Code} {H : Heap} {locs : List Loc} {cells slots : Nat} {Q : State → Prop}
variable {cc : ByteArray} {pc : Nat} {ls : Array Slot} {rest : List Value} {D : va_G} {cl : List vw_C} {A : Nat → Prop} {a : Nat} {tys : List (ClassId × FieldType)} {ws : va_W} {H0 : Heap}
/-- a place got a new entry, the rest of the heap is as it was: the world after it -/
theorem mm_anew {H1 : Heap} {q0 k : Nat} {x x1 : va_E} {f : JFrame} (hP : va_P D cl ws H) (hD : va_D A ws) (hS : va_S A H0 H locs) (hx : ws[q0]? = some (a, x)) (h1 : va_at D cl (a, x1) H1) (hz : H1.size = H.size) (ho : ∀ q : Nat, q ≠ a → H1[q]? = H[q]?)
    (kk : ∀ (H1 : Heap) (locs1 : List Loc), va_P D cl (ws.set q0 (a, x1)) H1 → va_D A (ws.set q0 (a, x1)) → va_S A H0 H1 locs1 → H1.size = H.size → W p l e R s m args below meth c H1 locs1 cells slots Q f) : W p l e R s m args below meth c H1 (locs ++ [⟨a, k⟩]) cells slots Q f :=
  kk H1 _ (va_P.set hP hD hx h1 ho) (va_D.set hD hx) (va_S.put hS hz ho (hD.2 _ _ hx)) hz
/-- an array's cell: its kind of data, its length -/
theorem mm_row_vm (cA : ClassId) : ∀ z : vp_A, (vp_cell cA z).vm ≠ .unknown
  | (_, .inl _) => nofun
  | (_, .inr (.inl _)) => nofun
  | (_, .inr (.inr (.inl _))) => nofun
  | (_, .inr (.inr (.inr (.inl _)))) => nofun
  | (_, .inr (.inr (.inr (.inr _)))) => nofun
theorem mm_row_len (cA : ClassId) : ∀ z : vp_A, (vp_cell cA z).slots.size = z.1
  | (_, .inl _) => arrV_size ..
  | (_, .inr (.inl _)) => arrV_size ..
  | (_, .inr (.inr (.inl _))) => arrV_size ..
  | (_, .inr (.inr (.inr (.inl _)))) => arrV_size ..
  | (_, .inr (.inr (.inr (.inr _)))) => arrV_size ..
theorem mm_row_in {cA : ClassId} {z : vp_A} {i : Int32} (h : vp_in i z.1) : ¬ (i < 0 ∨ (vp_cell cA z).slots.size ≤ i.toNatClampNeg) := by
  rw [mm_row_len]
  exact h
theorem mm_row_of {cA : ClassId} {ty : FieldType} (h : ArrOfT s cA ty) : ∀ z : vp_A, s.isArrayOf (vp_cell cA z) ty
  | (_, .inl _) => h _ _
  | (_, .inr (.inl _)) => h _ _
  | (_, .inr (.inr (.inl _))) => h _ _
  | (_, .inr (.inr (.inr (.inl _)))) => h _ _
  | (_, .inr (.inr (.inr (.inr _)))) => h _ _
/-- an element of it stored -/
theorem mm_row_i (cA : ClassId) (n j : Nat) (f : Nat → Int32) (y : Int32) : (vp_cell cA (n, .inl f)).setSlot j (.int y) = vp_cell cA (n, .inl (upd f j y)) :=
  (arrV_store cA n j _ _).trans (congrArg (arrV cA n) (funext fun q => (apply_ite Value.int (q = j) y (f q)).symm))
theorem mm_row_l (cA : ClassId) (n j : Nat) (f : Nat → Int64) (y : Int64) : (vp_cell cA (n, .inr (.inl f))).setSlot j (.long y) = vp_cell cA (n, .inr (.inl (vp_updL f j y))) :=
  (arrV_store cA n j _ _).trans (congrArg (arrV cA n) (funext fun q => (apply_ite Value.long (q = j) y (f q)).symm))
theorem mm_vput (hexec : p.tables.exec = Jvm.exec) (hb : c.code = cc) {own C : String} {T : u_T} {N ci index : Nat} {Ts : List Cond} (hts : ∀ w ∈ Ts, w.before args s = true) (hin : ∀ w ∈ u_ws C T N, w ∈ Ts) (ty0 : Nat → FieldType) (hty : ∀ k, k < N → parseFieldDescriptor (T k).2.2.1 = some (ty0 k)) (hnm : ∀ a, a < N → ∀ b, b < N → a ≠ b → (T a).2.1 ≠ (T b).2.1) (hown : s.vm.findClass own = some m.cls) (hK : va_K D cl tys s) (hP : va_P D cl ws H) (hD : va_D A ws) (hS0 : va_S A H0 H locs) (q0 : Nat) {fs : List Value} (he : ws[q0]? = some (a, .inr (ci, fs))) (hc : cl[ci]? = some (C, T, N)) (k : Nat) (hk : k < N) (hlink : (Cond.fieldLink own index (T k).1 (T k).2.1 (T k).2.2.1).before args s = true) (hfin : (T k).2.2.2 = false ∨ ((T k).2.2.2 = true ∧ meth.name = "<init>" ∧ (T k).1 = own)) {ty : FieldType} {v : Value} (hd : parseFieldDescriptor (T k).2.2.1 = some ty) (hn : narrow ty v = v) (hfit : fits ty v = true) (hl : k < fs.length)
    (hdg : decode cc pc = .ok (.putfield index, 3)) (kk : ∀ (H1 : Heap) (locs1 : List Loc), va_P D cl (ws.set q0 (a, .inr (ci, fs.set k v))) H1 → va_D A (ws.set q0 (a, .inr (ci, fs.set k v))) → va_S A H0 H1 locs1 → H1.size = H.size → W p l e R s m args below meth c H1 locs1 cells slots Q (F0 m (pc + 3) ls rest)) : W p l e R s m args below meth c H locs cells slots Q (F0 m pc ls (v :: .ref a :: rest)) := by
  obtain ⟨r, hr, cell, e1, e2, e3, e4⟩ := hP q0 _ he
  cases hc.symm.trans hr
  obtain ⟨hSl, hAt, kC, hkC, hord⟩ := hK.1 ci _ hc
  obtain ⟨cf, kf, fi, f, hfound, hslot⟩ := hSl k hk
  have hw := u_lays hts hin hk
  have hval := u_fits hAt hkC hord hw hfound hd hn hfit
  have hplace : hasFlag f.accessFlags Acc.final = false ∨ (m.cls = cf ∧ meth.name = "<init>") := by
    have hl := hts _ (hin _ (u_in_lay hk))
    rcases hfin with h0 | ⟨h0, hini, hdecl⟩
    · rw [u_lay, h0, if_neg Bool.false_ne_true] at hl
      exact Or.inl (u_store hAt hkC hord hl hfound hd hn hfit).1
    · rw [u_lay, if_pos h0] at hl
      obtain ⟨_, _, c2, _, _, _, _, _, hf2, _, _, _, ho2, _⟩ := Cond.laysFinal_spec hl
      rw [hfound] at hf2
      cases hf2
      rw [hdecl, hown] at ho2
      exact Or.inr ⟨Option.some.inj ho2, hini⟩
  have hroom : f.slot < cell.slots.size := k2_hasslot (hslot ▸ e4 k hk)
  have hlen : a < H.size := (Array.getElem?_eq_some_iff.mp e1).1
  refine W.putf hexec hb hown hlink hfound (u_facts hAt hkC hw hfound).1 hplace e1 (by rw [e3]; nofun) hroom hval.1 (by rw [e2, e3]; exact hval.2) rfl rfl hdg (mm_anew (x1 := .inr (ci, fs.set k v)) hP hD hS0 he ⟨_, hc, ?_⟩ Array.size_setIfInBounds (fun q hq => ?_) kk)
  · refine ⟨cell.setSlot f.slot v, ?_, e2, e3, fun j hj => ?_⟩
    · rw [Array.getElem?_setIfInBounds_self_of_lt hlen]
    · rw [hslot, t_set e4 (va_apart (own := own) hts hin ty0 hty hnm hK hc) hk v j hj, vp_updV_set hl]
  · rw [Array.getElem?_setIfInBounds_ne (Ne.symm hq)]
theorem mm_viast (hexec : p.tables.exec = Jvm.exec) (hb : c.code = cc) (hK : va_K D cl tys s) (hP : va_P D cl ws H) (hD : va_D A ws) (hS : va_S A H0 H locs) (q0 t0 : Nat) {cA : ClassId} {n : Nat} {f : Nat → Int32} (ha : ws[q0]? = some (a, .inl (cA, n, .inl f))) (ht : tys[t0]? = some (cA, .int)) {i : Int32} {x : Int32} (hin : vp_in i n) (hdg : decode cc pc = .ok (.iastore, 1))
    (kk : ∀ (H1 : Heap) (locs1 : List Loc), va_P D cl (ws.set q0 (a, .inl (cA, n, .inl (upd f i.toNatClampNeg x)))) H1 → va_D A (ws.set q0 (a, .inl (cA, n, .inl (upd f i.toNatClampNeg x)))) → va_S A H0 H1 locs1 → H1.size = H.size → W p l e R s m args below meth c H1 locs1 cells slots Q (F0 m (pc + 1) ls rest)) : W p l e R s m args below meth c H locs cells slots Q (F0 m pc ls (.int x :: .int i :: .ref a :: rest)) := by
  refine W.iast hexec hb (hP _ _ ha) (mm_row_of (hK.2 _ _ ht).1 _) (mm_row_vm _ _) (mm_row_in hin) rfl rfl hdg fun H1 e1 hz ho => mm_anew hP hD hS ha ?_ hz ho kk
  exact e1.trans (congrArg some (mm_row_i ..))
theorem mm_vbast (hexec : p.tables.exec = Jvm.exec) (hb : c.code = cc) (hK : va_K D cl tys s) (hP : va_P D cl ws H) (hD : va_D A ws) (hS : va_S A H0 H locs) (q0 t0 : Nat) {cA : ClassId} {n : Nat} {f : Nat → Int32} (ha : ws[q0]? = some (a, .inl (cA, n, .inl f))) (ht : tys[t0]? = some (cA, .byte)) {i : Int32} {x : Int32} (hin : vp_in i n) (hdg : decode cc pc = .ok (.bastore, 1))
    (kk : ∀ (H1 : Heap) (locs1 : List Loc), va_P D cl (ws.set q0 (a, .inl (cA, n, .inl (upd f i.toNatClampNeg (vp_nar .byte x))))) H1 → va_D A (ws.set q0 (a, .inl (cA, n, .inl (upd f i.toNatClampNeg (vp_nar .byte x))))) → va_S A H0 H1 locs1 → H1.size = H.size → W p l e R s m args below meth c H1 locs1 cells slots Q (F0 m (pc + 1) ls rest)) : W p l e R s m args below meth c H locs cells slots Q (F0 m pc ls (.int x :: .int i :: .ref a :: rest)) := by
  refine W.bast hexec hb (hP _ _ ha) (mm_row_of (hK.2 _ _ ht).1 _) (mm_row_vm _ _) (mm_row_in hin) rfl rfl hdg fun H1 e1 hz ho => mm_anew hP hD hS ha ?_ hz ho kk
  exact e1.trans (congrArg some (mm_row_i ..))
theorem mm_vzast (hexec : p.tables.exec = Jvm.exec) (hb : c.code = cc) (hK : va_K D cl tys s) (hP : va_P D cl ws H) (hD : va_D A ws) (hS : va_S A H0 H locs) (q0 t0 : Nat) {cA : ClassId} {n : Nat} {f : Nat → Int32} (ha : ws[q0]? = some (a, .inl (cA, n, .inl f))) (ht : tys[t0]? = some (cA, .boolean)) {i : Int32} {x : Int32} (hin : vp_in i n) (hdg : decode cc pc = .ok (.bastore, 1))
    (kk : ∀ (H1 : Heap) (locs1 : List Loc), va_P D cl (ws.set q0 (a, .inl (cA, n, .inl (upd f i.toNatClampNeg (vp_nar .boolean x))))) H1 → va_D A (ws.set q0 (a, .inl (cA, n, .inl (upd f i.toNatClampNeg (vp_nar .boolean x))))) → va_S A H0 H1 locs1 → H1.size = H.size → W p l e R s m args below meth c H1 locs1 cells slots Q (F0 m (pc + 1) ls rest)) : W p l e R s m args below meth c H locs cells slots Q (F0 m pc ls (.int x :: .int i :: .ref a :: rest)) := by
  refine W.zast hexec hb (hP _ _ ha) (mm_row_of (hK.2 _ _ ht).1 _) (mm_row_vm _ _) (mm_row_in hin) rfl rfl hdg fun H1 e1 hz ho => mm_anew hP hD hS ha ?_ hz ho kk
  exact e1.trans (congrArg some (mm_row_i ..))
theorem mm_vlast (hexec : p.tables.exec = Jvm.exec) (hb : c.code = cc) (hK : va_K D cl tys s) (hP : va_P D cl ws H) (hD : va_D A ws) (hS : va_S A H0 H locs) (q0 t0 : Nat) {cA : ClassId} {n : Nat} {f : Nat → Int64} (ha : ws[q0]? = some (a, .inl (cA, n, .inr (.inl f)))) (ht : tys[t0]? = some (cA, .long)) {i : Int32} {x : Int64} (hin : vp_in i n) (hdg : decode cc pc = .ok (.lastore, 1))
    (kk : ∀ (H1 : Heap) (locs1 : List Loc), va_P D cl (ws.set q0 (a, .inl (cA, n, .inr (.inl (vp_updL f i.toNatClampNeg x))))) H1 → va_D A (ws.set q0 (a, .inl (cA, n, .inr (.inl (vp_updL f i.toNatClampNeg x))))) → va_S A H0 H1 locs1 → H1.size = H.size → W p l e R s m args below meth c H1 locs1 cells slots Q (F0 m (pc + 1) ls rest)) : W p l e R s m args below meth c H locs cells slots Q (F0 m pc ls (.long x :: .int i :: .ref a :: rest)) := by
  refine W.last hexec hb (hP _ _ ha) (mm_row_of (hK.2 _ _ ht).1 _) (mm_row_vm _ _) (mm_row_in hin) rfl rfl hdg fun H1 e1 hz ho => mm_anew hP hD hS ha ?_ hz ho kk
  exact e1.trans (congrArg some (mm_row_l ..))
theorem mm_vaald (hexec : p.tables.exec = Jvm.exec) (hb : c.code = cc) (hK : va_K D cl tys s) (hP : va_P D cl ws H) (q0 t0 : Nat) {cA : ClassId} {t : FieldType} {n : Nat} {f : Nat → Option Nat} (ha : ws[q0]? = some (a, .inl (cA, n, .inr (.inr (.inr (.inr f)))))) (ht : tys[t0]? = some (cA, .array t)) {i : Int32} (hin : vp_in i n) (hdg : decode cc pc = .ok (.aaload, 1))
    (kk : W p l e R s m args below meth c H locs cells slots Q (F0 m (pc + 1) ls (va_rf (f i.toNatClampNeg) :: rest))) : W p l e R s m args below meth c H locs cells slots Q (F0 m pc ls (.int i :: .ref a :: rest)) := by
  refine W.aald (v := va_rf (f i.toNatClampNeg)) hexec hb (hP _ _ ha) (mm_row_of (hK.2 _ _ ht).1 _) rfl (mm_row_vm _ _) (mm_row_in hin) ?_ rfl rfl hdg kk
  exact arrV_read cA (fun j => va_rf (f j)) (Nat.lt_of_not_le fun q => hin (Or.inr q))
end MS3
end
section
/-! rows of our own in place of library rows beyond PAGE.txt's seven: the class of an array over arrays; a chain of constructors whose first link bears another index; new int[n][k] -/
section OW
/-- what 'arrayOver' of an array type says -/
theorem ow_over {args : Array Value} {s : State} {t : FieldType} (h : (Jvm.Cond.arrayOver (.array t)).before args s = true) : ∃ (co cA : ClassId) (kA : Class), s.vm.findClass (FieldType.array t).toString = some co ∧ s.vm.classes[cA]? = some kA ∧ kA.kind = .array co (.array t) ∧ s.vm.findClass ("[" ++ (FieldType.array t).toString) = some cA := by
  have h1 : (Jvm.Cond.arrayOver (.array t)).holds args s none s [] = true := h
  simp only [Jvm.Cond.holds, Jvm.Cond.value, beq_iff_eq] at h1
  obtain ⟨co, hco, h2⟩ := Option.bind_eq_some_iff.mp h1
  obtain ⟨cA, hix, h3⟩ := Option.bind_eq_some_iff.mp h2
  obtain ⟨kA, hkA, h4⟩ := Option.map_eq_some_iff.mp h3
  obtain ⟨hlt, hp, -⟩ := Array.findIdx?_eq_some_iff_getElem.mp hix
  have e1 : s.vm.classes[cA] = kA := by
    rw [Array.getElem?_eq_getElem hlt] at hkA
    exact Option.some.inj hkA
  rw [e1] at hp
  cases hk : kA.kind with
  | array c2 ty =>
    rw [hk] at h4 hp
    have h5 := Bool.and_eq_true_iff.mp h4
    have e2 : c2 = co := by simpa using hp
    have e3 : ty = .array t := of_decide_eq_true h5.1
    subst e2 e3
    exact ⟨_, cA, kA, hco, hkA, hk, of_decide_eq_true h5.2⟩
  | _ =>
    rw [hk] at hp
    cases hp
/-- the words of a chain of constructors that pass a text on: the first by any index, the others as the library's chain has them -/
def ow_chat (X : String) (ix : Nat) (rx : ByteArray) (names : List String) : List Jvm.Cond :=
  match names with
  | [] => Bundle.passSAtoms X Bundle.tN ix rx
  | Y :: r => Bundle.passSAtoms X Y ix rx ++ Bundle.chainSAtoms Y r
theorem ow_chain {args : Array Value} {s : State} {pl : Platform} (hpl : pl.magicAccessors = ({} : Platform).magicAccessors) {top : MethodId} (htop : s.methodNamed? (Bundle.initS Bundle.tN) = some top) {ix : Nat} {rx : ByteArray}
    (x0 : decode rx 0 = .ok (.aload_n 0, 1)) (x1 : decode rx 1 = .ok (.aload_n 1, 1)) (x2 : decode rx 2 = .ok (.invokespecial ix, 3)) (x5 : decode rx 5 = .ok (.return_, 1))
    {names : List String} {X : String} (hX : Bundle.fit X = true) (hn : ∀ n ∈ names, Bundle.fit n = true) (h : ∀ w ∈ ow_chat X ix rx names, w.before args s = true) :
    ∃ (P : PassC) (Ps : List PassC), Ps.length = names.length ∧ (∀ q ∈ P :: Ps, q.LinksS pl s) ∧ s.methodNamed? (Bundle.initS X) = some P.m ∧ PassesOn top ((P :: Ps).map (·.toPassT)) := by
  cases names with
  | nil =>
    obtain ⟨P, hL, hm, hs⟩ := PassC.ofS_atoms (args := args) hpl (Bundle.fit_spec hX).1 (by decide) x0 x1 x2 x5 h
    rw [htop] at hs
    refine ⟨P, [], rfl, fun q hq => ?_, hm, (Option.some.inj hs).symm, trivial⟩
    cases List.mem_singleton.mp hq
    exact hL
  | cons Y r =>
    have hY := hn Y (List.mem_cons_self ..)
    obtain ⟨P, hL, hm, hs⟩ := PassC.ofS_atoms (args := args) hpl (Bundle.fit_spec hX).1 (Bundle.fit_spec hY).2 x0 x1 x2 x5 (fun w hw => h w (List.mem_append_left _ hw))
    obtain ⟨P2, Ps, hlen, hL2, hLs, hm2, hup, hon⟩ := Bundle.chainS (args := args) hpl htop r Y hY (fun n hr => hn n (List.mem_cons_of_mem _ hr)) (fun w hw => h w (List.mem_append_right _ hw))
    rw [hm2] at hs
    refine ⟨P, P2 :: Ps, congrArg (· + 1) hlen, fun q hq => ?_, hm, (Option.some.inj hs).symm, hup, hon⟩
    rcases List.mem_cons.mp hq with e | hq
    · rw [e]; exact hL
    · rcases List.mem_cons.mp hq with e | hq
      · rw [e]; exact hL2
      · exact hLs q hq
/-- an array made in any state -/
theorem ow_new {e : Env} {S : State} {cX co : ClassId} {kX : Class} {ty : FieldType} {len : Nat} {v : Value} (hk : S.vm.classes[cX]? = some kX) (hkd : kX.kind = .array co ty) (hf : fits ty v = true) (hv : v.isDefault = true) (h1 : len ≤ e.platform.arrayLengthLimit) (h2 : len * componentBytes ty ≤ e.platform.maxHeapBytes) (h3 : S.heap.size < e.platform.maxCells) (h4 : S.slotsUsed + len ≤ e.platform.maxSlots) {Q : Addr → Pre} {E : CtlPost} {d : Bool} {acts : List Action} (hq : Q S.heap.size d acts (S.pushCell { cls := cX, slots := Array.replicate len v, vm := .none })) : wp (Jvm.newArray cX len v) Q E e d acts S := by
  have ha : allocActs (Array.replicate len v) S.heap.size acts = acts := by
    unfold allocActs
    rw [if_pos]
    rw [Array.all_replicate]
    split
    · rfl
    · exact hv
  have n1 : ¬ len > e.platform.arrayLengthLimit := by omega
  have n2 : ¬ len * componentBytes ty > e.platform.maxHeapBytes := by omega
  have n3 : ¬ len > e.platform.maxSlots := by omega
  simp only [Jvm.newArray, Jvm.arrayFits, wp_bind', W.ask, W.ite, n1, n2, n3, if_false, wp_pure', W.theClass, hk, hkd, Option.some.injEq, exists_eq_left', W.alloc, Array.size_replicate, ha]
  refine ⟨h3, h4, fun i x hx => ?_, hq⟩
  rw [Array.getElem?_replicate] at hx
  split at hx
  · cases hx
    unfold State.fitsSlot State.slotType?
    simp only [hk, hkd, Option.bind_eq_bind, Option.bind_some]
    exact hf
  · cases hx
end OW
section OM
/-- how far it is: of N rows of K ints i are made, from the heap's old end on; the row of rows names them -/
def ow_at (p : Program) (l : Launch) (e : Env) (R : Room) (s : State) (m : MethodId) (args : Array Value) (below : List Frame) (meth : Method) (c : Code) (T : State) (locs : List Loc) (cells slots : Nat) (vm1 : Vm) (cA cy : ClassId) (N K i : Nat) (U : State) : Prop :=
  (∃ L : List Loc, (∀ z ∈ L, z.base = T.heap.size) ∧ Stand p l e R s m args below meth c U (locs ++ L) (cells + 1 + i) (slots + N + i * K)) ∧ U.vm = vm1 ∧ U.heap.size = T.heap.size + 1 + i ∧ U.heap[T.heap.size]? = some (arrV cA N (fun j => if j < i then .ref (T.heap.size + 1 + j) else .null)) ∧ (∀ a, a < T.heap.size → U.heap[a]? = T.heap[a]?) ∧ ∀ j, j < i → U.heap[T.heap.size + 1 + j]? = some (arrV cy K (fun _ => .int 0))
variable {p : Program} {l : Launch} {e : Env} {R : Room} {s : State} {m : MethodId} {args : Array Value} {below : List Frame} {meth : Method} {c : Code} {T : State} {locs : List Loc} {cells slots : Nat}
/-- one row more -/
theorem ow_more {vm1 : Vm} {cA cy : ClassId} {N K i : Nat} {U : State} (hi : i < N) (h : ow_at p l e R s m args below meth c T locs cells slots vm1 cA cy N K i U) :
    ow_at p l e R s m args below meth c T locs cells slots vm1 cA cy N K (i + 1) ((U.pushCell (arrV cy K (fun _ => .int 0))).setCell T.heap.size ((arrV cA N (fun j => if j < i then .ref (T.heap.size + 1 + j) else .null)).setSlot i (.ref (T.heap.size + 1 + i)))) := by
  obtain ⟨⟨L, hL, X⟩, hv, hz, ho, hold, hrow⟩ := h
  have ho1 : (U.pushCell (arrV cy K (fun _ => .int 0))).heap[T.heap.size]? = some (arrV cA N (fun j => if j < i then .ref (T.heap.size + 1 + j) else .null)) := by
    exact (State.heap_pushCell_of_lt U _ (show T.heap.size < U.heap.size by omega)).trans ho
  have X1 := X.pushed (arrV cy K (fun _ => .int 0))
  have X2 := X1.stored ho1 i (.ref (T.heap.size + 1 + i))
  rw [arrV_size, List.append_assoc] at X2
  have sz : (U.pushCell (arrV cy K (fun _ => .int 0))).heap.size = U.heap.size + 1 := by simp
  refine ⟨⟨L ++ [⟨T.heap.size, i⟩], fun z hzz => ?_, ?_⟩, hv, ?_, ?_, fun a ha => ?_, fun j hj => ?_⟩
  · rcases List.mem_append.mp hzz with q | q
    · exact hL z q
    · rw [List.mem_singleton.mp q]
  · have e1 : slots + N + (i + 1) * K = slots + N + i * K + K := by rw [Nat.add_mul, Nat.one_mul]; omega
    rw [e1]
    exact X2
  · show ((U.heap.push _).setIfInBounds _ _).size = _
    rw [Array.size_setIfInBounds, Array.size_push]
    omega
  · rw [heapAt_setCell_self _ (show T.heap.size < (U.pushCell (arrV cy K (fun _ => .int 0))).heap.size by rw [sz]; omega), arrV_store]
    refine congrArg (fun f => some (arrV cA N f)) (funext fun j => ?_)
    unfold updV
    by_cases q : j = i
    · rw [if_pos q, if_pos (by omega), q]
    · rw [if_neg q]
      show (if j < i then Value.ref (T.heap.size + 1 + j) else Value.null) = _
      by_cases q2 : j < i
      · rw [if_pos q2, if_pos (by omega)]
      · rw [if_neg q2, if_neg (by omega)]
  · rw [heapAt_setCell_ne _ (show T.heap.size ≠ a by omega)]
    exact (State.heap_pushCell_of_lt U _ (show a < U.heap.size by omega)).trans (hold a ha)
  · rw [heapAt_setCell_ne _ (show T.heap.size ≠ T.heap.size + 1 + j by omega)]
    by_cases q : j < i
    · exact (State.heap_pushCell_of_lt U _ (show T.heap.size + 1 + j < U.heap.size by omega)).trans (hrow j q)
    · rw [show T.heap.size + 1 + j = U.heap.size by omega]
      exact State.heap_pushCell_size _ _
/-- the rest of the rows -/
theorem ow_loop {vm1 : Vm} {cA cy co : ClassId} {kA kY : Class} {N : Nat} {k : Int32} (hkA : vm1.classes[cA]? = some kA) (hA : kA.kind = .array cy (.array .int)) (hkY : vm1.classes[cy]? = some kY) (hY : kY.kind = .array co .int) (hk : ¬ k < 0) (h1 : k.toNatClampNeg ≤ e.platform.arrayLengthLimit) (h2 : k.toNatClampNeg * 4 ≤ e.platform.maxHeapBytes) (hc : cells + 1 + N ≤ R.cells) (hs : slots + N + N * k.toNatClampNeg ≤ R.slots)
    {f : Nat → PUnit → Sem (ForInStep PUnit)} (hf : ∀ j u, f j u = multianewarray.make cy [k] >>= fun a => writeLoc T.heap.size j (.ref a) >>= fun _ => Pure.pure (ForInStep.yield PUnit.unit)) :
    ∀ (r i : Nat) (U : State), i + r = N → ow_at p l e R s m args below meth c T locs cells slots vm1 cA cy N k.toNatClampNeg i U → ∃ V, ow_at p l e R s m args below meth c T locs cells slots vm1 cA cy N k.toNatClampNeg N V ∧ ∀ (t : JFrame) (Q : PUnit → Pre) (E : CtlPost) (d : Bool) (acts : List Action), (∀ d' acts', Q PUnit.unit d' acts' (V.setTop t)) → wp (forIn (List.range' i r) PUnit.unit f) Q E e d acts (U.setTop t) := by
  intro r
  induction r with
  | zero =>
    intro i U hi h
    rw [Nat.add_zero] at hi
    subst hi
    refine ⟨U, h, fun t Q E d acts hq => ?_⟩
    rw [List.range'_zero, List.forIn_nil, wp_pure']
    exact hq _ _
  | succ r ih =>
    intro i U hi h
    obtain ⟨V, hV, run⟩ := ih (i + 1) _ (by omega) (ow_more (by omega) h)
    refine ⟨V, hV, fun t Q E d acts hq => ?_⟩
    obtain ⟨⟨L, hL, X⟩, hv, hz, ho, hold, hrow⟩ := h
    have hm : i * k.toNatClampNeg + k.toNatClampNeg ≤ N * k.toNatClampNeg := by
      have := Nat.mul_le_mul_right k.toNatClampNeg (show i + 1 ≤ N by omega)
      rw [Nat.add_mul, Nat.one_mul] at this
      exact this
    obtain ⟨r1, r2⟩ := X.roomAbove (a := 1) (b := k.toNatClampNeg) (by omega) (by omega)
    rw [List.range'_succ, List.forIn_cons, hf]
    simp only [wp_bind', multianewarray.make, W.ite, hk, if_false, wp_pure', W.theClass, State.vm_setTop, hv, hkY, Option.some.injEq, exists_eq_left', hY]
    refine ow_new (S := U.setTop t) (kX := kY) (co := co) (ty := .int) (by rw [State.vm_setTop, hv]; exact hkY) hY rfl rfl h1 h2 (by show U.heap.size < _; omega) r2 ?_
    rw [wp_bind', W.writeLoc]
    refine ⟨arrV cA N (fun j => if j < i then .ref (T.heap.size + 1 + j) else .null), ?_, (by intro q; cases q), (by rw [arrV_size]; omega), ?_, ?_⟩
    · show (U.heap.push _)[_]? = _
      rw [Array.getElem?_push_lt (by omega), ← Array.getElem?_eq_getElem]
      exact ho
    · show ((U.setTop t).pushCell _).fitsSlot cA .none i _ = true
      unfold State.fitsSlot State.slotType?
      rw [show ((U.setTop t).pushCell _).vm = vm1 from hv, hkA]
      simp only [hA, Option.bind_eq_bind, Option.bind_some]
      rfl
    · have e0 : defaultValue .int = Value.int 0 := rfl
      rw [wp_pure', e0, arrV_new, State.heap_setTop, hz]
      exact run t Q E _ _ hq
end OM
section OR
variable {p : Program} {l : Launch} {e : Env} {R : Room} {s : State} {m : MethodId} {args : Array Value} {below : List Frame} {meth : Method} {c : Code} {T : State} {locs : List Loc} {cells slots : Nat}
theorem ow_cold {Q : Unit → Pre} {E : CtlPost} {d : Bool} {acts : List Action} {U : State} {f : JFrame} {index dims cX : Nat} {vm1 : Vm} (ht : U.topJava?.isSome) (hg : (Jvm.resolveClass f.method.cls index).Gives e.toSetting U.vm (.ok cX) vm1) (hr : vm1.classReady f.method.cls index cX) (hz : vm1.classes.size ≤ U.vm.classes.size) :
    wp (multianewarray.sem index dims) Q E e d acts (U.setTop f) ↔ wp (multianewarray.sem index dims) Q E e d acts ((U.setVm vm1).setTop f) := by
  unfold multianewarray.sem
  rw [wp_bind', wp_bind']
  exact W.resolveClassAt_transfer (s := U.setTop f) (State.method?_setTop f ht) hg hr hz
/-- new int[n][k]: where it leads to -/
theorem ow_rows (X : Stand p l e R s m args below meth c T locs cells slots) (hexec : p.tables.exec = Jvm.exec) {own : String} {index : Nat} (hown : s.vm.findClass own = some m.cls) (hcl : (Jvm.Cond.classLink own index "[[I").before args s = true) (hov : (Jvm.Cond.arrayOver (.array .int)).before args s = true) (har : (Jvm.Cond.arrayClass .int).before args s = true)
    {g : JFrame} (hg : g.method = m) (hd : decode c.code g.pc = .ok (.multianewarray index 2, 4)) {n k : Int32} {rest : List Value} (hst : g.stack = .int k :: .int n :: rest) (hn : ¬ n < 0) (hk : ¬ k < 0) (b1 : n.toNatClampNeg * 4 ≤ 536870912) (b2 : k.toNatClampNeg * 4 ≤ 536870912) (hc : cells + 1 + n.toNatClampNeg ≤ R.cells) (hs : slots + n.toNatClampNeg + n.toNatClampNeg * k.toNatClampNeg ≤ R.slots) :
    ∃ (V : State) (vm1 : Vm) (cA cy : ClassId), s.vm.findClass "[[I" = some cA ∧ s.vm.findClass "[I" = some cy ∧ ow_at p l e R s m args below meth c T locs cells slots vm1 cA cy n.toNatClampNeg k.toNatClampNeg n.toNatClampNeg V ∧
      ∀ target, Steps p.tables e below (V.setTop { g with pc := g.pc + 4, stack := .ref T.heap.size :: rest }) target → Steps p.tables e below (T.setTop g) target := by
  subst hg
  have hpl : e.platform.magicAccessors = ({} : Platform).magicAccessors := by rw [X.admits.platform]
  obtain ⟨cy, cA, kA, hcy, hkA, hA, hnA⟩ := ow_over hov
  obtain ⟨cy2, kY, co, hcy2, hkY, hY⟩ := Jvm.Cond.arrayClass_spec har
  obtain ⟨cA2, hnA2, hlk⟩ := Jvm.Cond.classLink_spec hown hcl e.platform hpl
  cases Option.some.inj ((show s.vm.findClass "[I" = some cy from hcy).symm.trans (show s.vm.findClass "[I" = some cy2 from hcy2))
  cases Option.some.inj ((show s.vm.findClass "[[I" = some cA from hnA).symm.trans hnA2)
  obtain ⟨hg1, hw1, hr1⟩ := State.classEntry (e := e) X.warmed hlk
  have hz1 : (T.vm.noted g.method.cls index (.cls cA)).classes.size ≤ T.vm.classes.size := by no_record
  generalize T.vm.noted g.method.cls index (.cls cA) = vm1 at hg1 hw1 hr1 hz1
  obtain ⟨kA1, hkA1, eA⟩ := hw1.alike.2.2 _ _ hkA
  obtain ⟨kY1, hkY1, eY⟩ := hw1.alike.2.2 _ _ hkY
  have hA1 : kA1.kind = .array cy (.array .int) := by rw [eA]; exact hA
  have hY1 : kY1.kind = .array co .int := by rw [eY]; exact hY
  have hlim : 536870912 ≤ e.platform.arrayLengthLimit := by
    rw [Launch.admits_arrayLengthLimit X.admits]
    decide
  have hmax : e.platform.maxHeapBytes = 536870912 := Launch.admits_maxHeapBytes X.admits
  obtain ⟨q1, q2⟩ := X.roomAbove (a := 1) (b := n.toNatClampNeg) (by omega) (by omega)
  have X1 := (X.noted hw1).pushed { cls := cA, slots := Array.replicate n.toNatClampNeg .null, vm := .none }
  have h0 : ow_at p l e R s g.method args below meth c T locs cells slots vm1 cA cy n.toNatClampNeg k.toNatClampNeg 0 ((T.setVm vm1).pushCell { cls := cA, slots := Array.replicate n.toNatClampNeg .null, vm := .none }) := by
    refine ⟨⟨[], fun z hz => (by cases hz), ?_⟩, rfl, ?_, ?_, fun a ha => ?_, fun j hj => absurd hj (Nat.not_lt_zero j)⟩
    · rw [List.append_nil, Nat.zero_mul]
      rw [Array.size_replicate] at X1
      exact X1
    · show (T.heap.push _).size = _
      rw [Array.size_push]
    · rw [arrV_new]
      refine (State.heap_pushCell_size (T.setVm vm1) _).trans (congrArg (fun f => some (arrV cA n.toNatClampNeg f)) (funext fun j => ?_))
      rw [if_neg (Nat.not_lt_zero j)]
    · exact State.heap_pushCell_of_lt (T.setVm vm1) _ ha
  obtain ⟨V, hV, run⟩ := ow_loop (k := k) hkA1 hA1 hkY1 hY1 hk (by omega) (by omega) hc hs (fun _ _ => rfl) n.toNatClampNeg 0 _ (by omega) h0
  refine ⟨V, vm1, cA, cy, hnA, hcy, hV, fun target hrest => ?_⟩
  have hT1 : (T.setVm vm1).topJava?.isSome := X.here.top
  have hVt : V.topJava?.isSome := by
    obtain ⟨⟨L, -, XV⟩, -⟩ := hV
    exact XV.here.top
  have key : ∀ (Q : Unit → Pre) (E : CtlPost) (d : Bool) (acts : List Action), (∀ acts', Q () true acts' (V.setTop { g with stack := .ref T.heap.size :: rest })) → wp (multianewarray.sem index 2) Q E e d acts (T.setTop g) := by
    intro Q E d acts hq
    rw [ow_cold X.here.top hg1 hr1 hz1]
    unfold multianewarray.sem
    rw [wp_bind', W.resolveClassAt_ready (s := (T.setVm vm1).setTop g) (State.method?_setTop g hT1) hr1, wp_bind']
    refine (popN_top (s := T.setVm vm1) (f := g) hT1 (args := [.int n, .int k]) (rest := rest) hst).mpr ?_
    simp only [List.mapM_cons, List.mapM_nil, wp_bind', wp_pure']
    rw [multianewarray.make]
    simp only [wp_bind', W.ite, hn, if_false, W.theClass, State.vm_setTop]
    refine ⟨kA1, hkA1, ?_⟩
    rw [hA1]
    simp only [wp_bind']
    refine ow_new (S := (T.setVm vm1).setTop { g with stack := rest }) (kX := kA1) hkA1 hA1 rfl rfl (by omega) (by show n.toNatClampNeg * 4 ≤ _; omega) q1 q2 ?_
    have hno : List.find? (fun x : Int32 => decide (x < 0)) [k] = none := by simp [hk]
    rw [hno]
    simp only [ite_self, wp_bind', wp_pure', Std.Legacy.Range.forIn_eq_forIn_range', Std.Legacy.Range.size, Nat.sub_zero, Nat.add_sub_cancel, Nat.div_one]
    refine run { g with stack := rest } _ _ _ _ (fun d' acts' => ?_)
    rw [wp_pure', wp_bind', W.mark, W.pushRef]
    refine ⟨_, State.topJava?_setTop' _ hVt, ?_⟩
    rw [State.setTop_setTop]
    exact hq _
  jvm_step X.here [hexec, hd]
  refine key _ _ _ _ (fun acts' acts => ?_)
  simpa [jvm, hVt] using hrest
end OR
end
section
/-! a thrown exception whose constructor passes its text on by any index (no traces) -/
section XT
def mm_xat (own : String) (ic : Nat) (X : String) (ix : Nat) (rx : ByteArray) (names : List String) : List Jvm.Cond :=
  Bundle.throwableAtoms ++ Bundle.throwableSAtoms ++ ow_chat X ix rx names ++ [.methodLink own ic (Bundle.initS X), .instantiable X 6, .selects X Bundle.tFill0 Bundle.tFill0, .selects X Bundle.tFill Bundle.tFill] ++
  (["cause", "stackTrace", "suppressedExceptions", "detailMessage", "backtrace"].zip ["Ljava/lang/Throwable;", Bundle.steD, Bundle.listD, "Ljava/lang/String;", "Ljava/lang/Object;"]).map (fun q => Jvm.Cond.lays X Bundle.tN q.1 q.2) ++
  [.isRef (.static Bundle.tN "UNASSIGNED_STACK" Bundle.steD), .isRef (.static Bundle.tN "SUPPRESSED_SENTINEL" Bundle.listD), .fieldLink Bundle.tN 198 Bundle.tN "backtrace" "Ljava/lang/Object;", .lays Bundle.tN Bundle.tN "backtrace" "Ljava/lang/Object;"]
variable {p : Program} {l : Launch} {e : Env} {R : Room} {s : State} {m : MethodId} {args : Array Value} {below : List Frame} {meth : Method} {c : Code} {locs : List Loc} {cells slots : Nat}
set_option maxHeartbeats 2000000 in
/-- the exception made, not yet thrown (begun as vx_ctorMadeS of EXCEPTIONS.to-paste; its chain goes by any index) -/
theorem mm_madeX {W : State} (X : Stand p l e R s m args below meth c W locs cells slots) (hexec : p.tables.exec = Jvm.exec) (htr : e.platform.stackTraces = false) {own cls : String} {names : List String} {ic ix : Nat} {rx : ByteArray}
    (x0 : decode rx 0 = .ok (.aload_n 0, 1)) (x1 : decode rx 1 = .ok (.aload_n 1, 1)) (x2 : decode rx 2 = .ok (.invokespecial ix, 3)) (x5 : decode rx 5 = .ok (.return_, 1))
    (hown : s.vm.findClass own = some m.cls) (hcls : Bundle.fit cls = true) (hnames : ∀ n ∈ names, Bundle.fit n = true) (h : ∀ a ∈ mm_xat own ic cls ix rx names, a.before args s = true)
    (hlocs : ∀ x ∈ locs, ∀ cell, s.heap[x.base]? = some cell → cell.vm.isStatics = false)
    {a : Addr} {cX : ClassId} {kX : Class} (hfoundX : s.vm.findClass cls = some cX) (hkX : s.vm.classes[cX]? = some kX) (hcell : W.heap[a]? = some (freshCell cX kX)) (hnew : s.heap.size ≤ a) {msg : Value} (hmsg : msg.isRef = true)
    {g : JFrame} (hg : g.method = m) (hsize : g.locals.size = c.maxLocals) {rest : List Value} (hstack : g.stack = msg :: .ref a :: .ref a :: rest) (hd6 : decode c.code g.pc = .ok (.invokespecial ic, 3))
    (hRframes : names.length + 3 < R.frames) (hRlocals : 2 * g.monitorRoom + ((Value.ref a :: rest).map fun v => v.category).sum + (13 * (names.length + 1) + 42) ≤ R.locals) :
    ∃ (V : State) (ce : Cell) (L : List Loc), Stand p l e R s m args below meth c (V.setCell a ce) (locs ++ L) cells slots ∧ (∀ y ∈ L, y.base = a) ∧ a < V.heap.size ∧ ce.cls = cX ∧ ce.vm = .none ∧
      ∀ target, Steps p.tables e below ((V.setCell a ce).setTop { g with stack := .ref a :: rest, pc := g.pc + 3 }) target → Steps p.tables e below (W.setTop g) target := by
  have howns : e.platform.frameOwnsMonitors = true := by rw [X.admits.platform]
  have hfin : e.platform.finalization = false := by rw [X.admits.platform]
  have hpl : e.platform.magicAccessors = ({} : Platform).magicAccessors := by rw [X.admits.platform]
  have a' : ∀ x, x ∈ mm_xat own ic cls ix rx names → x.holds args s none s [] = true := fun x hx => h x hx
  have ly : ∀ (n d : String), (n, d) ∈ (["cause", "stackTrace", "suppressedExceptions", "detailMessage", "backtrace"].zip ["Ljava/lang/Throwable;", Bundle.steD, Bundle.listD, "Ljava/lang/String;", "Ljava/lang/Object;"]) → (Jvm.Cond.lays cls Bundle.tN n d).holds args s none s [] = true := fun n d hq => a' _ (by
    unfold mm_xat
    exact List.mem_append_left _ (List.mem_append_right _ (List.mem_map.mpr ⟨(n, d), hq, rfl⟩)))
  obtain ⟨T, Z0, L, -, Y⟩ := ThrowableC.of_atoms (args := args) howns hfin hpl (fun x hx => h x (by simp [mm_xat, hx]))
  obtain ⟨Z, M, LZ, LM, hnZ⟩ := Init0T.ofS_atoms (args := args) hpl L Y (fun x hx => h x (by simp [mm_xat, hx]))
  obtain ⟨P1, Ps, hlen, hLs, hP1m, hon⟩ := ow_chain (args := args) hpl hnZ x0 x1 x2 x5 hcls hnames (fun x hx => h x (by simp [mm_xat, hx]))
  have hfound : s.vm.findClass cls = some P1.m.cls := findClass_of_methodNamed hP1m
  cases Option.some.inj (hfoundX.symm.trans hfound)
  obtain ⟨c1, kX', hc1, hk, hord, -, -, hn6⟩ := Jvm.Cond.instantiable_spec (a' (.instantiable cls 6) (by simp [mm_xat]))
  cases Option.some.inj (hc1.symm.trans hfound)
  cases Option.some.inj (hkX.symm.trans hk)
  have hsel0 : selectMethod e.platform s.vm P1.m.cls T.fill0 = .method T.fill0 := by
    obtain ⟨c2, r2, m2, q1, q2, q3, q4, -⟩ := Jvm.Cond.selects_spec (a' (.selects cls Bundle.tFill0 Bundle.tFill0) (by simp [mm_xat]))
    cases Option.some.inj (q1.symm.trans hfound)
    cases Option.some.inj (q2.symm.trans (State.methodFound?_of_named Y.fill0 (by decide)))
    cases Option.some.inj (q3.symm.trans Y.fill0)
    rw [Launch.admits_selectMethod X.admits]; exact q4
  have hselF : selectMethod e.platform s.vm P1.m.cls T.fill = .method T.fill := by
    obtain ⟨c2, r2, m2, q1, q2, q3, q4, -⟩ := Jvm.Cond.selects_spec (a' (.selects cls Bundle.tFill Bundle.tFill) (by simp [mm_xat]))
    cases Option.some.inj (q1.symm.trans hfound)
    cases Option.some.inj (q2.symm.trans (State.methodFound?_of_named Y.fill (by decide)))
    cases Option.some.inj (q3.symm.trans Y.fill)
    rw [Launch.admits_selectMethod X.admits]; exact q4
  obtain ⟨cellS0, hcS0, hiss⟩ := Y.statics
  obtain ⟨u0, hu0⟩ := Jvm.Cond.staticRefV Y.unassigned L.unassignedStatic L.statics hcS0 hiss (a' (.isRef (.static Bundle.tN "UNASSIGNED_STACK" Bundle.steD)) (by simp [mm_xat]))
  obtain ⟨sen, hsen⟩ := Jvm.Cond.staticRefV Y.sentinel L.sentinelStatic L.statics hcS0 hiss (a' (.isRef (.static Bundle.tN "SUPPRESSED_SENTINEL" Bundle.listD)) (by simp [mm_xat]))
  obtain ⟨ci198, i198, fB, hk198, hg198, ha198, hsB, -, hnB, htB, hffB⟩ := Jvm.Cond.ownField (t := .object "java/lang/Object") Y.found L.cls (by decide +kernel) (a' (.fieldLink Bundle.tN 198 Bundle.tN "backtrace" "Ljava/lang/Object;") (by simp [mm_xat])) (a' (.lays Bundle.tN Bundle.tN "backtrace" "Ljava/lang/Object;") (by simp [mm_xat])) e.platform hpl
  obtain ⟨cellS, hcS', heS, -, hkeep⟩ := X.same.2.2.2.2.2 T.aS cellS0 hcS0
  have hcellS : W.heap[T.aS]? = some cellS := hcS'
  have hout' : ∀ i, (⟨T.aS, i⟩ : Loc) ∉ locs := fun i hmem => by
    have := hlocs _ hmem cellS0 hcS0
    rw [hiss] at this; cases this
  have hknownS : cellS.vm ≠ .unknown := by
    rw [heS]; intro hu
    rw [show cellS0.vm = .unknown from hu] at hiss
    cases hiss
  have hneS : T.aS ≠ a := Nat.ne_of_lt (Nat.lt_of_lt_of_le (Array.getElem?_eq_some_iff.mp hcS0).1 hnew)
  obtain ⟨iM, hffM⟩ := Y.msg
  obtain ⟨tyC, dC, hdC, hdnC⟩ := Jvm.Cond.laysAt hfound hk Y.cause (ly "cause" _ (by simp))
  obtain ⟨tyS, dS, hdS, hdnS⟩ := Jvm.Cond.laysAt hfound hk Y.stack (ly "stackTrace" _ (by simp))
  obtain ⟨tyP, dP, hdP, hdnP⟩ := Jvm.Cond.laysAt hfound hk Y.supp (ly "suppressedExceptions" _ (by simp))
  obtain ⟨tyM, dM, hdM, hdnM⟩ := Jvm.Cond.laysAt hfound hk hffM (ly "detailMessage" _ (by simp))
  obtain ⟨tyB, dB, hdB, hdnB⟩ := Jvm.Cond.laysAt hfound hk hffB (ly "backtrace" _ (by simp))
  have bC := Jvm.Cond.laysApart hdB hdC hdnB hdnC (by rw [hnB, Y.causeName]; decide)
  have bS := Jvm.Cond.laysApart hdB hdS hdnB hdnS (by rw [hnB, Y.stackName]; decide)
  have bP := Jvm.Cond.laysApart hdB hdP hdnB hdnP (by rw [hnB, Y.suppName]; decide)
  have hskip : SkipFacts T e.platform s (fun u => u) u0 ((preparedCellV T.toThrowableT (freshCell P1.m.cls kX) a u0 sen).withEntry W.cur) :=
    ⟨{ ci198 := ci198, i198 := i198, fBack := fB }, ⟨hk198, hg198, ha198, hsB⟩, by
      have := fresh_default (c := P1.m.cls) tyB
      rw [htB] at this
      simpa [preparedCellV, Cell.setSlot, Cell.withEntry, Array.getElem?_setIfInBounds, bC, bS, bP, bC.symm, bS.symm, bP.symm, defaultValue] using this, fun _ _ => rfl⟩
  obtain ⟨tm, methC, cdC, kC, vm₁, hnC, -, -, -, -, -, -, -, hW₁, st1⟩ := Steps.initColdS (tb := p.tables) (e := e) (below := below) (s := s) (U := W) X.here hexec X.warmed hpl hown (t := Bundle.initS cls) rfl rfl (Bundle.fit_spec hcls).2
    (a' (.methodLink own ic (Bundle.initS cls)) (by simp [mm_xat])) (h (.instanceMethod (Bundle.initS cls)) (by cases names <;> simp [mm_xat, ow_chat, Bundle.passSAtoms])) (bytes := rx) (maxL := 2) (h (.code (Bundle.initS cls) rx 2 none) (by cases names <;> simp [mm_xat, ow_chat, Bundle.passSAtoms]))
    (f := g) hg (a := a) (msg := msg) (rest := .ref a :: rest) hstack hd6
  cases Option.some.inj (hnC.symm.trans hP1m)
  have X₁ := X.noted hW₁
  obtain ⟨vm₂, X₂, st2⟩ := X₁.ctorMessageOffV hexec (g := { g with stack := .ref a :: rest }) hg hsize T L Z LZ M LM (P1 :: Ps)
    hLs hon (u0 := u0) (sen := sen) (self := a) hmsg (cell := freshCell P1.m.cls kX) (cellS := cellS)
    hcell (fun _ => by simp) (by simp) rfl rfl hsel0 hselF hcellS hneS hknownS (by rw [hkeep _ (hout' _)]; exact hu0) (by rw [hkeep _ (hout' _)]; exact hsen)
    (Takes.of_laid hk hord tyC (by rw [Y.causeType]; rfl)) (Takes.of_laid hk hord tyS (by rw [Y.stackType]; exact fits_refV_array _ u0)) (Takes.of_laid hk hord tyP (by rw [Y.suppType]; exact fits_refV_object _ sen))
    (Takes.of_laid hk hord tyM (by rw [Y.msgType]; exact fits_refV_object _ ⟨msg, hmsg⟩)) Y.objLocals hskip htr [] hd6
    (by simp only [List.length_cons, hlen]; omega) (by simp only [List.length_cons, hlen]; exact hRlocals)
  refine ⟨(W.setVm vm₁).setVm vm₂, _, _, X₂, fun y hy => ?_, (Array.getElem?_eq_some_iff.mp hcell).1, rfl, rfl, fun target hwalk => st1 _ (fun acts => ?_)⟩
  · simp only [List.mem_cons, List.not_mem_nil, or_false] at hy
    rcases hy with rfl | rfl | rfl | rfl | rfl <;> rfl
  · rw [doInvoke_state]
    exact st2 _ hwalk
/-- made and thrown: what was written lies in the new object alone, so nobody who looked before can tell -/
theorem mm_ctorX {W : State} (X : Stand p l e R s m args below meth c W locs cells slots) (hexec : p.tables.exec = Jvm.exec) (htr : e.platform.stackTraces = false) {own cls : String} {names : List String} {ic ix : Nat} {rx : ByteArray}
    (x0 : decode rx 0 = .ok (.aload_n 0, 1)) (x1 : decode rx 1 = .ok (.aload_n 1, 1)) (x2 : decode rx 2 = .ok (.invokespecial ix, 3)) (x5 : decode rx 5 = .ok (.return_, 1))
    (hown : s.vm.findClass own = some m.cls) (hcls : Bundle.fit cls = true) (hnames : ∀ n ∈ names, Bundle.fit n = true) (h : ∀ a ∈ mm_xat own ic cls ix rx names, a.before args s = true)
    (hlocs : ∀ x ∈ locs, ∀ cell, s.heap[x.base]? = some cell → cell.vm.isStatics = false)
    {a : Addr} {cX : ClassId} {kX : Class} (hfoundX : s.vm.findClass cls = some cX) (hkX : s.vm.classes[cX]? = some kX) (hcell : W.heap[a]? = some (freshCell cX kX)) (hnew : s.heap.size ≤ a) {msg : Value} (hmsg : msg.isRef = true)
    {g : JFrame} (hg : g.method = m) (hsize : g.locals.size = c.maxLocals) (hlocked : g.locked = none) (hentered : g.entered = []) {rest : List Value} (hstack : g.stack = msg :: .ref a :: .ref a :: rest)
    (hd6 : decode c.code g.pc = .ok (.invokespecial ic, 3)) (hd9 : decode c.code (g.pc + 3) = .ok (.athrow, 1)) (hout : ∀ x ∈ c.exceptionTable.toList, covers x (g.pc + 3) = false)
    (hRframes : names.length + 3 < R.frames) (hRlocals : 2 * g.monitorRoom + ((Value.ref a :: rest).map fun v => v.category).sum + (13 * (names.length + 1) + 42) ≤ R.locals) (hlocks : meth.locks = false) :
    ∃ U : State, Steps p.tables e below (W.setTop g) U ∧ U.status = .running ∧ Ended U below (.threw a) ∧ s.WarmedH U.vm ∧ s.sameButNew ({ U with vm := s.vm } : State) locs cells slots ∧ ∃ ce, U.heap[a]? = some ce ∧ ce.vm = .none ∧ s.vm.findClass cls = some ce.cls := by
  obtain ⟨V, ce, L, X1, hL, hin, hcl, hvm, go⟩ := mm_madeX X hexec htr x0 x1 x2 x5 hown hcls hnames h hlocs hfoundX hkX hcell hnew hmsg hg hsize hstack hd6 hRframes hRlocals
  have out := X1.athrowLeaves hexec (g := { g with stack := .ref a :: rest, pc := g.pc + 3 }) hg hlocked hentered hout rfl hd9 hlocks
  refine ⟨_, go _ out.1, out.2.1, out.2.2.1, out.2.2.2.1, out.2.2.2.2.weaken (fun y hy old => ?_) (Nat.le_refl _) (Nat.le_refl _), ce, heapAt_setCell_self ce hin, hvm, hcl.symm ▸ hfoundX⟩
  refine (List.mem_append.mp hy).resolve_right (fun q => ?_)
  rw [hL y q] at old
  exact Nat.lt_irrefl _ (Nat.lt_of_lt_of_le old hnew)
end XT
end
section
theorem pr_of {args : Array Value} {s : State} {tm : Term} {f : Nat → Int32} (harr : (Jvm.Cond.arrayOf tm .int).before args s = true) (hlen : (Term.length tm).eval args s none [] s = some (.int 9)) (hel : ∀ j : Nat, j < 9 → (Term.elem tm (.int (Int32.ofNat j))).eval args s none [] s = some (.int (f j))) : ∃ t : Nat, tm.eval args s none [] s = some (.ref t) ∧ t < s.heap.size ∧ va_X t 9 f s s.heap := by
  obtain ⟨t, ht, cell, hat, hof, hkn, -, h9, hels, -⟩ := va_Tof (A := fun _ => False) (ty := .int) (N := 9) (f := fun j => .int (f j)) (by decide) harr hlen hel (fun _ _ q => q)
  obtain ⟨t2, cell2, ht2, hat2, hshort, -⟩ := Jvm.Lib.length_spec hlen
  cases ht.symm.trans ht2
  cases hat.symm.trans (State.arrayAt?_spec hat2).1
  have hsz := congrArg Int32.toNatClampNeg h9
  rw [show cell.slots.size.toInt32.toNatClampNeg = cell.slots.size from Int32.toNatClampNeg_ofNat_of_lt hshort] at hsz
  exact ⟨t, ht, (Array.getElem?_eq_some_iff.mp hat).1, cell, hat, hof, hkn, hsz, hels⟩
end
