section
-- ===== PART A: goes FIRST, ahead of the names: the tables' words, and 'selects' of the private methods out of them =====
/-- a private method of a class that the tables say can be made, by its rows of tables_1 -/
def lw_okq (q : MethodName × Nat) : Prop := (q.1.cls ≠ "java/lang/invoke/MethodHandle" ∧ q.1.cls ≠ "java/lang/invoke/VarHandle") ∧ Cond.instantiable q.1.cls q.2 ∈ tables_1 ∧ Cond.privateMethod q.1 ∈ tables_1 ∧ Cond.instanceMethod q.1 ∈ tables_1
theorem lw_p0 : lw_okq (⟨"OldPot$Stock", "tasteAsBone", "(I)I"⟩, 14) := ⟨⟨by decide +kernel, by decide +kernel⟩, List.mem_of_getElem? (i := 51) (by decide +kernel), List.mem_of_getElem? (i := 276) (by decide +kernel), List.mem_of_getElem? (i := 277) (by decide +kernel)⟩
theorem lw_p1 : lw_okq (⟨"OldPot$Stock", "tasteAsThing", "(I)I"⟩, 14) := ⟨⟨by decide +kernel, by decide +kernel⟩, List.mem_of_getElem? (i := 51) (by decide +kernel), List.mem_of_getElem? (i := 280) (by decide +kernel), List.mem_of_getElem? (i := 281) (by decide +kernel)⟩
theorem lw_p2 : lw_okq (⟨"OldPot$Stock", "tasteAsHerb", "(I)I"⟩, 14) := ⟨⟨by decide +kernel, by decide +kernel⟩, List.mem_of_getElem? (i := 51) (by decide +kernel), List.mem_of_getElem? (i := 284) (by decide +kernel), List.mem_of_getElem? (i := 285) (by decide +kernel)⟩
theorem lw_p3 : lw_okq (⟨"OldPot$Stock", "wearsAsHerb", "(I)I"⟩, 14) := ⟨⟨by decide +kernel, by decide +kernel⟩, List.mem_of_getElem? (i := 51) (by decide +kernel), List.mem_of_getElem? (i := 306) (by decide +kernel), List.mem_of_getElem? (i := 307) (by decide +kernel)⟩
theorem lw_p4 : lw_okq (⟨"OldPot$Stock", "draw", "()I"⟩, 14) := ⟨⟨by decide +kernel, by decide +kernel⟩, List.mem_of_getElem? (i := 51) (by decide +kernel), List.mem_of_getElem? (i := 358) (by decide +kernel), List.mem_of_getElem? (i := 359) (by decide +kernel)⟩
theorem lw_p5 : lw_okq (⟨"OldPot", "tasteTried", "(III)I"⟩, 11) := ⟨⟨by decide +kernel, by decide +kernel⟩, List.mem_of_getElem? (i := 16) (by decide +kernel), List.mem_of_getElem? (i := 428) (by decide +kernel), List.mem_of_getElem? (i := 429) (by decide +kernel)⟩
theorem lw_p6 : lw_okq (⟨"OldPot", "gapIfThrown", "(LOldPot$Row;I)I"⟩, 11) := ⟨⟨by decide +kernel, by decide +kernel⟩, List.mem_of_getElem? (i := 16) (by decide +kernel), List.mem_of_getElem? (i := 464) (by decide +kernel), List.mem_of_getElem? (i := 465) (by decide +kernel)⟩
theorem lw_p7 : lw_okq (⟨"OldPot$Tape", "next", "()V"⟩, 9) := ⟨⟨by decide +kernel, by decide +kernel⟩, List.mem_of_getElem? (i := 113) (by decide +kernel), List.mem_of_getElem? (i := 506) (by decide +kernel), List.mem_of_getElem? (i := 507) (by decide +kernel)⟩
theorem lw_p8 : lw_okq (⟨"OldPot$Tape", "isLetter", "(I)Z"⟩, 9) := ⟨⟨by decide +kernel, by decide +kernel⟩, List.mem_of_getElem? (i := 113) (by decide +kernel), List.mem_of_getElem? (i := 510) (by decide +kernel), List.mem_of_getElem? (i := 511) (by decide +kernel)⟩
theorem lw_p9 : lw_okq (⟨"OldPot$Tape", "isDigit", "(I)Z"⟩, 9) := ⟨⟨by decide +kernel, by decide +kernel⟩, List.mem_of_getElem? (i := 113) (by decide +kernel), List.mem_of_getElem? (i := 514) (by decide +kernel), List.mem_of_getElem? (i := 515) (by decide +kernel)⟩
theorem lw_p10 : lw_okq (⟨"OldPot$Tape", "readKey", "()Z"⟩, 9) := ⟨⟨by decide +kernel, by decide +kernel⟩, List.mem_of_getElem? (i := 113) (by decide +kernel), List.mem_of_getElem? (i := 518) (by decide +kernel), List.mem_of_getElem? (i := 519) (by decide +kernel)⟩
theorem lw_p11 : lw_okq (⟨"OldPot$Tape", "isWord", "(Ljava/lang/String;)Z"⟩, 9) := ⟨⟨by decide +kernel, by decide +kernel⟩, List.mem_of_getElem? (i := 113) (by decide +kernel), List.mem_of_getElem? (i := 528) (by decide +kernel), List.mem_of_getElem? (i := 529) (by decide +kernel)⟩
theorem lw_p12 : lw_okq (⟨"OldPot$Tape", "readOr", "(II)Z"⟩, 9) := ⟨⟨by decide +kernel, by decide +kernel⟩, List.mem_of_getElem? (i := 113) (by decide +kernel), List.mem_of_getElem? (i := 580) (by decide +kernel), List.mem_of_getElem? (i := 581) (by decide +kernel)⟩
theorem lw_p13 : lw_okq (⟨"OldPot$Tape", "readAnd", "(II)Z"⟩, 9) := ⟨⟨by decide +kernel, by decide +kernel⟩, List.mem_of_getElem? (i := 113) (by decide +kernel), List.mem_of_getElem? (i := 584) (by decide +kernel), List.mem_of_getElem? (i := 585) (by decide +kernel)⟩
theorem lw_p14 : lw_okq (⟨"OldPot$Tape", "readTest", "(II)Z"⟩, 9) := ⟨⟨by decide +kernel, by decide +kernel⟩, List.mem_of_getElem? (i := 113) (by decide +kernel), List.mem_of_getElem? (i := 588) (by decide +kernel), List.mem_of_getElem? (i := 589) (by decide +kernel)⟩
theorem lw_p15 : lw_okq (⟨"OldPot$Tape", "readSum", "(II)Z"⟩, 9) := ⟨⟨by decide +kernel, by decide +kernel⟩, List.mem_of_getElem? (i := 113) (by decide +kernel), List.mem_of_getElem? (i := 592) (by decide +kernel), List.mem_of_getElem? (i := 593) (by decide +kernel)⟩
def lw_privs_1 : List (MethodName × Nat) := [(⟨"OldPot$Stock", "tasteAsBone", "(I)I"⟩, 14), (⟨"OldPot$Stock", "tasteAsThing", "(I)I"⟩, 14), (⟨"OldPot$Stock", "tasteAsHerb", "(I)I"⟩, 14), (⟨"OldPot$Stock", "wearsAsHerb", "(I)I"⟩, 14), (⟨"OldPot$Stock", "draw", "()I"⟩, 14), (⟨"OldPot", "tasteTried", "(III)I"⟩, 11), (⟨"OldPot", "gapIfThrown", "(LOldPot$Row;I)I"⟩, 11), (⟨"OldPot$Tape", "next", "()V"⟩, 9), (⟨"OldPot$Tape", "isLetter", "(I)Z"⟩, 9), (⟨"OldPot$Tape", "isDigit", "(I)Z"⟩, 9), (⟨"OldPot$Tape", "readKey", "()Z"⟩, 9), (⟨"OldPot$Tape", "isWord", "(Ljava/lang/String;)Z"⟩, 9), (⟨"OldPot$Tape", "readOr", "(II)Z"⟩, 9), (⟨"OldPot$Tape", "readAnd", "(II)Z"⟩, 9), (⟨"OldPot$Tape", "readTest", "(II)Z"⟩, 9), (⟨"OldPot$Tape", "readSum", "(II)Z"⟩, 9)]
theorem lw_r1 : ∀ q ∈ lw_privs_1, lw_okq q := List.forall_mem_cons.mpr ⟨lw_p0, List.forall_mem_cons.mpr ⟨lw_p1, List.forall_mem_cons.mpr ⟨lw_p2, List.forall_mem_cons.mpr ⟨lw_p3, List.forall_mem_cons.mpr ⟨lw_p4, List.forall_mem_cons.mpr ⟨lw_p5, List.forall_mem_cons.mpr ⟨lw_p6, List.forall_mem_cons.mpr ⟨lw_p7, List.forall_mem_cons.mpr ⟨lw_p8, List.forall_mem_cons.mpr ⟨lw_p9, List.forall_mem_cons.mpr ⟨lw_p10, List.forall_mem_cons.mpr ⟨lw_p11, List.forall_mem_cons.mpr ⟨lw_p12, List.forall_mem_cons.mpr ⟨lw_p13, List.forall_mem_cons.mpr ⟨lw_p14, List.forall_mem_cons.mpr ⟨lw_p15, fun _ h => absurd h List.not_mem_nil⟩⟩⟩⟩⟩⟩⟩⟩⟩⟩⟩⟩⟩⟩⟩⟩
theorem lw_p16 : lw_okq (⟨"OldPot$Tape", "readTerm", "(II)Z"⟩, 9) := ⟨⟨by decide +kernel, by decide +kernel⟩, List.mem_of_getElem? (i := 113) (by decide +kernel), List.mem_of_getElem? (i := 596) (by decide +kernel), List.mem_of_getElem? (i := 597) (by decide +kernel)⟩
theorem lw_p17 : lw_okq (⟨"OldPot$Tape", "readPiece", "(II)Z"⟩, 9) := ⟨⟨by decide +kernel, by decide +kernel⟩, List.mem_of_getElem? (i := 113) (by decide +kernel), List.mem_of_getElem? (i := 600) (by decide +kernel), List.mem_of_getElem? (i := 601) (by decide +kernel)⟩
theorem lw_p18 : lw_okq (⟨"OldPot$Tape", "numberAhead", "()I"⟩, 9) := ⟨⟨by decide +kernel, by decide +kernel⟩, List.mem_of_getElem? (i := 113) (by decide +kernel), List.mem_of_getElem? (i := 604) (by decide +kernel), List.mem_of_getElem? (i := 605) (by decide +kernel)⟩
theorem lw_p19 : lw_okq (⟨"OldPot$Tape", "readLeaf", "(I)Z"⟩, 9) := ⟨⟨by decide +kernel, by decide +kernel⟩, List.mem_of_getElem? (i := 113) (by decide +kernel), List.mem_of_getElem? (i := 608) (by decide +kernel), List.mem_of_getElem? (i := 609) (by decide +kernel)⟩
theorem lw_p20 : lw_okq (⟨"OldPot$Tape", "emit", "(I)V"⟩, 9) := ⟨⟨by decide +kernel, by decide +kernel⟩, List.mem_of_getElem? (i := 113) (by decide +kernel), List.mem_of_getElem? (i := 612) (by decide +kernel), List.mem_of_getElem? (i := 613) (by decide +kernel)⟩
theorem lw_p21 : lw_okq (⟨"OldPot$Tape", "nameAhead", "()I"⟩, 9) := ⟨⟨by decide +kernel, by decide +kernel⟩, List.mem_of_getElem? (i := 113) (by decide +kernel), List.mem_of_getElem? (i := 616) (by decide +kernel), List.mem_of_getElem? (i := 617) (by decide +kernel)⟩
theorem lw_p22 : lw_okq (⟨"OldPot$Tape", "readNot", "(II)Z"⟩, 9) := ⟨⟨by decide +kernel, by decide +kernel⟩, List.mem_of_getElem? (i := 113) (by decide +kernel), List.mem_of_getElem? (i := 681) (by decide +kernel), List.mem_of_getElem? (i := 682) (by decide +kernel)⟩
theorem lw_p23 : lw_okq (⟨"OldPot$Tape", "readInner", "(II)Z"⟩, 9) := ⟨⟨by decide +kernel, by decide +kernel⟩, List.mem_of_getElem? (i := 113) (by decide +kernel), List.mem_of_getElem? (i := 685) (by decide +kernel), List.mem_of_getElem? (i := 686) (by decide +kernel)⟩
theorem lw_p24 : lw_okq (⟨"OldPot", "firstUntrue", "(I)I"⟩, 11) := ⟨⟨by decide +kernel, by decide +kernel⟩, List.mem_of_getElem? (i := 16) (by decide +kernel), List.mem_of_getElem? (i := 771) (by decide +kernel), List.mem_of_getElem? (i := 772) (by decide +kernel)⟩
theorem lw_p25 : lw_okq (⟨"OldPot", "waitsAt", "(II)Z"⟩, 11) := ⟨⟨by decide +kernel, by decide +kernel⟩, List.mem_of_getElem? (i := 16) (by decide +kernel), List.mem_of_getElem? (i := 775) (by decide +kernel), List.mem_of_getElem? (i := 776) (by decide +kernel)⟩
theorem lw_p26 : lw_okq (⟨"OldPotModel", "comes", "(III)I"⟩, 35) := ⟨⟨by decide +kernel, by decide +kernel⟩, List.mem_of_getElem? (i := 791) (by decide +kernel), List.mem_of_getElem? (i := 914) (by decide +kernel), List.mem_of_getElem? (i := 915) (by decide +kernel)⟩
theorem lw_p27 : lw_okq (⟨"OldPotModel", "put", "(III)V"⟩, 35) := ⟨⟨by decide +kernel, by decide +kernel⟩, List.mem_of_getElem? (i := 791) (by decide +kernel), List.mem_of_getElem? (i := 918) (by decide +kernel), List.mem_of_getElem? (i := 919) (by decide +kernel)⟩
theorem lw_p28 : lw_okq (⟨"OldPotModel", "isThing", "(I)Z"⟩, 35) := ⟨⟨by decide +kernel, by decide +kernel⟩, List.mem_of_getElem? (i := 791) (by decide +kernel), List.mem_of_getElem? (i := 926) (by decide +kernel), List.mem_of_getElem? (i := 927) (by decide +kernel)⟩
theorem lw_p29 : lw_okq (⟨"OldPotModel", "tosses", "(II)V"⟩, 35) := ⟨⟨by decide +kernel, by decide +kernel⟩, List.mem_of_getElem? (i := 791) (by decide +kernel), List.mem_of_getElem? (i := 930) (by decide +kernel), List.mem_of_getElem? (i := 931) (by decide +kernel)⟩
theorem lw_p30 : lw_okq (⟨"OldPotModel", "of", "(II)I"⟩, 35) := ⟨⟨by decide +kernel, by decide +kernel⟩, List.mem_of_getElem? (i := 791) (by decide +kernel), List.mem_of_getElem? (i := 934) (by decide +kernel), List.mem_of_getElem? (i := 935) (by decide +kernel)⟩
theorem lw_p31 : lw_okq (⟨"OldPotModel", "tasteOf", "(I)I"⟩, 35) := ⟨⟨by decide +kernel, by decide +kernel⟩, List.mem_of_getElem? (i := 791) (by decide +kernel), List.mem_of_getElem? (i := 946) (by decide +kernel), List.mem_of_getElem? (i := 947) (by decide +kernel)⟩
def lw_privs_2 : List (MethodName × Nat) := [(⟨"OldPot$Tape", "readTerm", "(II)Z"⟩, 9), (⟨"OldPot$Tape", "readPiece", "(II)Z"⟩, 9), (⟨"OldPot$Tape", "numberAhead", "()I"⟩, 9), (⟨"OldPot$Tape", "readLeaf", "(I)Z"⟩, 9), (⟨"OldPot$Tape", "emit", "(I)V"⟩, 9), (⟨"OldPot$Tape", "nameAhead", "()I"⟩, 9), (⟨"OldPot$Tape", "readNot", "(II)Z"⟩, 9), (⟨"OldPot$Tape", "readInner", "(II)Z"⟩, 9), (⟨"OldPot", "firstUntrue", "(I)I"⟩, 11), (⟨"OldPot", "waitsAt", "(II)Z"⟩, 11), (⟨"OldPotModel", "comes", "(III)I"⟩, 35), (⟨"OldPotModel", "put", "(III)V"⟩, 35), (⟨"OldPotModel", "isThing", "(I)Z"⟩, 35), (⟨"OldPotModel", "tosses", "(II)V"⟩, 35), (⟨"OldPotModel", "of", "(II)I"⟩, 35), (⟨"OldPotModel", "tasteOf", "(I)I"⟩, 35)]
theorem lw_r2 : ∀ q ∈ lw_privs_2, lw_okq q := List.forall_mem_cons.mpr ⟨lw_p16, List.forall_mem_cons.mpr ⟨lw_p17, List.forall_mem_cons.mpr ⟨lw_p18, List.forall_mem_cons.mpr ⟨lw_p19, List.forall_mem_cons.mpr ⟨lw_p20, List.forall_mem_cons.mpr ⟨lw_p21, List.forall_mem_cons.mpr ⟨lw_p22, List.forall_mem_cons.mpr ⟨lw_p23, List.forall_mem_cons.mpr ⟨lw_p24, List.forall_mem_cons.mpr ⟨lw_p25, List.forall_mem_cons.mpr ⟨lw_p26, List.forall_mem_cons.mpr ⟨lw_p27, List.forall_mem_cons.mpr ⟨lw_p28, List.forall_mem_cons.mpr ⟨lw_p29, List.forall_mem_cons.mpr ⟨lw_p30, List.forall_mem_cons.mpr ⟨lw_p31, fun _ h => absurd h List.not_mem_nil⟩⟩⟩⟩⟩⟩⟩⟩⟩⟩⟩⟩⟩⟩⟩⟩
theorem lw_p32 : lw_okq (⟨"OldPotModel", "fadesBy", "(II)I"⟩, 35) := ⟨⟨by decide +kernel, by decide +kernel⟩, List.mem_of_getElem? (i := 791) (by decide +kernel), List.mem_of_getElem? (i := 950) (by decide +kernel), List.mem_of_getElem? (i := 951) (by decide +kernel)⟩
theorem lw_p33 : lw_okq (⟨"OldPotModel", "counts", "(I)I"⟩, 35) := ⟨⟨by decide +kernel, by decide +kernel⟩, List.mem_of_getElem? (i := 791) (by decide +kernel), List.mem_of_getElem? (i := 954) (by decide +kernel), List.mem_of_getElem? (i := 955) (by decide +kernel)⟩
theorem lw_p34 : lw_okq (⟨"OldPotModel", "worksOut", "(I)I"⟩, 35) := ⟨⟨by decide +kernel, by decide +kernel⟩, List.mem_of_getElem? (i := 791) (by decide +kernel), List.mem_of_getElem? (i := 958) (by decide +kernel), List.mem_of_getElem? (i := 959) (by decide +kernel)⟩
theorem lw_p35 : lw_okq (⟨"OldPotModel", "wearsOf", "(I)I"⟩, 35) := ⟨⟨by decide +kernel, by decide +kernel⟩, List.mem_of_getElem? (i := 791) (by decide +kernel), List.mem_of_getElem? (i := 965) (by decide +kernel), List.mem_of_getElem? (i := 966) (by decide +kernel)⟩
theorem lw_p36 : lw_okq (⟨"OldPotModel", "worthOf", "(I)I"⟩, 35) := ⟨⟨by decide +kernel, by decide +kernel⟩, List.mem_of_getElem? (i := 791) (by decide +kernel), List.mem_of_getElem? (i := 969) (by decide +kernel), List.mem_of_getElem? (i := 970) (by decide +kernel)⟩
theorem lw_p37 : lw_okq (⟨"OldPotModel", "shareOf", "(I)I"⟩, 35) := ⟨⟨by decide +kernel, by decide +kernel⟩, List.mem_of_getElem? (i := 791) (by decide +kernel), List.mem_of_getElem? (i := 973) (by decide +kernel), List.mem_of_getElem? (i := 974) (by decide +kernel)⟩
theorem lw_p38 : lw_okq (⟨"OldPotModel", "amountAll", "()I"⟩, 35) := ⟨⟨by decide +kernel, by decide +kernel⟩, List.mem_of_getElem? (i := 791) (by decide +kernel), List.mem_of_getElem? (i := 977) (by decide +kernel), List.mem_of_getElem? (i := 978) (by decide +kernel)⟩
theorem lw_p39 : lw_okq (⟨"OldPotModel", "billOf", "(I)I"⟩, 35) := ⟨⟨by decide +kernel, by decide +kernel⟩, List.mem_of_getElem? (i := 791) (by decide +kernel), List.mem_of_getElem? (i := 982) (by decide +kernel), List.mem_of_getElem? (i := 983) (by decide +kernel)⟩
theorem lw_p40 : lw_okq (⟨"OldPotModel", "becomes", "(II)I"⟩, 35) := ⟨⟨by decide +kernel, by decide +kernel⟩, List.mem_of_getElem? (i := 791) (by decide +kernel), List.mem_of_getElem? (i := 998) (by decide +kernel), List.mem_of_getElem? (i := 999) (by decide +kernel)⟩
theorem lw_p41 : lw_okq (⟨"OldPotModel", "draw", "()I"⟩, 35) := ⟨⟨by decide +kernel, by decide +kernel⟩, List.mem_of_getElem? (i := 791) (by decide +kernel), List.mem_of_getElem? (i := 1010) (by decide +kernel), List.mem_of_getElem? (i := 1011) (by decide +kernel)⟩
theorem lw_p42 : lw_okq (⟨"OldPotModel", "goesOn", "(I)V"⟩, 35) := ⟨⟨by decide +kernel, by decide +kernel⟩, List.mem_of_getElem? (i := 791) (by decide +kernel), List.mem_of_getElem? (i := 1027) (by decide +kernel), List.mem_of_getElem? (i := 1028) (by decide +kernel)⟩
theorem lw_p43 : lw_okq (⟨"OldPotModel", "day", "()V"⟩, 35) := ⟨⟨by decide +kernel, by decide +kernel⟩, List.mem_of_getElem? (i := 791) (by decide +kernel), List.mem_of_getElem? (i := 1031) (by decide +kernel), List.mem_of_getElem? (i := 1032) (by decide +kernel)⟩
theorem lw_p44 : lw_okq (⟨"OldPotModel", "tasteAll", "()I"⟩, 35) := ⟨⟨by decide +kernel, by decide +kernel⟩, List.mem_of_getElem? (i := 791) (by decide +kernel), List.mem_of_getElem? (i := 1035) (by decide +kernel), List.mem_of_getElem? (i := 1036) (by decide +kernel)⟩
theorem lw_p45 : lw_okq (⟨"OldPotModel", "thinks", "()V"⟩, 35) := ⟨⟨by decide +kernel, by decide +kernel⟩, List.mem_of_getElem? (i := 791) (by decide +kernel), List.mem_of_getElem? (i := 1055) (by decide +kernel), List.mem_of_getElem? (i := 1056) (by decide +kernel)⟩
theorem lw_p46 : lw_okq (⟨"OldPotModel", "putsBack", "()V"⟩, 35) := ⟨⟨by decide +kernel, by decide +kernel⟩, List.mem_of_getElem? (i := 791) (by decide +kernel), List.mem_of_getElem? (i := 1059) (by decide +kernel), List.mem_of_getElem? (i := 1060) (by decide +kernel)⟩
theorem lw_p47 : lw_okq (⟨"OldPotModel", "findSteer", "(II)V"⟩, 35) := ⟨⟨by decide +kernel, by decide +kernel⟩, List.mem_of_getElem? (i := 791) (by decide +kernel), List.mem_of_getElem? (i := 1072) (by decide +kernel), List.mem_of_getElem? (i := 1073) (by decide +kernel)⟩
def lw_privs_3 : List (MethodName × Nat) := [(⟨"OldPotModel", "fadesBy", "(II)I"⟩, 35), (⟨"OldPotModel", "counts", "(I)I"⟩, 35), (⟨"OldPotModel", "worksOut", "(I)I"⟩, 35), (⟨"OldPotModel", "wearsOf", "(I)I"⟩, 35), (⟨"OldPotModel", "worthOf", "(I)I"⟩, 35), (⟨"OldPotModel", "shareOf", "(I)I"⟩, 35), (⟨"OldPotModel", "amountAll", "()I"⟩, 35), (⟨"OldPotModel", "billOf", "(I)I"⟩, 35), (⟨"OldPotModel", "becomes", "(II)I"⟩, 35), (⟨"OldPotModel", "draw", "()I"⟩, 35), (⟨"OldPotModel", "goesOn", "(I)V"⟩, 35), (⟨"OldPotModel", "day", "()V"⟩, 35), (⟨"OldPotModel", "tasteAll", "()I"⟩, 35), (⟨"OldPotModel", "thinks", "()V"⟩, 35), (⟨"OldPotModel", "putsBack", "()V"⟩, 35), (⟨"OldPotModel", "findSteer", "(II)V"⟩, 35)]
theorem lw_r3 : ∀ q ∈ lw_privs_3, lw_okq q := List.forall_mem_cons.mpr ⟨lw_p32, List.forall_mem_cons.mpr ⟨lw_p33, List.forall_mem_cons.mpr ⟨lw_p34, List.forall_mem_cons.mpr ⟨lw_p35, List.forall_mem_cons.mpr ⟨lw_p36, List.forall_mem_cons.mpr ⟨lw_p37, List.forall_mem_cons.mpr ⟨lw_p38, List.forall_mem_cons.mpr ⟨lw_p39, List.forall_mem_cons.mpr ⟨lw_p40, List.forall_mem_cons.mpr ⟨lw_p41, List.forall_mem_cons.mpr ⟨lw_p42, List.forall_mem_cons.mpr ⟨lw_p43, List.forall_mem_cons.mpr ⟨lw_p44, List.forall_mem_cons.mpr ⟨lw_p45, List.forall_mem_cons.mpr ⟨lw_p46, List.forall_mem_cons.mpr ⟨lw_p47, fun _ h => absurd h List.not_mem_nil⟩⟩⟩⟩⟩⟩⟩⟩⟩⟩⟩⟩⟩⟩⟩⟩
theorem lw_p48 : lw_okq (⟨"OldPotModel", "offBy", "(II)J"⟩, 35) := ⟨⟨by decide +kernel, by decide +kernel⟩, List.mem_of_getElem? (i := 791) (by decide +kernel), List.mem_of_getElem? (i := 1095) (by decide +kernel), List.mem_of_getElem? (i := 1096) (by decide +kernel)⟩
theorem lw_p49 : lw_okq (⟨"OldPotModel", "go", "()V"⟩, 35) := ⟨⟨by decide +kernel, by decide +kernel⟩, List.mem_of_getElem? (i := 791) (by decide +kernel), List.mem_of_getElem? (i := 1123) (by decide +kernel), List.mem_of_getElem? (i := 1124) (by decide +kernel)⟩
theorem lw_p50 : lw_okq (⟨"OldPotModel", "isLetter", "(I)Z"⟩, 35) := ⟨⟨by decide +kernel, by decide +kernel⟩, List.mem_of_getElem? (i := 791) (by decide +kernel), List.mem_of_getElem? (i := 1127) (by decide +kernel), List.mem_of_getElem? (i := 1128) (by decide +kernel)⟩
theorem lw_p51 : lw_okq (⟨"OldPotModel", "isFigure", "(I)Z"⟩, 35) := ⟨⟨by decide +kernel, by decide +kernel⟩, List.mem_of_getElem? (i := 791) (by decide +kernel), List.mem_of_getElem? (i := 1131) (by decide +kernel), List.mem_of_getElem? (i := 1132) (by decide +kernel)⟩
theorem lw_p52 : lw_okq (⟨"OldPotModel", "takesKey", "()Z"⟩, 35) := ⟨⟨by decide +kernel, by decide +kernel⟩, List.mem_of_getElem? (i := 791) (by decide +kernel), List.mem_of_getElem? (i := 1135) (by decide +kernel), List.mem_of_getElem? (i := 1136) (by decide +kernel)⟩
theorem lw_p53 : lw_okq (⟨"OldPotModel", "takesE", "()Z"⟩, 35) := ⟨⟨by decide +kernel, by decide +kernel⟩, List.mem_of_getElem? (i := 791) (by decide +kernel), List.mem_of_getElem? (i := 1139) (by decide +kernel), List.mem_of_getElem? (i := 1140) (by decide +kernel)⟩
theorem lw_p54 : lw_okq (⟨"OldPotModel", "takesPart", "()Z"⟩, 35) := ⟨⟨by decide +kernel, by decide +kernel⟩, List.mem_of_getElem? (i := 791) (by decide +kernel), List.mem_of_getElem? (i := 1143) (by decide +kernel), List.mem_of_getElem? (i := 1144) (by decide +kernel)⟩
theorem lw_p55 : lw_okq (⟨"OldPotModel", "nameOf", "(I)I"⟩, 35) := ⟨⟨by decide +kernel, by decide +kernel⟩, List.mem_of_getElem? (i := 791) (by decide +kernel), List.mem_of_getElem? (i := 1147) (by decide +kernel), List.mem_of_getElem? (i := 1148) (by decide +kernel)⟩
theorem lw_p56 : lw_okq (⟨"OldPotModel", "settle", "(I)V"⟩, 35) := ⟨⟨by decide +kernel, by decide +kernel⟩, List.mem_of_getElem? (i := 791) (by decide +kernel), List.mem_of_getElem? (i := 1151) (by decide +kernel), List.mem_of_getElem? (i := 1152) (by decide +kernel)⟩
theorem lw_p57 : lw_okq (⟨"OldPotModel", "notsOpen", "()I"⟩, 35) := ⟨⟨by decide +kernel, by decide +kernel⟩, List.mem_of_getElem? (i := 791) (by decide +kernel), List.mem_of_getElem? (i := 1158) (by decide +kernel), List.mem_of_getElem? (i := 1159) (by decide +kernel)⟩
theorem lw_p58 : lw_okq (⟨"OldPotModel", "signHere", "()I"⟩, 35) := ⟨⟨by decide +kernel, by decide +kernel⟩, List.mem_of_getElem? (i := 791) (by decide +kernel), List.mem_of_getElem? (i := 1162) (by decide +kernel), List.mem_of_getElem? (i := 1163) (by decide +kernel)⟩
def lw_privs_4 : List (MethodName × Nat) := [(⟨"OldPotModel", "offBy", "(II)J"⟩, 35), (⟨"OldPotModel", "go", "()V"⟩, 35), (⟨"OldPotModel", "isLetter", "(I)Z"⟩, 35), (⟨"OldPotModel", "isFigure", "(I)Z"⟩, 35), (⟨"OldPotModel", "takesKey", "()Z"⟩, 35), (⟨"OldPotModel", "takesE", "()Z"⟩, 35), (⟨"OldPotModel", "takesPart", "()Z"⟩, 35), (⟨"OldPotModel", "nameOf", "(I)I"⟩, 35), (⟨"OldPotModel", "settle", "(I)V"⟩, 35), (⟨"OldPotModel", "notsOpen", "()I"⟩, 35), (⟨"OldPotModel", "signHere", "()I"⟩, 35)]
theorem lw_r4 : ∀ q ∈ lw_privs_4, lw_okq q := List.forall_mem_cons.mpr ⟨lw_p48, List.forall_mem_cons.mpr ⟨lw_p49, List.forall_mem_cons.mpr ⟨lw_p50, List.forall_mem_cons.mpr ⟨lw_p51, List.forall_mem_cons.mpr ⟨lw_p52, List.forall_mem_cons.mpr ⟨lw_p53, List.forall_mem_cons.mpr ⟨lw_p54, List.forall_mem_cons.mpr ⟨lw_p55, List.forall_mem_cons.mpr ⟨lw_p56, List.forall_mem_cons.mpr ⟨lw_p57, List.forall_mem_cons.mpr ⟨lw_p58, fun _ h => absurd h List.not_mem_nil⟩⟩⟩⟩⟩⟩⟩⟩⟩⟩⟩
def lw_privs : List (MethodName × Nat) := lw_privs_1 ++ (lw_privs_2 ++ (lw_privs_3 ++ (lw_privs_4)))
def lw_tbl : List Cond := k2_sels lw_privs ++ tables_1
theorem lw_privs_ok : ∀ q ∈ lw_privs, lw_okq q := by
  show ∀ q ∈ lw_privs_1 ++ (lw_privs_2 ++ (lw_privs_3 ++ (lw_privs_4))), lw_okq q
  exact List.forall_mem_append.mpr ⟨lw_r1, List.forall_mem_append.mpr ⟨lw_r2, List.forall_mem_append.mpr ⟨lw_r3, lw_r4⟩⟩⟩
end
section
/-! ===== BEGIN words of one list among another's, by their places ===== -/
theorem goodIn_r {big : List Cond} (ws : List Cond) (ps : List Nat) (hp : ws = ps.filterMap (fun i => big[i]?)) (h : ws.all goodWord = true) : GoodIn big ws := by
  intro w hw
  have h1 := List.all_eq_true.mp h w hw
  rw [hp] at hw
  obtain ⟨i, -, hi⟩ := List.mem_filterMap.mp hw
  have hm : w ∈ big := by first | exact List.mem_of_getElem? hi | exact List.getElem?_mem hi
  exact ⟨hm, good_of_word h1⟩
theorem goodIn_app {big a b : List Cond} (ha : GoodIn big a) (hb : GoodIn big b) : GoodIn big (a ++ b) := fun w h => (List.mem_append.mp h).elim (ha w) (hb w)
theorem goodIn_ca {big a b : List Cond} {c : Cond} (ha : GoodIn big (c :: a)) (hb : GoodIn big b) : GoodIn big (c :: (a ++ b)) := fun w h => (List.mem_cons.mp h).elim (fun e => ha w (List.mem_cons.mpr (Or.inl e))) (fun h => (List.mem_append.mp h).elim (fun h => ha w (List.mem_cons.mpr (Or.inr h))) (hb w))
theorem goodIn_sub {big ws : List Cond} (hm : ∀ w ∈ ws, w ∈ big) (h : ws.all goodWord = true) : GoodIn big ws := fun w hw => ⟨hm w hw, good_of_word (List.all_eq_true.mp h w hw)⟩
/-! ===== END ===== -/

def RX0 : String := "OldPot$Laws"
def TX0 : u_T := fun k => match k with
  | 0 => ("OldPot$Laws", "steps", "[[I", true)
  | 1 => ("OldPot$Laws", "lengths", "[I", true)
  | 2 => ("OldPot$Laws", "keys", "[I", true)
  | 3 => ("OldPot$Laws", "leaves", "[I", true)
  | _ => ("OldPot$Laws", "stack", "[I", true)
def tyX0 : Nat → FieldType := fun k => match k with
  | 0 => .array (.array .int)
  | 1 => .array .int
  | 2 => .array .int
  | 3 => .array .int
  | _ => .array .int
abbrev wsX00 : List Cond := u_ws RX0 TX0 5
theorem nmX0 : ∀ a, a < 5 → ∀ b, b < 5 → a ≠ b → (TX0 a).2.1 ≠ (TX0 b).2.1 := by decide +kernel
theorem tyX0_ok : ∀ k, k < 5 → parseFieldDescriptor (TX0 k).2.2.1 = some (tyX0 k) := by decide +kernel
abbrev cX0_init : ByteArray := prog_2_method_1_code
def yX0_init : MethodName := ⟨RX0, "<init>", "()V"⟩
abbrev cX0_write : ByteArray := prog_2_method_2_code
def yX0_write : MethodName := ⟨RX0, "write", "(ILOldPot$Tape;)V"⟩
abbrev cX0_workOut : ByteArray := prog_2_method_3_code
def yX0_workOut : MethodName := ⟨RX0, "workOut", "(IIII)I"⟩
abbrev cX0_join : ByteArray := prog_2_method_4_code
def yX0_join : MethodName := ⟨RX0, "join", "(III)I"⟩
def RX1 : String := "OldPot$Row"
def TX1 : u_T := fun k => match k with
  | 0 => ("OldPot$Row", "places", "[I", true)
  | 1 => ("OldPot$Row", "sort", "I", false)
  | _ => ("OldPot$Row", "size", "I", false)
def tyX1 : Nat → FieldType := fun k => match k with
  | 0 => .array .int
  | 1 => .int
  | _ => .int
abbrev wsX10 : List Cond := u_ws RX1 TX1 3
theorem nmX1 : ∀ a, a < 3 → ∀ b, b < 3 → a ≠ b → (TX1 a).2.1 ≠ (TX1 b).2.1 := by decide +kernel
theorem tyX1_ok : ∀ k, k < 3 → parseFieldDescriptor (TX1 k).2.2.1 = some (tyX1 k) := by decide +kernel
abbrev cX1_init : ByteArray := prog_3_method_1_code
def yX1_init : MethodName := ⟨RX1, "<init>", "()V"⟩
abbrev cX1_isMissing : ByteArray := prog_3_method_2_code
def yX1_isMissing : MethodName := ⟨RX1, "isMissing", "()Z"⟩
abbrev cX1_hasPlace : ByteArray := prog_3_method_3_code
def yX1_hasPlace : MethodName := ⟨RX1, "hasPlace", "(I)Z"⟩
abbrev cX1_hasPlaces : ByteArray := prog_3_method_4_code
def yX1_hasPlaces : MethodName := ⟨RX1, "hasPlaces", "(II)Z"⟩
abbrev cX1_isNumber : ByteArray := prog_3_method_5_code
def yX1_isNumber : MethodName := ⟨RX1, "isNumber", "(I)Z"⟩
abbrev cX1_begin : ByteArray := prog_3_method_6_code
def yX1_begin : MethodName := ⟨RX1, "begin", "(II)V"⟩
abbrev cX1_become : ByteArray := prog_3_method_7_code
def yX1_become : MethodName := ⟨RX1, "become", "(LOldPot$Row;)V"⟩
def RX2 : String := "OldPot$Slot"
def TX2 : u_T := fun k => match k with
  | 0 => ("OldPot$Slot", "row", "LOldPot$Row;", true)
  | 1 => ("OldPot$Slot", "holds", "I", false)
  | 2 => ("OldPot$Slot", "kind", "I", false)
  | 3 => ("OldPot$Slot", "strong", "I", false)
  | _ => ("OldPot$Slot", "number", "I", false)
def tyX2 : Nat → FieldType := fun k => match k with
  | 0 => .object "OldPot$Row"
  | 1 => .int
  | 2 => .int
  | 3 => .int
  | _ => .int
abbrev wsX20 : List Cond := u_ws RX2 TX2 5
theorem nmX2 : ∀ a, a < 5 → ∀ b, b < 5 → a ≠ b → (TX2 a).2.1 ≠ (TX2 b).2.1 := by decide +kernel
theorem tyX2_ok : ∀ k, k < 5 → parseFieldDescriptor (TX2 k).2.2.1 = some (tyX2 k) := by decide +kernel
abbrev cX2_init : ByteArray := prog_4_method_1_code
def yX2_init : MethodName := ⟨RX2, "<init>", "()V"⟩
def RX3 : String := "OldPot$Stock"
def TX3 : u_T := fun k => match k with
  | 0 => ("OldPot$Stock", "laws", "LOldPot$Laws;", true)
  | 1 => ("OldPot$Stock", "kinds", "[I", true)
  | 2 => ("OldPot$Stock", "strongs", "[I", true)
  | 3 => ("OldPot$Stock", "amounts", "[I", true)
  | 4 => ("OldPot$Stock", "ages", "[I", true)
  | 5 => ("OldPot$Stock", "lawFor", "[I", true)
  | 6 => ("OldPot$Stock", "things", "I", false)
  | 7 => ("OldPot$Stock", "potSize", "I", false)
  | 8 => ("OldPot$Stock", "bowls", "I", false)
  | 9 => ("OldPot$Stock", "day", "I", false)
  | 10 => ("OldPot$Stock", "taken", "I", false)
  | 11 => ("OldPot$Stock", "gone", "I", false)
  | 12 => ("OldPot$Stock", "z", "I", false)
  | _ => ("OldPot$Stock", "texts", "I", false)
def tyX3 : Nat → FieldType := fun k => match k with
  | 0 => .object "OldPot$Laws"
  | 1 => .array .int
  | 2 => .array .int
  | 3 => .array .int
  | 4 => .array .int
  | 5 => .array .int
  | 6 => .int
  | 7 => .int
  | 8 => .int
  | 9 => .int
  | 10 => .int
  | 11 => .int
  | 12 => .int
  | _ => .int
abbrev wsX30 : List Cond := u_ws RX3 TX3 14
theorem nmX3 : ∀ a, a < 14 → ∀ b, b < 14 → a ≠ b → (TX3 a).2.1 ≠ (TX3 b).2.1 := by decide +kernel
theorem tyX3_ok : ∀ k, k < 14 → parseFieldDescriptor (TX3 k).2.2.1 = some (tyX3 k) := by decide +kernel
abbrev cX3_init : ByteArray := prog_5_method_1_code
def yX3_init : MethodName := ⟨RX3, "<init>", "(LOldPot$Laws;)V"⟩
abbrev cX3_become : ByteArray := prog_5_method_2_code
def yX3_become : MethodName := ⟨RX3, "become", "(LOldPot$Stock;)V"⟩
abbrev cX3_has : ByteArray := prog_5_method_3_code
def yX3_has : MethodName := ⟨RX3, "has", "(I)Z"⟩
abbrev cX3_addThing : ByteArray := prog_5_method_4_code
def yX3_addThing : MethodName := ⟨RX3, "addThing", "(III)I"⟩
abbrev cX3_drawThing : ByteArray := prog_5_method_5_code
def yX3_drawThing : MethodName := ⟨RX3, "drawThing", "()V"⟩
abbrev cX3_draw : ByteArray := prog_5_method_6_code
def yX3_draw : MethodName := ⟨RX3, "draw", "()I"⟩
abbrev cX3_throwIn : ByteArray := prog_5_method_7_code
def yX3_throwIn : MethodName := ⟨RX3, "throwIn", "(II)V"⟩
abbrev cX3_resetThing : ByteArray := prog_5_method_8_code
def yX3_resetThing : MethodName := ⟨RX3, "resetThing", "(LOldPot$Stock;I)V"⟩
abbrev cX3_halveAll : ByteArray := prog_5_method_9_code
def yX3_halveAll : MethodName := ⟨RX3, "halveAll", "()V"⟩
abbrev cX3_passDays : ByteArray := prog_5_method_10_code
def yX3_passDays : MethodName := ⟨RX3, "passDays", "(I)V"⟩
abbrev cX3_passDay : ByteArray := prog_5_method_11_code
def yX3_passDay : MethodName := ⟨RX3, "passDay", "()V"⟩
abbrev cX3_passDaysOf : ByteArray := prog_5_method_12_code
def yX3_passDaysOf : MethodName := ⟨RX3, "passDaysOf", "(II)V"⟩
abbrev cX3_passDayOf : ByteArray := prog_5_method_13_code
def yX3_passDayOf : MethodName := ⟨RX3, "passDayOf", "(I)V"⟩
abbrev cX3_wearsOf : ByteArray := prog_5_method_14_code
def yX3_wearsOf : MethodName := ⟨RX3, "wearsOf", "(I)I"⟩
abbrev cX3_wearsAsHerb : ByteArray := prog_5_method_15_code
def yX3_wearsAsHerb : MethodName := ⟨RX3, "wearsAsHerb", "(I)I"⟩
abbrev cX3_tasteOf : ByteArray := prog_5_method_16_code
def yX3_tasteOf : MethodName := ⟨RX3, "tasteOf", "(I)I"⟩
abbrev cX3_tasteAsThing : ByteArray := prog_5_method_17_code
def yX3_tasteAsThing : MethodName := ⟨RX3, "tasteAsThing", "(I)I"⟩
abbrev cX3_tasteAsBone : ByteArray := prog_5_method_18_code
def yX3_tasteAsBone : MethodName := ⟨RX3, "tasteAsBone", "(I)I"⟩
abbrev cX3_tasteAsHerb : ByteArray := prog_5_method_19_code
def yX3_tasteAsHerb : MethodName := ⟨RX3, "tasteAsHerb", "(I)I"⟩
abbrev cX3_billOf : ByteArray := prog_5_method_20_code
def yX3_billOf : MethodName := ⟨RX3, "billOf", "(I)I"⟩
abbrev cX3_shareOf : ByteArray := prog_5_method_21_code
def yX3_shareOf : MethodName := ⟨RX3, "shareOf", "(I)I"⟩
abbrev cX3_tasteOfAll : ByteArray := prog_5_method_22_code
def yX3_tasteOfAll : MethodName := ⟨RX3, "tasteOfAll", "()I"⟩
abbrev cX3_amountOfAll : ByteArray := prog_5_method_23_code
def yX3_amountOfAll : MethodName := ⟨RX3, "amountOfAll", "()I"⟩
def RX4 : String := "OldPot$Tape"
def TX4 : u_T := fun k => match k with
  | 0 => ("OldPot$Tape", "bytes", "[B", true)
  | 1 => ("OldPot$Tape", "steps", "[I", true)
  | 2 => ("OldPot$Tape", "length", "I", false)
  | 3 => ("OldPot$Tape", "ahead", "I", false)
  | 4 => ("OldPot$Tape", "start", "I", false)
  | 5 => ("OldPot$Tape", "end", "I", false)
  | 6 => ("OldPot$Tape", "key", "I", false)
  | 7 => ("OldPot$Tape", "stepCount", "I", false)
  | _ => ("OldPot$Tape", "leafCount", "I", false)
def tyX4 : Nat → FieldType := fun k => match k with
  | 0 => .array .byte
  | 1 => .array .int
  | 2 => .int
  | 3 => .int
  | 4 => .int
  | 5 => .int
  | 6 => .int
  | 7 => .int
  | _ => .int
abbrev wsX40 : List Cond := u_ws RX4 TX4 9
theorem nmX4 : ∀ a, a < 9 → ∀ b, b < 9 → a ≠ b → (TX4 a).2.1 ≠ (TX4 b).2.1 := by decide +kernel
theorem tyX4_ok : ∀ k, k < 9 → parseFieldDescriptor (TX4 k).2.2.1 = some (tyX4 k) := by decide +kernel
abbrev cX4_init : ByteArray := prog_6_method_1_code
def yX4_init : MethodName := ⟨RX4, "<init>", "()V"⟩
abbrev cX4_addNumber : ByteArray := prog_6_method_2_code
def yX4_addNumber : MethodName := ⟨RX4, "addNumber", "(I)V"⟩
abbrev cX4_readText : ByteArray := prog_6_method_3_code
def yX4_readText : MethodName := ⟨RX4, "readText", "()Z"⟩
abbrev cX4_next : ByteArray := prog_6_method_4_code
def yX4_next : MethodName := ⟨RX4, "next", "()V"⟩
abbrev cX4_isLetter : ByteArray := prog_6_method_5_code
def yX4_isLetter : MethodName := ⟨RX4, "isLetter", "(I)Z"⟩
abbrev cX4_isDigit : ByteArray := prog_6_method_6_code
def yX4_isDigit : MethodName := ⟨RX4, "isDigit", "(I)Z"⟩
abbrev cX4_readKey : ByteArray := prog_6_method_7_code
def yX4_readKey : MethodName := ⟨RX4, "readKey", "()Z"⟩
abbrev cX4_keyWord : ByteArray := prog_6_method_8_code
def yX4_keyWord : MethodName := ⟨RX4, "keyWord", "(I)Ljava/lang/String;"⟩
abbrev cX4_namesOf : ByteArray := prog_6_method_9_code
def yX4_namesOf : MethodName := ⟨RX4, "namesOf", "(I)Ljava/lang/String;"⟩
abbrev cX4_isWord : ByteArray := prog_6_method_10_code
def yX4_isWord : MethodName := ⟨RX4, "isWord", "(Ljava/lang/String;)Z"⟩
abbrev cX4_readOr : ByteArray := prog_6_method_11_code
def yX4_readOr : MethodName := ⟨RX4, "readOr", "(II)Z"⟩
abbrev cX4_readAnd : ByteArray := prog_6_method_12_code
def yX4_readAnd : MethodName := ⟨RX4, "readAnd", "(II)Z"⟩
abbrev cX4_readTest : ByteArray := prog_6_method_13_code
def yX4_readTest : MethodName := ⟨RX4, "readTest", "(II)Z"⟩
abbrev cX4_readSum : ByteArray := prog_6_method_14_code
def yX4_readSum : MethodName := ⟨RX4, "readSum", "(II)Z"⟩
abbrev cX4_readTerm : ByteArray := prog_6_method_15_code
def yX4_readTerm : MethodName := ⟨RX4, "readTerm", "(II)Z"⟩
abbrev cX4_readPiece : ByteArray := prog_6_method_16_code
def yX4_readPiece : MethodName := ⟨RX4, "readPiece", "(II)Z"⟩
abbrev cX4_readLeaf : ByteArray := prog_6_method_17_code
def yX4_readLeaf : MethodName := ⟨RX4, "readLeaf", "(I)Z"⟩
abbrev cX4_readNot : ByteArray := prog_6_method_18_code
def yX4_readNot : MethodName := ⟨RX4, "readNot", "(II)Z"⟩
abbrev cX4_readInner : ByteArray := prog_6_method_19_code
def yX4_readInner : MethodName := ⟨RX4, "readInner", "(II)Z"⟩
abbrev cX4_nameAhead : ByteArray := prog_6_method_20_code
def yX4_nameAhead : MethodName := ⟨RX4, "nameAhead", "()I"⟩
abbrev cX4_numberAhead : ByteArray := prog_6_method_21_code
def yX4_numberAhead : MethodName := ⟨RX4, "numberAhead", "()I"⟩
abbrev cX4_emit : ByteArray := prog_6_method_22_code
def yX4_emit : MethodName := ⟨RX4, "emit", "(I)V"⟩
def RX5 : String := "OldPot"
def TX5 : u_T := fun k => match k with
  | 0 => ("OldPot", "laws", "LOldPot$Laws;", true)
  | 1 => ("OldPot", "now", "LOldPot$Stock;", true)
  | 2 => ("OldPot", "image", "LOldPot$Stock;", true)
  | 3 => ("OldPot", "thought", "LOldPot$Stock;", true)
  | 4 => ("OldPot", "trial", "LOldPot$Stock;", true)
  | 5 => ("OldPot", "tape", "LOldPot$Tape;", true)
  | 6 => ("OldPot", "sheets", "[LOldPot$Row;", true)
  | 7 => ("OldPot", "slots", "[LOldPot$Slot;", true)
  | 8 => ("OldPot", "waiting", "[I", true)
  | 9 => ("OldPot", "waitingCount", "I", false)
  | _ => ("OldPot", "imageKept", "Z", false)
def tyX5 : Nat → FieldType := fun k => match k with
  | 0 => .object "OldPot$Laws"
  | 1 => .object "OldPot$Stock"
  | 2 => .object "OldPot$Stock"
  | 3 => .object "OldPot$Stock"
  | 4 => .object "OldPot$Stock"
  | 5 => .object "OldPot$Tape"
  | 6 => .array (.object "OldPot$Row")
  | 7 => .array (.object "OldPot$Slot")
  | 8 => .array .int
  | 9 => .int
  | _ => .boolean
abbrev wsX50 : List Cond := u_ws RX5 TX5 11
theorem nmX5 : ∀ a, a < 11 → ∀ b, b < 11 → a ≠ b → (TX5 a).2.1 ≠ (TX5 b).2.1 := by decide +kernel
theorem tyX5_ok : ∀ k, k < 11 → parseFieldDescriptor (TX5 k).2.2.1 = some (tyX5 k) := by decide +kernel
abbrev cX5_init : ByteArray := prog_1_method_1_code
def yX5_init : MethodName := ⟨RX5, "<init>", "()V"⟩
abbrev cX5_thing : ByteArray := prog_1_method_2_code
def yX5_thing : MethodName := ⟨RX5, "thing", "(II)I"⟩
abbrev cX5_toss : ByteArray := prog_1_method_3_code
def yX5_toss : MethodName := ⟨RX5, "toss", "(II)I"⟩
abbrev cX5_told : ByteArray := prog_1_method_4_code
def yX5_told : MethodName := ⟨RX5, "told", "(II)I"⟩
abbrev cX5_as : ByteArray := prog_1_method_5_code
def yX5_as : MethodName := ⟨RX5, "as", "(II)I"⟩
abbrev cX5_turns : ByteArray := prog_1_method_6_code
def yX5_turns : MethodName := ⟨RX5, "turns", "(II)I"⟩
abbrev cX5_set : ByteArray := prog_1_method_7_code
def yX5_set : MethodName := ⟨RX5, "set", "(III)I"⟩
abbrev cX5_deal : ByteArray := prog_1_method_8_code
def yX5_deal : MethodName := ⟨RX5, "deal", "(I)I"⟩
abbrev cX5_seed : ByteArray := prog_1_method_9_code
def yX5_seed : MethodName := ⟨RX5, "seed", "(I)I"⟩
abbrev cX5_pot : ByteArray := prog_1_method_10_code
def yX5_pot : MethodName := ⟨RX5, "pot", "(II)I"⟩
abbrev cX5_days : ByteArray := prog_1_method_11_code
def yX5_days : MethodName := ⟨RX5, "days", "(I)I"⟩
abbrev cX5_taste : ByteArray := prog_1_method_12_code
def yX5_taste : MethodName := ⟨RX5, "taste", "()I"⟩
abbrev cX5_grams : ByteArray := prog_1_method_13_code
def yX5_grams : MethodName := ⟨RX5, "grams", "(I)I"⟩
abbrev cX5_lot : ByteArray := prog_1_method_14_code
def yX5_lot : MethodName := ⟨RX5, "lot", "()I"⟩
abbrev cX5_behind : ByteArray := prog_1_method_15_code
def yX5_behind : MethodName := ⟨RX5, "behind", "(III)I"⟩
abbrev cX5_tasted : ByteArray := prog_1_method_16_code
def yX5_tasted : MethodName := ⟨RX5, "tasted", "(I)I"⟩
abbrev cX5_steer : ByteArray := prog_1_method_17_code
def yX5_steer : MethodName := ⟨RX5, "steer", "(III)I"⟩
abbrev cX5_tasteTried : ByteArray := prog_1_method_18_code
def yX5_tasteTried : MethodName := ⟨RX5, "tasteTried", "(III)I"⟩
abbrev cX5_leastPot : ByteArray := prog_1_method_19_code
def yX5_leastPot : MethodName := ⟨RX5, "leastPot", "(III)I"⟩
abbrev cX5_nearest : ByteArray := prog_1_method_20_code
def yX5_nearest : MethodName := ⟨RX5, "nearest", "(I)I"⟩
abbrev cX5_thrown : ByteArray := prog_1_method_21_code
def yX5_thrown : MethodName := ⟨RX5, "thrown", "(II)I"⟩
abbrev cX5_gapIfThrown : ByteArray := prog_1_method_22_code
def yX5_gapIfThrown : MethodName := ⟨RX5, "gapIfThrown", "(LOldPot$Row;I)I"⟩
abbrev cX5_halved : ByteArray := prog_1_method_23_code
def yX5_halved : MethodName := ⟨RX5, "halved", "()I"⟩
abbrev cX5_differs : ByteArray := prog_1_method_24_code
def yX5_differs : MethodName := ⟨RX5, "differs", "()I"⟩
abbrev cX5_feed : ByteArray := prog_1_method_25_code
def yX5_feed : MethodName := ⟨RX5, "feed", "(III)I"⟩
abbrev cX5_trim : ByteArray := prog_1_method_26_code
def yX5_trim : MethodName := ⟨RX5, "trim", "(I)I"⟩
abbrev cX5_text : ByteArray := prog_1_method_27_code
def yX5_text : MethodName := ⟨RX5, "text", "()I"⟩
abbrev cX5_textTold : ByteArray := prog_1_method_28_code
def yX5_textTold : MethodName := ⟨RX5, "textTold", "(II)I"⟩
abbrev cX5_why : ByteArray := prog_1_method_29_code
def yX5_why : MethodName := ⟨RX5, "why", "(I)I"⟩
abbrev cX5_sheet : ByteArray := prog_1_method_30_code
def yX5_sheet : MethodName := ⟨RX5, "sheet", "(III)I"⟩
abbrev cX5_mark : ByteArray := prog_1_method_31_code
def yX5_mark : MethodName := ⟨RX5, "mark", "(III)I"⟩
abbrev cX5_pour : ByteArray := prog_1_method_32_code
def yX5_pour : MethodName := ⟨RX5, "pour", "(I)I"⟩
abbrev cX5_reads : ByteArray := prog_1_method_33_code
def yX5_reads : MethodName := ⟨RX5, "reads", "(I)I"⟩
abbrev cX5_copy : ByteArray := prog_1_method_34_code
def yX5_copy : MethodName := ⟨RX5, "copy", "(IIIII)I"⟩
abbrev cX5_lay : ByteArray := prog_1_method_35_code
def yX5_lay : MethodName := ⟨RX5, "lay", "(III)I"⟩
abbrev cX5_ask : ByteArray := prog_1_method_36_code
def yX5_ask : MethodName := ⟨RX5, "ask", "(II)I"⟩
abbrev cX5_item : ByteArray := prog_1_method_37_code
def yX5_item : MethodName := ⟨RX5, "item", "(II)I"⟩
abbrev cX5_rest : ByteArray := prog_1_method_38_code
def yX5_rest : MethodName := ⟨RX5, "rest", "(II)I"⟩
abbrev cX5_tell : ByteArray := prog_1_method_39_code
def yX5_tell : MethodName := ⟨RX5, "tell", "(I)I"⟩
abbrev cX5_check : ByteArray := prog_1_method_40_code
def yX5_check : MethodName := ⟨RX5, "check", "(I)I"⟩
abbrev cX5_firstUntrue : ByteArray := prog_1_method_41_code
def yX5_firstUntrue : MethodName := ⟨RX5, "firstUntrue", "(I)I"⟩
abbrev cX5_waitsAt : ByteArray := prog_1_method_42_code
def yX5_waitsAt : MethodName := ⟨RX5, "waitsAt", "(II)Z"⟩
abbrev cX5_keep : ByteArray := prog_1_method_43_code
def yX5_keep : MethodName := ⟨RX5, "keep", "()I"⟩
abbrev cX5_back : ByteArray := prog_1_method_44_code
def yX5_back : MethodName := ⟨RX5, "back", "()I"⟩
abbrev cX5_count : ByteArray := prog_1_method_45_code
def yX5_count : MethodName := ⟨RX5, "count", "(I)I"⟩
abbrev cX5_within : ByteArray := prog_1_method_46_code
def yX5_within : MethodName := ⟨RX5, "within", "(III)Z"⟩
abbrev cX5_held : ByteArray := prog_1_method_47_code
def yX5_held : MethodName := ⟨RX5, "held", "(II)I"⟩
abbrev cX5_isSheet : ByteArray := prog_1_method_48_code
def yX5_isSheet : MethodName := ⟨RX5, "isSheet", "(I)Z"⟩
abbrev cX5_isSlot : ByteArray := prog_1_method_49_code
def yX5_isSlot : MethodName := ⟨RX5, "isSlot", "(I)Z"⟩
abbrev cX5_exchange : ByteArray := prog_1_method_50_code
def yX5_exchange : MethodName := ⟨RX5, "exchange", "([III)I"⟩
abbrev cX5_isOfKind : ByteArray := prog_1_method_51_code
def yX5_isOfKind : MethodName := ⟨RX5, "isOfKind", "(II)Z"⟩
abbrev cX5_worthOf : ByteArray := prog_1_method_52_code
def yX5_worthOf : MethodName := ⟨RX5, "worthOf", "(II)I"⟩
def RX6 : String := "OldPotModel"
def TX6 : u_T := fun k => match k with
  | 0 => ("OldPotModel", "now", "[I", true)
  | 1 => ("OldPotModel", "image", "[I", true)
  | 2 => ("OldPotModel", "aside", "[I", true)
  | 3 => ("OldPotModel", "hasImage", "Z", false)
  | 4 => ("OldPotModel", "before", "[I", true)
  | 5 => ("OldPotModel", "best", "[I", true)
  | 6 => ("OldPotModel", "tastes", "[I", true)
  | 7 => ("OldPotModel", "tape", "[I", true)
  | 8 => ("OldPotModel", "taped", "I", false)
  | 9 => ("OldPotModel", "next", "I", false)
  | 10 => ("OldPotModel", "from", "I", false)
  | 11 => ("OldPotModel", "token", "I", false)
  | 12 => ("OldPotModel", "value", "I", false)
  | 13 => ("OldPotModel", "ended", "I", false)
  | 14 => ("OldPotModel", "key", "I", false)
  | 15 => ("OldPotModel", "keys", "[C", true)
  | 16 => ("OldPotModel", "keyAt", "[I", true)
  | 17 => ("OldPotModel", "code", "[I", true)
  | 18 => ("OldPotModel", "codes", "I", false)
  | 19 => ("OldPotModel", "atoms", "I", false)
  | 20 => ("OldPotModel", "waits", "[I", true)
  | 21 => ("OldPotModel", "held", "I", false)
  | 22 => ("OldPotModel", "tested", "[Z", true)
  | 23 => ("OldPotModel", "stack", "[I", true)
  | 24 => ("OldPotModel", "facts", "[I", true)
  | 25 => ("OldPotModel", "sorts", "[I", true)
  | 26 => ("OldPotModel", "sizes", "[I", true)
  | 27 => ("OldPotModel", "cells", "[I", true)
  | 28 => ("OldPotModel", "holds", "[I", true)
  | 29 => ("OldPotModel", "holdsA", "[I", true)
  | 30 => ("OldPotModel", "holdsB", "[I", true)
  | 31 => ("OldPotModel", "heldCells", "[I", true)
  | 32 => ("OldPotModel", "moved", "[I", true)
  | 33 => ("OldPotModel", "tells", "[I", true)
  | _ => ("OldPotModel", "waiting", "I", false)
def tyX6 : Nat → FieldType := fun k => match k with
  | 0 => .array .int
  | 1 => .array .int
  | 2 => .array .int
  | 3 => .boolean
  | 4 => .array .int
  | 5 => .array .int
  | 6 => .array .int
  | 7 => .array .int
  | 8 => .int
  | 9 => .int
  | 10 => .int
  | 11 => .int
  | 12 => .int
  | 13 => .int
  | 14 => .int
  | 15 => .array .char
  | 16 => .array .int
  | 17 => .array .int
  | 18 => .int
  | 19 => .int
  | 20 => .array .int
  | 21 => .int
  | 22 => .array .boolean
  | 23 => .array .int
  | 24 => .array .int
  | 25 => .array .int
  | 26 => .array .int
  | 27 => .array .int
  | 28 => .array .int
  | 29 => .array .int
  | 30 => .array .int
  | 31 => .array .int
  | 32 => .array .int
  | 33 => .array .int
  | _ => .int
abbrev wsX60 : List Cond := u_ws RX6 TX6 35
theorem nmX6 : ∀ a, a < 35 → ∀ b, b < 35 → a ≠ b → (TX6 a).2.1 ≠ (TX6 b).2.1 := by decide +kernel
theorem tyX6_ok : ∀ k, k < 35 → parseFieldDescriptor (TX6 k).2.2.1 = some (tyX6 k) := by decide +kernel
abbrev cX6_init : ByteArray := prog_8_method_1_code
def yX6_init : MethodName := ⟨RX6, "<init>", "()V"⟩
abbrev cX6_in : ByteArray := prog_8_method_2_code
def yX6_in : MethodName := ⟨RX6, "in", "(III)Z"⟩
abbrev cX6_within : ByteArray := prog_8_method_3_code
def yX6_within : MethodName := ⟨RX6, "within", "(III)I"⟩
abbrev cX6_copyAll : ByteArray := prog_8_method_4_code
def yX6_copyAll : MethodName := ⟨RX6, "copyAll", "([I[I)V"⟩
abbrev cX6_off : ByteArray := prog_8_method_6_code
def yX6_off : MethodName := ⟨RX6, "off", "(II)I"⟩
abbrev cX6_isThing : ByteArray := prog_8_method_7_code
def yX6_isThing : MethodName := ⟨RX6, "isThing", "(I)Z"⟩
abbrev cX6_of : ByteArray := prog_8_method_8_code
def yX6_of : MethodName := ⟨RX6, "of", "(II)I"⟩
abbrev cX6_put : ByteArray := prog_8_method_9_code
def yX6_put : MethodName := ⟨RX6, "put", "(III)V"⟩
abbrev cX6_becomes : ByteArray := prog_8_method_10_code
def yX6_becomes : MethodName := ⟨RX6, "becomes", "(II)I"⟩
abbrev cX6_comes : ByteArray := prog_8_method_11_code
def yX6_comes : MethodName := ⟨RX6, "comes", "(III)I"⟩
abbrev cX6_thing : ByteArray := prog_8_method_12_code
def yX6_thing : MethodName := ⟨RX6, "thing", "(II)I"⟩
abbrev cX6_tosses : ByteArray := prog_8_method_13_code
def yX6_tosses : MethodName := ⟨RX6, "tosses", "(II)V"⟩
abbrev cX6_toss : ByteArray := prog_8_method_14_code
def yX6_toss : MethodName := ⟨RX6, "toss", "(II)I"⟩
abbrev cX6_fadesBy : ByteArray := prog_8_method_15_code
def yX6_fadesBy : MethodName := ⟨RX6, "fadesBy", "(II)I"⟩
abbrev cX6_tasteOf : ByteArray := prog_8_method_16_code
def yX6_tasteOf : MethodName := ⟨RX6, "tasteOf", "(I)I"⟩
abbrev cX6_wearsOf : ByteArray := prog_8_method_17_code
def yX6_wearsOf : MethodName := ⟨RX6, "wearsOf", "(I)I"⟩
abbrev cX6_worthOf : ByteArray := prog_8_method_18_code
def yX6_worthOf : MethodName := ⟨RX6, "worthOf", "(I)I"⟩
abbrev cX6_amountAll : ByteArray := prog_8_method_19_code
def yX6_amountAll : MethodName := ⟨RX6, "amountAll", "()I"⟩
abbrev cX6_billOf : ByteArray := prog_8_method_20_code
def yX6_billOf : MethodName := ⟨RX6, "billOf", "(I)I"⟩
abbrev cX6_shareOf : ByteArray := prog_8_method_21_code
def yX6_shareOf : MethodName := ⟨RX6, "shareOf", "(I)I"⟩
abbrev cX6_told : ByteArray := prog_8_method_22_code
def yX6_told : MethodName := ⟨RX6, "told", "(II)I"⟩
abbrev cX6_isUnder : ByteArray := prog_8_method_23_code
def yX6_isUnder : MethodName := ⟨RX6, "isUnder", "(II)Z"⟩
abbrev cX6_as : ByteArray := prog_8_method_24_code
def yX6_as : MethodName := ⟨RX6, "as", "(II)I"⟩
abbrev cX6_turns : ByteArray := prog_8_method_25_code
def yX6_turns : MethodName := ⟨RX6, "turns", "(II)I"⟩
abbrev cX6_set : ByteArray := prog_8_method_26_code
def yX6_set : MethodName := ⟨RX6, "set", "(III)I"⟩
abbrev cX6_draw : ByteArray := prog_8_method_27_code
def yX6_draw : MethodName := ⟨RX6, "draw", "()I"⟩
abbrev cX6_deal : ByteArray := prog_8_method_28_code
def yX6_deal : MethodName := ⟨RX6, "deal", "(I)I"⟩
abbrev cX6_seed : ByteArray := prog_8_method_29_code
def yX6_seed : MethodName := ⟨RX6, "seed", "(I)I"⟩
abbrev cX6_pot : ByteArray := prog_8_method_30_code
def yX6_pot : MethodName := ⟨RX6, "pot", "(II)I"⟩
abbrev cX6_tasteAll : ByteArray := prog_8_method_31_code
def yX6_tasteAll : MethodName := ⟨RX6, "tasteAll", "()I"⟩
abbrev cX6_day : ByteArray := prog_8_method_32_code
def yX6_day : MethodName := ⟨RX6, "day", "()V"⟩
abbrev cX6_goesOn : ByteArray := prog_8_method_33_code
def yX6_goesOn : MethodName := ⟨RX6, "goesOn", "(I)V"⟩
abbrev cX6_days : ByteArray := prog_8_method_34_code
def yX6_days : MethodName := ⟨RX6, "days", "(I)I"⟩
abbrev cX6_taste : ByteArray := prog_8_method_35_code
def yX6_taste : MethodName := ⟨RX6, "taste", "()I"⟩
abbrev cX6_grams : ByteArray := prog_8_method_36_code
def yX6_grams : MethodName := ⟨RX6, "grams", "(I)I"⟩
abbrev cX6_lot : ByteArray := prog_8_method_37_code
def yX6_lot : MethodName := ⟨RX6, "lot", "()I"⟩
abbrev cX6_thinks : ByteArray := prog_8_method_38_code
def yX6_thinks : MethodName := ⟨RX6, "thinks", "()V"⟩
abbrev cX6_putsBack : ByteArray := prog_8_method_39_code
def yX6_putsBack : MethodName := ⟨RX6, "putsBack", "()V"⟩
abbrev cX6_behind : ByteArray := prog_8_method_40_code
def yX6_behind : MethodName := ⟨RX6, "behind", "(III)I"⟩
abbrev cX6_tasted : ByteArray := prog_8_method_41_code
def yX6_tasted : MethodName := ⟨RX6, "tasted", "(I)I"⟩
abbrev cX6_findSteer : ByteArray := prog_8_method_42_code
def yX6_findSteer : MethodName := ⟨RX6, "findSteer", "(II)V"⟩
abbrev cX6_steer : ByteArray := prog_8_method_43_code
def yX6_steer : MethodName := ⟨RX6, "steer", "(III)I"⟩
abbrev cX6_leastPot : ByteArray := prog_8_method_44_code
def yX6_leastPot : MethodName := ⟨RX6, "leastPot", "(III)I"⟩
abbrev cX6_nearest : ByteArray := prog_8_method_45_code
def yX6_nearest : MethodName := ⟨RX6, "nearest", "(I)I"⟩
abbrev cX6_offBy : ByteArray := prog_8_method_46_code
def yX6_offBy : MethodName := ⟨RX6, "offBy", "(II)J"⟩
abbrev cX6_thrown : ByteArray := prog_8_method_47_code
def yX6_thrown : MethodName := ⟨RX6, "thrown", "(II)I"⟩
abbrev cX6_halved : ByteArray := prog_8_method_48_code
def yX6_halved : MethodName := ⟨RX6, "halved", "()I"⟩
abbrev cX6_differs : ByteArray := prog_8_method_49_code
def yX6_differs : MethodName := ⟨RX6, "differs", "()I"⟩
abbrev cX6_feed : ByteArray := prog_8_method_50_code
def yX6_feed : MethodName := ⟨RX6, "feed", "(III)I"⟩
abbrev cX6_trim : ByteArray := prog_8_method_51_code
def yX6_trim : MethodName := ⟨RX6, "trim", "(I)I"⟩
abbrev cX6_isLetter : ByteArray := prog_8_method_52_code
def yX6_isLetter : MethodName := ⟨RX6, "isLetter", "(I)Z"⟩
abbrev cX6_isFigure : ByteArray := prog_8_method_53_code
def yX6_isFigure : MethodName := ⟨RX6, "isFigure", "(I)Z"⟩
abbrev cX6_go : ByteArray := prog_8_method_54_code
def yX6_go : MethodName := ⟨RX6, "go", "()V"⟩
abbrev cX6_takesKey : ByteArray := prog_8_method_55_code
def yX6_takesKey : MethodName := ⟨RX6, "takesKey", "()Z"⟩
abbrev cX6_nameOf : ByteArray := prog_8_method_56_code
def yX6_nameOf : MethodName := ⟨RX6, "nameOf", "(I)I"⟩
abbrev cX6_rank : ByteArray := prog_8_method_57_code
def yX6_rank : MethodName := ⟨RX6, "rank", "(I)I"⟩
abbrev cX6_settle : ByteArray := prog_8_method_58_code
def yX6_settle : MethodName := ⟨RX6, "settle", "(I)V"⟩
abbrev cX6_signHere : ByteArray := prog_8_method_59_code
def yX6_signHere : MethodName := ⟨RX6, "signHere", "()I"⟩
abbrev cX6_takesPart : ByteArray := prog_8_method_60_code
def yX6_takesPart : MethodName := ⟨RX6, "takesPart", "()Z"⟩
abbrev cX6_takesE : ByteArray := prog_8_method_61_code
def yX6_takesE : MethodName := ⟨RX6, "takesE", "()Z"⟩
abbrev cX6_notsOpen : ByteArray := prog_8_method_62_code
def yX6_notsOpen : MethodName := ⟨RX6, "notsOpen", "()I"⟩
abbrev cX6_text : ByteArray := prog_8_method_63_code
def yX6_text : MethodName := ⟨RX6, "text", "()I"⟩
abbrev cX6_textTold : ByteArray := prog_8_method_64_code
def yX6_textTold : MethodName := ⟨RX6, "textTold", "(II)I"⟩
abbrev cX6_counts : ByteArray := prog_8_method_65_code
def yX6_counts : MethodName := ⟨RX6, "counts", "(I)I"⟩
abbrev cX6_why : ByteArray := prog_8_method_66_code
def yX6_why : MethodName := ⟨RX6, "why", "(I)I"⟩
abbrev cX6_two : ByteArray := prog_8_method_67_code
def yX6_two : MethodName := ⟨RX6, "two", "(III)I"⟩
abbrev cX6_worksOut : ByteArray := prog_8_method_68_code
def yX6_worksOut : MethodName := ⟨RX6, "worksOut", "(I)I"⟩
abbrev cX6_isSheet : ByteArray := prog_8_method_69_code
def yX6_isSheet : MethodName := ⟨RX6, "isSheet", "(I)Z"⟩
abbrev cX6_isSlot : ByteArray := prog_8_method_70_code
def yX6_isSlot : MethodName := ⟨RX6, "isSlot", "(I)Z"⟩
abbrev cX6_sheet : ByteArray := prog_8_method_71_code
def yX6_sheet : MethodName := ⟨RX6, "sheet", "(III)I"⟩
abbrev cX6_mark : ByteArray := prog_8_method_72_code
def yX6_mark : MethodName := ⟨RX6, "mark", "(III)I"⟩
abbrev cX6_pour : ByteArray := prog_8_method_73_code
def yX6_pour : MethodName := ⟨RX6, "pour", "(I)I"⟩
abbrev cX6_reads : ByteArray := prog_8_method_74_code
def yX6_reads : MethodName := ⟨RX6, "reads", "(I)I"⟩
abbrev cX6_copy : ByteArray := prog_8_method_75_code
def yX6_copy : MethodName := ⟨RX6, "copy", "(IIIII)I"⟩
abbrev cX6_lay : ByteArray := prog_8_method_76_code
def yX6_lay : MethodName := ⟨RX6, "lay", "(III)I"⟩
abbrev cX6_ask : ByteArray := prog_8_method_77_code
def yX6_ask : MethodName := ⟨RX6, "ask", "(II)I"⟩
abbrev cX6_item : ByteArray := prog_8_method_78_code
def yX6_item : MethodName := ⟨RX6, "item", "(II)I"⟩
abbrev cX6_rest : ByteArray := prog_8_method_79_code
def yX6_rest : MethodName := ⟨RX6, "rest", "(II)I"⟩
abbrev cX6_tell : ByteArray := prog_8_method_80_code
def yX6_tell : MethodName := ⟨RX6, "tell", "(I)I"⟩
abbrev cX6_check : ByteArray := prog_8_method_81_code
def yX6_check : MethodName := ⟨RX6, "check", "(I)I"⟩
abbrev cX6_keep : ByteArray := prog_8_method_82_code
def yX6_keep : MethodName := ⟨RX6, "keep", "()I"⟩
abbrev cX6_back : ByteArray := prog_8_method_83_code
def yX6_back : MethodName := ⟨RX6, "back", "()I"⟩
abbrev cX6_count : ByteArray := prog_8_method_84_code
def yX6_count : MethodName := ⟨RX6, "count", "(I)I"⟩
def RJ11 : String := "java/lang/Character"
def TJ11 : u_T := fun k => match k with
  | _ => ("", "", "", false)
def tyJ11 : Nat → FieldType := fun k => match k with
  | _ => .int
abbrev wsJ110 : List Cond := u_ws RJ11 TJ11 0
theorem nmJ11 : ∀ a, a < 0 → ∀ b, b < 0 → a ≠ b → (TJ11 a).2.1 ≠ (TJ11 b).2.1 := by decide +kernel
theorem tyJ11_ok : ∀ k, k < 0 → parseFieldDescriptor (TJ11 k).2.2.1 = some (tyJ11 k) := by decide +kernel
abbrev cJ11_isValidCodePoint_9a6ad : ByteArray := prog_9_method_11_code
def yJ11_isValidCodePoint_9a6ad : MethodName := ⟨RJ11, "isValidCodePoint", "(I)Z"⟩
abbrev cJ11_highSurrogate_5068e : ByteArray := prog_9_method_28_code
def yJ11_highSurrogate_5068e : MethodName := ⟨RJ11, "highSurrogate", "(I)C"⟩
abbrev cJ11_lowSurrogate_5068e : ByteArray := prog_9_method_29_code
def yJ11_lowSurrogate_5068e : MethodName := ⟨RJ11, "lowSurrogate", "(I)C"⟩
def RJ9 : String := "java/lang/Math"
def TJ9 : u_T := fun k => match k with
  | _ => ("", "", "", false)
def tyJ9 : Nat → FieldType := fun k => match k with
  | _ => .int
abbrev wsJ90 : List Cond := u_ws RJ9 TJ9 0
theorem nmJ9 : ∀ a, a < 0 → ∀ b, b < 0 → a ≠ b → (TJ9 a).2.1 ≠ (TJ9 b).2.1 := by decide +kernel
theorem tyJ9_ok : ∀ k, k < 0 → parseFieldDescriptor (TJ9 k).2.2.1 = some (tyJ9 k) := by decide +kernel
abbrev cJ9_abs_0f7a4 : ByteArray := prog_10_method_59_code
def yJ9_abs_0f7a4 : MethodName := ⟨RJ9, "abs", "(I)I"⟩
abbrev cJ9_max_7cf53 : ByteArray := prog_10_method_65_code
def yJ9_max_7cf53 : MethodName := ⟨RJ9, "max", "(II)I"⟩
abbrev cJ9_min_7cf53 : ByteArray := prog_10_method_69_code
def yJ9_min_7cf53 : MethodName := ⟨RJ9, "min", "(II)I"⟩
def RJ0 : String := "java/lang/String"
def TJ0 : u_T := fun k => match k with
  | _ => ("", "", "", false)
def tyJ0 : Nat → FieldType := fun k => match k with
  | _ => .int
abbrev wsJ00 : List Cond := u_ws RJ0 TJ0 0
theorem nmJ0 : ∀ a, a < 0 → ∀ b, b < 0 → a ≠ b → (TJ0 a).2.1 ≠ (TJ0 b).2.1 := by decide +kernel
theorem tyJ0_ok : ∀ k, k < 0 → parseFieldDescriptor (TJ0 k).2.2.1 = some (tyJ0 k) := by decide +kernel
abbrev cJ0_length_8abf5 : ByteArray := prog_11_method_54_code
def yJ0_length_8abf5 : MethodName := ⟨RJ0, "length", "()I"⟩
abbrev cJ0_charAt_5068e : ByteArray := prog_11_method_56_code
def yJ0_charAt_5068e : MethodName := ⟨RJ0, "charAt", "(I)C"⟩
abbrev cJ0_indexOf_0f7a4 : ByteArray := prog_11_method_79_code
def yJ0_indexOf_0f7a4 : MethodName := ⟨RJ0, "indexOf", "(I)I"⟩
abbrev cJ0_indexOf_7cf53 : ByteArray := prog_11_method_80_code
def yJ0_indexOf_7cf53 : MethodName := ⟨RJ0, "indexOf", "(II)I"⟩
abbrev cJ0_coder_7d493 : ByteArray := prog_11_method_152_code
def yJ0_coder_7d493 : MethodName := ⟨RJ0, "coder", "()B"⟩
abbrev cJ0_isLatin1_aae02 : ByteArray := prog_11_method_154_code
def yJ0_isLatin1_aae02 : MethodName := ⟨RJ0, "isLatin1", "()Z"⟩
abbrev cJ0_checkIndex_df160 : ByteArray := prog_11_method_155_code
def yJ0_checkIndex_df160 : MethodName := ⟨RJ0, "checkIndex", "(II)V"⟩
abbrev cJ0_checkBoundsBeginEnd_23922 : ByteArray := prog_11_method_158_code
def yJ0_checkBoundsBeginEnd_23922 : MethodName := ⟨RJ0, "checkBoundsBeginEnd", "(III)V"⟩
def RJ1 : String := "java/lang/StringLatin1"
def TJ1 : u_T := fun k => match k with
  | _ => ("", "", "", false)
def tyJ1 : Nat → FieldType := fun k => match k with
  | _ => .int
abbrev wsJ10 : List Cond := u_ws RJ1 TJ1 0
theorem nmJ1 : ∀ a, a < 0 → ∀ b, b < 0 → a ≠ b → (TJ1 a).2.1 ≠ (TJ1 b).2.1 := by decide +kernel
theorem tyJ1_ok : ∀ k, k < 0 → parseFieldDescriptor (TJ1 k).2.2.1 = some (tyJ1 k) := by decide +kernel
abbrev cJ1_charAt_3b067 : ByteArray := prog_12_method_2_code
def yJ1_charAt_3b067 : MethodName := ⟨RJ1, "charAt", "([BI)C"⟩
abbrev cJ1_canEncode_9a6ad : ByteArray := prog_12_method_4_code
def yJ1_canEncode_9a6ad : MethodName := ⟨RJ1, "canEncode", "(I)Z"⟩
abbrev cJ1_indexOf_4cfef : ByteArray := prog_12_method_22_code
def yJ1_indexOf_4cfef : MethodName := ⟨RJ1, "indexOf", "([BIII)I"⟩
abbrev cJ1_indexOfChar_4cfef : ByteArray := prog_12_method_23_code
def yJ1_indexOfChar_4cfef : MethodName := ⟨RJ1, "indexOfChar", "([BIII)I"⟩
def RJ2 : String := "java/lang/StringUTF16"
def TJ2 : u_T := fun k => match k with
  | _ => ("", "", "", false)
def tyJ2 : Nat → FieldType := fun k => match k with
  | _ => .int
abbrev wsJ20 : List Cond := u_ws RJ2 TJ2 0
theorem nmJ2 : ∀ a, a < 0 → ∀ b, b < 0 → a ≠ b → (TJ2 a).2.1 ≠ (TJ2 b).2.1 := by decide +kernel
theorem tyJ2_ok : ∀ k, k < 0 → parseFieldDescriptor (TJ2 k).2.2.1 = some (tyJ2 k) := by decide +kernel
abbrev cJ2_getChar_3b067 : ByteArray := prog_13_method_5_code
def yJ2_getChar_3b067 : MethodName := ⟨RJ2, "getChar", "([BI)C"⟩
abbrev cJ2_length_9d52b : ByteArray := prog_13_method_6_code
def yJ2_length_9d52b : MethodName := ⟨RJ2, "length", "([B)I"⟩
abbrev cJ2_indexOf_4cfef : ByteArray := prog_13_method_40_code
def yJ2_indexOf_4cfef : MethodName := ⟨RJ2, "indexOf", "([BIII)I"⟩
abbrev cJ2_indexOfChar_4cfef : ByteArray := prog_13_method_47_code
def yJ2_indexOfChar_4cfef : MethodName := ⟨RJ2, "indexOfChar", "([BIII)I"⟩
abbrev cJ2_indexOfCharUnsafe_4cfef : ByteArray := prog_13_method_48_code
def yJ2_indexOfCharUnsafe_4cfef : MethodName := ⟨RJ2, "indexOfCharUnsafe", "([BIII)I"⟩
abbrev cJ2_indexOfSupplementary_4cfef : ByteArray := prog_13_method_49_code
def yJ2_indexOfSupplementary_4cfef : MethodName := ⟨RJ2, "indexOfSupplementary", "([BIII)I"⟩
abbrev cJ2_charAt_3b067 : ByteArray := prog_13_method_83_code
def yJ2_charAt_3b067 : MethodName := ⟨RJ2, "charAt", "([BI)C"⟩
abbrev cJ2_checkIndex_2214a : ByteArray := prog_13_method_91_code
def yJ2_checkIndex_2214a : MethodName := ⟨RJ2, "checkIndex", "(I[B)V"⟩
abbrev cJ2_checkBoundsBeginEnd_d044e : ByteArray := prog_13_method_93_code
def yJ2_checkBoundsBeginEnd_d044e : MethodName := ⟨RJ2, "checkBoundsBeginEnd", "(II[B)V"⟩
def RJ10 : String := "java/lang/System"
def TJ10 : u_T := fun k => match k with
  | _ => ("", "", "", false)
def tyJ10 : Nat → FieldType := fun k => match k with
  | _ => .int
abbrev wsJ100 : List Cond := u_ws RJ10 TJ10 0
theorem nmJ10 : ∀ a, a < 0 → ∀ b, b < 0 → a ≠ b → (TJ10 a).2.1 ≠ (TJ10 b).2.1 := by decide +kernel
theorem tyJ10_ok : ∀ k, k < 0 → parseFieldDescriptor (TJ10 k).2.2.1 = some (tyJ10 k) := by decide +kernel
def RJ3 : String := "jdk/internal/util/Preconditions"
def TJ3 : u_T := fun k => match k with
  | _ => ("", "", "", false)
def tyJ3 : Nat → FieldType := fun k => match k with
  | _ => .int
abbrev wsJ30 : List Cond := u_ws RJ3 TJ3 0
theorem nmJ3 : ∀ a, a < 0 → ∀ b, b < 0 → a ≠ b → (TJ3 a).2.1 ≠ (TJ3 b).2.1 := by decide +kernel
theorem tyJ3_ok : ∀ k, k < 0 → parseFieldDescriptor (TJ3 k).2.2.1 = some (tyJ3 k) := by decide +kernel
abbrev cJ3_checkIndex_8e157 : ByteArray := prog_15_method_11_code
def yJ3_checkIndex_8e157 : MethodName := ⟨RJ3, "checkIndex", "(IILjava/util/function/BiFunction;)I"⟩
abbrev cJ3_checkFromToIndex_8c36e : ByteArray := prog_15_method_12_code
def yJ3_checkFromToIndex_8c36e : MethodName := ⟨RJ3, "checkFromToIndex", "(IIILjava/util/function/BiFunction;)I"⟩
def RL : String := "OldPotLaw"
abbrev cL_law : ByteArray := code
def yL_law : MethodName := ⟨RL, "law", "([I)Z"⟩
abbrev vwCl : List vw_C := [(RX0, TX0, 5), (RX1, TX1, 3), (RX2, TX2, 5), (RX3, TX3, 14), (RX4, TX4, 9), (RX5, TX5, 11), (RX6, TX6, 35)]
end
section
theorem dX0_init_0 : decode cX0_init 0 = .ok (.aload_n 0, 1) := by decide +kernel
theorem dX0_init_1 : decode cX0_init 1 = .ok (.invokespecial 3, 3) := by decide +kernel
theorem dX0_init_4 : decode cX0_init 4 = .ok (.aload_n 0, 1) := by decide +kernel
theorem dX0_init_5 : decode cX0_init 5 = .ok (.bipush 14, 2) := by decide +kernel
theorem dX0_init_7 : decode cX0_init 7 = .ok (.bipush 96, 2) := by decide +kernel
theorem dX0_init_9 : decode cX0_init 9 = .ok (.multianewarray 9 2, 4) := by decide +kernel
theorem dX0_init_13 : decode cX0_init 13 = .ok (.putfield 11, 3) := by decide +kernel
theorem dX0_init_16 : decode cX0_init 16 = .ok (.aload_n 0, 1) := by decide +kernel
theorem dX0_init_17 : decode cX0_init 17 = .ok (.bipush 14, 2) := by decide +kernel
theorem dX0_init_19 : decode cX0_init 19 = .ok (.newarray .int, 2) := by decide +kernel
theorem dX0_init_21 : decode cX0_init 21 = .ok (.putfield 16, 3) := by decide +kernel
theorem dX0_init_24 : decode cX0_init 24 = .ok (.aload_n 0, 1) := by decide +kernel
theorem dX0_init_25 : decode cX0_init 25 = .ok (.bipush 14, 2) := by decide +kernel
theorem dX0_init_27 : decode cX0_init 27 = .ok (.newarray .int, 2) := by decide +kernel
theorem dX0_init_29 : decode cX0_init 29 = .ok (.putfield 20, 3) := by decide +kernel
theorem dX0_init_32 : decode cX0_init 32 = .ok (.aload_n 0, 1) := by decide +kernel
theorem dX0_init_33 : decode cX0_init 33 = .ok (.bipush 14, 2) := by decide +kernel
theorem dX0_init_35 : decode cX0_init 35 = .ok (.newarray .int, 2) := by decide +kernel
theorem dX0_init_37 : decode cX0_init 37 = .ok (.putfield 23, 3) := by decide +kernel
theorem dX0_init_40 : decode cX0_init 40 = .ok (.aload_n 0, 1) := by decide +kernel
theorem dX0_init_41 : decode cX0_init 41 = .ok (.bipush 96, 2) := by decide +kernel
theorem dX0_init_43 : decode cX0_init 43 = .ok (.newarray .int, 2) := by decide +kernel
theorem dX0_init_45 : decode cX0_init 45 = .ok (.putfield 26, 3) := by decide +kernel
theorem dX0_init_48 : decode cX0_init 48 = .ok (.return_, 1) := by decide +kernel
theorem dX0_write_0 : decode cX0_write 0 = .ok (.aload_n 2, 1) := by decide +kernel
theorem dX0_write_1 : decode cX0_write 1 = .ok (.getfield 29, 3) := by decide +kernel
theorem dX0_write_4 : decode cX0_write 4 = .ok (.iconst 0, 1) := by decide +kernel
theorem dX0_write_5 : decode cX0_write 5 = .ok (.aload_n 0, 1) := by decide +kernel
theorem dX0_write_6 : decode cX0_write 6 = .ok (.getfield 11, 3) := by decide +kernel
theorem dX0_write_9 : decode cX0_write 9 = .ok (.iload_n 1, 1) := by decide +kernel
theorem dX0_write_10 : decode cX0_write 10 = .ok (.aaload, 1) := by decide +kernel
theorem dX0_write_11 : decode cX0_write 11 = .ok (.iconst 0, 1) := by decide +kernel
theorem dX0_write_12 : decode cX0_write 12 = .ok (.aload_n 2, 1) := by decide +kernel
theorem dX0_write_13 : decode cX0_write 13 = .ok (.getfield 33, 3) := by decide +kernel
theorem dX0_write_16 : decode cX0_write 16 = .ok (.invokestatic 37, 3) := by decide +kernel
theorem dX0_write_19 : decode cX0_write 19 = .ok (.aload_n 0, 1) := by decide +kernel
theorem dX0_write_20 : decode cX0_write 20 = .ok (.getfield 16, 3) := by decide +kernel
theorem dX0_write_23 : decode cX0_write 23 = .ok (.iload_n 1, 1) := by decide +kernel
theorem dX0_write_24 : decode cX0_write 24 = .ok (.aload_n 2, 1) := by decide +kernel
theorem dX0_write_25 : decode cX0_write 25 = .ok (.getfield 33, 3) := by decide +kernel
theorem dX0_write_28 : decode cX0_write 28 = .ok (.iastore, 1) := by decide +kernel
theorem dX0_write_29 : decode cX0_write 29 = .ok (.aload_n 0, 1) := by decide +kernel
theorem dX0_write_30 : decode cX0_write 30 = .ok (.getfield 20, 3) := by decide +kernel
theorem dX0_write_33 : decode cX0_write 33 = .ok (.iload_n 1, 1) := by decide +kernel
theorem dX0_write_34 : decode cX0_write 34 = .ok (.aload_n 2, 1) := by decide +kernel
theorem dX0_write_35 : decode cX0_write 35 = .ok (.getfield 43, 3) := by decide +kernel
theorem dX0_write_38 : decode cX0_write 38 = .ok (.iastore, 1) := by decide +kernel
theorem dX0_write_39 : decode cX0_write 39 = .ok (.aload_n 0, 1) := by decide +kernel
theorem dX0_write_40 : decode cX0_write 40 = .ok (.getfield 23, 3) := by decide +kernel
theorem dX0_write_43 : decode cX0_write 43 = .ok (.iload_n 1, 1) := by decide +kernel
theorem dX0_write_44 : decode cX0_write 44 = .ok (.aload_n 2, 1) := by decide +kernel
theorem dX0_write_45 : decode cX0_write 45 = .ok (.getfield 46, 3) := by decide +kernel
theorem dX0_write_48 : decode cX0_write 48 = .ok (.iastore, 1) := by decide +kernel
theorem dX0_write_49 : decode cX0_write 49 = .ok (.return_, 1) := by decide +kernel
theorem dX0_workOut_0 : decode cX0_workOut 0 = .ok (.aload_n 0, 1) := by decide +kernel
theorem dX0_workOut_1 : decode cX0_workOut 1 = .ok (.getfield 11, 3) := by decide +kernel
theorem dX0_workOut_4 : decode cX0_workOut 4 = .ok (.iload_n 1, 1) := by decide +kernel
theorem dX0_workOut_5 : decode cX0_workOut 5 = .ok (.aaload, 1) := by decide +kernel
theorem dX0_workOut_6 : decode cX0_workOut 6 = .ok (.astore 5, 2) := by decide +kernel
theorem dX0_workOut_8 : decode cX0_workOut 8 = .ok (.iconst 0, 1) := by decide +kernel
theorem dX0_workOut_9 : decode cX0_workOut 9 = .ok (.istore 6, 2) := by decide +kernel
theorem dX0_workOut_11 : decode cX0_workOut 11 = .ok (.aload_n 0, 1) := by decide +kernel
theorem dX0_workOut_12 : decode cX0_workOut 12 = .ok (.getfield 26, 3) := by decide +kernel
theorem dX0_workOut_15 : decode cX0_workOut 15 = .ok (.iconst 0, 1) := by decide +kernel
theorem dX0_workOut_16 : decode cX0_workOut 16 = .ok (.iconst 0, 1) := by decide +kernel
theorem dX0_workOut_17 : decode cX0_workOut 17 = .ok (.iastore, 1) := by decide +kernel
theorem dX0_workOut_18 : decode cX0_workOut 18 = .ok (.iconst 0, 1) := by decide +kernel
theorem dX0_workOut_19 : decode cX0_workOut 19 = .ok (.istore 7, 2) := by decide +kernel
theorem dX0_workOut_21 : decode cX0_workOut 21 = .ok (.iload 7, 2) := by decide +kernel
theorem dX0_workOut_23 : decode cX0_workOut 23 = .ok (.aload_n 0, 1) := by decide +kernel
theorem dX0_workOut_24 : decode cX0_workOut 24 = .ok (.getfield 16, 3) := by decide +kernel
theorem dX0_workOut_27 : decode cX0_workOut 27 = .ok (.iload_n 1, 1) := by decide +kernel
theorem dX0_workOut_28 : decode cX0_workOut 28 = .ok (.iaload, 1) := by decide +kernel
theorem dX0_workOut_29 : decode cX0_workOut 29 = .ok (.if_icmp .ge 158, 3) := by decide +kernel
theorem dX0_workOut_32 : decode cX0_workOut 32 = .ok (.aload 5, 2) := by decide +kernel
theorem dX0_workOut_34 : decode cX0_workOut 34 = .ok (.iload 7, 2) := by decide +kernel
theorem dX0_workOut_36 : decode cX0_workOut 36 = .ok (.iaload, 1) := by decide +kernel
theorem dX0_workOut_37 : decode cX0_workOut 37 = .ok (.istore 8, 2) := by decide +kernel
theorem dX0_workOut_39 : decode cX0_workOut 39 = .ok (.iload 8, 2) := by decide +kernel
theorem dX0_workOut_41 : decode cX0_workOut 41 = .ok (.bipush (-3), 2) := by decide +kernel
theorem dX0_workOut_43 : decode cX0_workOut 43 = .ok (.if_icmp .lt 56, 3) := by decide +kernel
theorem dX0_workOut_46 : decode cX0_workOut 46 = .ok (.iload 6, 2) := by decide +kernel
theorem dX0_workOut_48 : decode cX0_workOut 48 = .ok (.bipush 96, 2) := by decide +kernel
theorem dX0_workOut_50 : decode cX0_workOut 50 = .ok (.if_icmp .ge 49, 3) := by decide +kernel
theorem dX0_workOut_53 : decode cX0_workOut 53 = .ok (.aload_n 0, 1) := by decide +kernel
theorem dX0_workOut_54 : decode cX0_workOut 54 = .ok (.getfield 26, 3) := by decide +kernel
theorem dX0_workOut_57 : decode cX0_workOut 57 = .ok (.iload 6, 2) := by decide +kernel
theorem dX0_workOut_59 : decode cX0_workOut 59 = .ok (.iload 8, 2) := by decide +kernel
theorem dX0_workOut_61 : decode cX0_workOut 61 = .ok (.ifCond .lt 8, 3) := by decide +kernel
theorem dX0_workOut_64 : decode cX0_workOut 64 = .ok (.iload 8, 2) := by decide +kernel
theorem dX0_workOut_66 : decode cX0_workOut 66 = .ok (.goto 26, 3) := by decide +kernel
theorem dX0_workOut_69 : decode cX0_workOut 69 = .ok (.iload 8, 2) := by decide +kernel
theorem dX0_workOut_71 : decode cX0_workOut 71 = .ok (.iconst (-1), 1) := by decide +kernel
theorem dX0_workOut_72 : decode cX0_workOut 72 = .ok (.if_icmp .ne 7, 3) := by decide +kernel
theorem dX0_workOut_75 : decode cX0_workOut 75 = .ok (.iload_n 2, 1) := by decide +kernel
theorem dX0_workOut_76 : decode cX0_workOut 76 = .ok (.goto 16, 3) := by decide +kernel
theorem dX0_workOut_79 : decode cX0_workOut 79 = .ok (.iload 8, 2) := by decide +kernel
theorem dX0_workOut_81 : decode cX0_workOut 81 = .ok (.bipush (-3), 2) := by decide +kernel
theorem dX0_workOut_83 : decode cX0_workOut 83 = .ok (.if_icmp .ne 8, 3) := by decide +kernel
theorem dX0_workOut_86 : decode cX0_workOut 86 = .ok (.iload 4, 2) := by decide +kernel
theorem dX0_workOut_88 : decode cX0_workOut 88 = .ok (.goto 4, 3) := by decide +kernel
theorem dX0_workOut_91 : decode cX0_workOut 91 = .ok (.iload_n 3, 1) := by decide +kernel
theorem dX0_workOut_92 : decode cX0_workOut 92 = .ok (.iastore, 1) := by decide +kernel
theorem dX0_workOut_93 : decode cX0_workOut 93 = .ok (.iinc 6 1, 3) := by decide +kernel
theorem dX0_workOut_96 : decode cX0_workOut 96 = .ok (.goto 85, 3) := by decide +kernel
theorem dX0_workOut_99 : decode cX0_workOut 99 = .ok (.iload 8, 2) := by decide +kernel
theorem dX0_workOut_101 : decode cX0_workOut 101 = .ok (.bipush (-33), 2) := by decide +kernel
theorem dX0_workOut_103 : decode cX0_workOut 103 = .ok (.if_icmp .ne 38, 3) := by decide +kernel
theorem dX0_workOut_106 : decode cX0_workOut 106 = .ok (.iload 6, 2) := by decide +kernel
theorem dX0_workOut_108 : decode cX0_workOut 108 = .ok (.iconst 1, 1) := by decide +kernel
theorem dX0_workOut_109 : decode cX0_workOut 109 = .ok (.if_icmp .lt 32, 3) := by decide +kernel
theorem dX0_workOut_112 : decode cX0_workOut 112 = .ok (.aload_n 0, 1) := by decide +kernel
theorem dX0_workOut_113 : decode cX0_workOut 113 = .ok (.getfield 26, 3) := by decide +kernel
theorem dX0_workOut_116 : decode cX0_workOut 116 = .ok (.iload 6, 2) := by decide +kernel
theorem dX0_workOut_118 : decode cX0_workOut 118 = .ok (.iconst 1, 1) := by decide +kernel
theorem dX0_workOut_119 : decode cX0_workOut 119 = .ok (.isub, 1) := by decide +kernel
theorem dX0_workOut_120 : decode cX0_workOut 120 = .ok (.aload_n 0, 1) := by decide +kernel
theorem dX0_workOut_121 : decode cX0_workOut 121 = .ok (.getfield 26, 3) := by decide +kernel
theorem dX0_workOut_124 : decode cX0_workOut 124 = .ok (.iload 6, 2) := by decide +kernel
theorem dX0_workOut_126 : decode cX0_workOut 126 = .ok (.iconst 1, 1) := by decide +kernel
theorem dX0_workOut_127 : decode cX0_workOut 127 = .ok (.isub, 1) := by decide +kernel
theorem dX0_workOut_128 : decode cX0_workOut 128 = .ok (.iaload, 1) := by decide +kernel
theorem dX0_workOut_129 : decode cX0_workOut 129 = .ok (.ifCond .ne 7, 3) := by decide +kernel
theorem dX0_workOut_132 : decode cX0_workOut 132 = .ok (.iconst 1, 1) := by decide +kernel
theorem dX0_workOut_133 : decode cX0_workOut 133 = .ok (.goto 4, 3) := by decide +kernel
theorem dX0_workOut_136 : decode cX0_workOut 136 = .ok (.iconst 0, 1) := by decide +kernel
theorem dX0_workOut_137 : decode cX0_workOut 137 = .ok (.iastore, 1) := by decide +kernel
theorem dX0_workOut_138 : decode cX0_workOut 138 = .ok (.goto 43, 3) := by decide +kernel
theorem dX0_workOut_141 : decode cX0_workOut 141 = .ok (.iload 6, 2) := by decide +kernel
theorem dX0_workOut_143 : decode cX0_workOut 143 = .ok (.iconst 2, 1) := by decide +kernel
theorem dX0_workOut_144 : decode cX0_workOut 144 = .ok (.if_icmp .lt 37, 3) := by decide +kernel
theorem dX0_workOut_147 : decode cX0_workOut 147 = .ok (.iinc 6 (-1), 3) := by decide +kernel
theorem dX0_workOut_150 : decode cX0_workOut 150 = .ok (.aload_n 0, 1) := by decide +kernel
theorem dX0_workOut_151 : decode cX0_workOut 151 = .ok (.getfield 26, 3) := by decide +kernel
theorem dX0_workOut_154 : decode cX0_workOut 154 = .ok (.iload 6, 2) := by decide +kernel
theorem dX0_workOut_156 : decode cX0_workOut 156 = .ok (.iconst 1, 1) := by decide +kernel
theorem dX0_workOut_157 : decode cX0_workOut 157 = .ok (.isub, 1) := by decide +kernel
theorem dX0_workOut_158 : decode cX0_workOut 158 = .ok (.iload 8, 2) := by decide +kernel
theorem dX0_workOut_160 : decode cX0_workOut 160 = .ok (.ineg, 1) := by decide +kernel
theorem dX0_workOut_161 : decode cX0_workOut 161 = .ok (.aload_n 0, 1) := by decide +kernel
theorem dX0_workOut_162 : decode cX0_workOut 162 = .ok (.getfield 26, 3) := by decide +kernel
theorem dX0_workOut_165 : decode cX0_workOut 165 = .ok (.iload 6, 2) := by decide +kernel
theorem dX0_workOut_167 : decode cX0_workOut 167 = .ok (.iconst 1, 1) := by decide +kernel
theorem dX0_workOut_168 : decode cX0_workOut 168 = .ok (.isub, 1) := by decide +kernel
theorem dX0_workOut_169 : decode cX0_workOut 169 = .ok (.iaload, 1) := by decide +kernel
theorem dX0_workOut_170 : decode cX0_workOut 170 = .ok (.aload_n 0, 1) := by decide +kernel
theorem dX0_workOut_171 : decode cX0_workOut 171 = .ok (.getfield 26, 3) := by decide +kernel
theorem dX0_workOut_174 : decode cX0_workOut 174 = .ok (.iload 6, 2) := by decide +kernel
theorem dX0_workOut_176 : decode cX0_workOut 176 = .ok (.iaload, 1) := by decide +kernel
theorem dX0_workOut_177 : decode cX0_workOut 177 = .ok (.invokestatic 49, 3) := by decide +kernel
theorem dX0_workOut_180 : decode cX0_workOut 180 = .ok (.iastore, 1) := by decide +kernel
theorem dX0_workOut_181 : decode cX0_workOut 181 = .ok (.iinc 7 1, 3) := by decide +kernel
theorem dX0_workOut_184 : decode cX0_workOut 184 = .ok (.goto (-163), 3) := by decide +kernel
theorem dX0_workOut_187 : decode cX0_workOut 187 = .ok (.aload_n 0, 1) := by decide +kernel
theorem dX0_workOut_188 : decode cX0_workOut 188 = .ok (.getfield 26, 3) := by decide +kernel
theorem dX0_workOut_191 : decode cX0_workOut 191 = .ok (.iconst 0, 1) := by decide +kernel
theorem dX0_workOut_192 : decode cX0_workOut 192 = .ok (.iaload, 1) := by decide +kernel
theorem dX0_workOut_193 : decode cX0_workOut 193 = .ok (.ireturn, 1) := by decide +kernel
theorem dX0_join_0 : decode cX0_join 0 = .ok (.iload_n 0, 1) := by decide +kernel
theorem dX0_join_1 : decode cX0_join 1 = .ok (.lookupswitch 148 #[(38, 89), (42, 144), (43, 136), (45, 140), (60, 103), (61, 114), (62, 125), (124, 75)], 75) := by decide +kernel
theorem dX0_join_76 : decode cX0_join 76 = .ok (.iload_n 1, 1) := by decide +kernel
theorem dX0_join_77 : decode cX0_join 77 = .ok (.ifCond .ne 7, 3) := by decide +kernel
theorem dX0_join_80 : decode cX0_join 80 = .ok (.iload_n 2, 1) := by decide +kernel
theorem dX0_join_81 : decode cX0_join 81 = .ok (.ifCond .eq 7, 3) := by decide +kernel
theorem dX0_join_84 : decode cX0_join 84 = .ok (.iconst 1, 1) := by decide +kernel
theorem dX0_join_85 : decode cX0_join 85 = .ok (.goto 4, 3) := by decide +kernel
theorem dX0_join_88 : decode cX0_join 88 = .ok (.iconst 0, 1) := by decide +kernel
theorem dX0_join_89 : decode cX0_join 89 = .ok (.ireturn, 1) := by decide +kernel
theorem dX0_join_90 : decode cX0_join 90 = .ok (.iload_n 1, 1) := by decide +kernel
theorem dX0_join_91 : decode cX0_join 91 = .ok (.ifCond .eq 11, 3) := by decide +kernel
theorem dX0_join_94 : decode cX0_join 94 = .ok (.iload_n 2, 1) := by decide +kernel
theorem dX0_join_95 : decode cX0_join 95 = .ok (.ifCond .eq 7, 3) := by decide +kernel
theorem dX0_join_98 : decode cX0_join 98 = .ok (.iconst 1, 1) := by decide +kernel
theorem dX0_join_99 : decode cX0_join 99 = .ok (.goto 4, 3) := by decide +kernel
theorem dX0_join_102 : decode cX0_join 102 = .ok (.iconst 0, 1) := by decide +kernel
theorem dX0_join_103 : decode cX0_join 103 = .ok (.ireturn, 1) := by decide +kernel
theorem dX0_join_104 : decode cX0_join 104 = .ok (.iload_n 1, 1) := by decide +kernel
theorem dX0_join_105 : decode cX0_join 105 = .ok (.iload_n 2, 1) := by decide +kernel
theorem dX0_join_106 : decode cX0_join 106 = .ok (.if_icmp .ge 7, 3) := by decide +kernel
theorem dX0_join_109 : decode cX0_join 109 = .ok (.iconst 1, 1) := by decide +kernel
theorem dX0_join_110 : decode cX0_join 110 = .ok (.goto 4, 3) := by decide +kernel
theorem dX0_join_113 : decode cX0_join 113 = .ok (.iconst 0, 1) := by decide +kernel
theorem dX0_join_114 : decode cX0_join 114 = .ok (.ireturn, 1) := by decide +kernel
theorem dX0_join_115 : decode cX0_join 115 = .ok (.iload_n 1, 1) := by decide +kernel
theorem dX0_join_116 : decode cX0_join 116 = .ok (.iload_n 2, 1) := by decide +kernel
theorem dX0_join_117 : decode cX0_join 117 = .ok (.if_icmp .ne 7, 3) := by decide +kernel
theorem dX0_join_120 : decode cX0_join 120 = .ok (.iconst 1, 1) := by decide +kernel
theorem dX0_join_121 : decode cX0_join 121 = .ok (.goto 4, 3) := by decide +kernel
theorem dX0_join_124 : decode cX0_join 124 = .ok (.iconst 0, 1) := by decide +kernel
theorem dX0_join_125 : decode cX0_join 125 = .ok (.ireturn, 1) := by decide +kernel
theorem dX0_join_126 : decode cX0_join 126 = .ok (.iload_n 1, 1) := by decide +kernel
theorem dX0_join_127 : decode cX0_join 127 = .ok (.iload_n 2, 1) := by decide +kernel
theorem dX0_join_128 : decode cX0_join 128 = .ok (.if_icmp .le 7, 3) := by decide +kernel
theorem dX0_join_131 : decode cX0_join 131 = .ok (.iconst 1, 1) := by decide +kernel
theorem dX0_join_132 : decode cX0_join 132 = .ok (.goto 4, 3) := by decide +kernel
theorem dX0_join_135 : decode cX0_join 135 = .ok (.iconst 0, 1) := by decide +kernel
theorem dX0_join_136 : decode cX0_join 136 = .ok (.ireturn, 1) := by decide +kernel
theorem dX0_join_137 : decode cX0_join 137 = .ok (.iload_n 1, 1) := by decide +kernel
theorem dX0_join_138 : decode cX0_join 138 = .ok (.iload_n 2, 1) := by decide +kernel
theorem dX0_join_139 : decode cX0_join 139 = .ok (.iadd, 1) := by decide +kernel
theorem dX0_join_140 : decode cX0_join 140 = .ok (.ireturn, 1) := by decide +kernel
theorem dX0_join_141 : decode cX0_join 141 = .ok (.iload_n 1, 1) := by decide +kernel
theorem dX0_join_142 : decode cX0_join 142 = .ok (.iload_n 2, 1) := by decide +kernel
theorem dX0_join_143 : decode cX0_join 143 = .ok (.isub, 1) := by decide +kernel
theorem dX0_join_144 : decode cX0_join 144 = .ok (.ireturn, 1) := by decide +kernel
theorem dX0_join_145 : decode cX0_join 145 = .ok (.iload_n 1, 1) := by decide +kernel
theorem dX0_join_146 : decode cX0_join 146 = .ok (.iload_n 2, 1) := by decide +kernel
theorem dX0_join_147 : decode cX0_join 147 = .ok (.imul, 1) := by decide +kernel
theorem dX0_join_148 : decode cX0_join 148 = .ok (.ireturn, 1) := by decide +kernel
theorem dX0_join_149 : decode cX0_join 149 = .ok (.iload_n 2, 1) := by decide +kernel
theorem dX0_join_150 : decode cX0_join 150 = .ok (.ifCond .ne 7, 3) := by decide +kernel
theorem dX0_join_153 : decode cX0_join 153 = .ok (.iconst 0, 1) := by decide +kernel
theorem dX0_join_154 : decode cX0_join 154 = .ok (.goto 6, 3) := by decide +kernel
theorem dX0_join_157 : decode cX0_join 157 = .ok (.iload_n 1, 1) := by decide +kernel
theorem dX0_join_158 : decode cX0_join 158 = .ok (.iload_n 2, 1) := by decide +kernel
theorem dX0_join_159 : decode cX0_join 159 = .ok (.idiv, 1) := by decide +kernel
theorem dX0_join_160 : decode cX0_join 160 = .ok (.ireturn, 1) := by decide +kernel
theorem dX1_init_0 : decode cX1_init 0 = .ok (.aload_n 0, 1) := by decide +kernel
theorem dX1_init_1 : decode cX1_init 1 = .ok (.invokespecial 3, 3) := by decide +kernel
theorem dX1_init_4 : decode cX1_init 4 = .ok (.aload_n 0, 1) := by decide +kernel
theorem dX1_init_5 : decode cX1_init 5 = .ok (.bipush 24, 2) := by decide +kernel
theorem dX1_init_7 : decode cX1_init 7 = .ok (.newarray .int, 2) := by decide +kernel
theorem dX1_init_9 : decode cX1_init 9 = .ok (.putfield 9, 3) := by decide +kernel
theorem dX1_init_12 : decode cX1_init 12 = .ok (.aload_n 0, 1) := by decide +kernel
theorem dX1_init_13 : decode cX1_init 13 = .ok (.iconst (-1), 1) := by decide +kernel
theorem dX1_init_14 : decode cX1_init 14 = .ok (.putfield 15, 3) := by decide +kernel
theorem dX1_init_17 : decode cX1_init 17 = .ok (.aload_n 0, 1) := by decide +kernel
theorem dX1_init_18 : decode cX1_init 18 = .ok (.iconst 0, 1) := by decide +kernel
theorem dX1_init_19 : decode cX1_init 19 = .ok (.putfield 19, 3) := by decide +kernel
theorem dX1_init_22 : decode cX1_init 22 = .ok (.return_, 1) := by decide +kernel
theorem dX1_isMissing_0 : decode cX1_isMissing 0 = .ok (.aload_n 0, 1) := by decide +kernel
theorem dX1_isMissing_1 : decode cX1_isMissing 1 = .ok (.getfield 15, 3) := by decide +kernel
theorem dX1_isMissing_4 : decode cX1_isMissing 4 = .ok (.iconst (-1), 1) := by decide +kernel
theorem dX1_isMissing_5 : decode cX1_isMissing 5 = .ok (.if_icmp .ne 7, 3) := by decide +kernel
theorem dX1_isMissing_8 : decode cX1_isMissing 8 = .ok (.iconst 1, 1) := by decide +kernel
theorem dX1_isMissing_9 : decode cX1_isMissing 9 = .ok (.goto 4, 3) := by decide +kernel
theorem dX1_isMissing_12 : decode cX1_isMissing 12 = .ok (.iconst 0, 1) := by decide +kernel
theorem dX1_isMissing_13 : decode cX1_isMissing 13 = .ok (.ireturn, 1) := by decide +kernel
theorem dX1_hasPlace_0 : decode cX1_hasPlace 0 = .ok (.iload_n 1, 1) := by decide +kernel
theorem dX1_hasPlace_1 : decode cX1_hasPlace 1 = .ok (.ifCond .lt 15, 3) := by decide +kernel
theorem dX1_hasPlace_4 : decode cX1_hasPlace 4 = .ok (.iload_n 1, 1) := by decide +kernel
theorem dX1_hasPlace_5 : decode cX1_hasPlace 5 = .ok (.aload_n 0, 1) := by decide +kernel
theorem dX1_hasPlace_6 : decode cX1_hasPlace 6 = .ok (.getfield 19, 3) := by decide +kernel
theorem dX1_hasPlace_9 : decode cX1_hasPlace 9 = .ok (.if_icmp .ge 7, 3) := by decide +kernel
theorem dX1_hasPlace_12 : decode cX1_hasPlace 12 = .ok (.iconst 1, 1) := by decide +kernel
theorem dX1_hasPlace_13 : decode cX1_hasPlace 13 = .ok (.goto 4, 3) := by decide +kernel
theorem dX1_hasPlace_16 : decode cX1_hasPlace 16 = .ok (.iconst 0, 1) := by decide +kernel
theorem dX1_hasPlace_17 : decode cX1_hasPlace 17 = .ok (.ireturn, 1) := by decide +kernel
theorem dX1_hasPlaces_0 : decode cX1_hasPlaces 0 = .ok (.iload_n 1, 1) := by decide +kernel
theorem dX1_hasPlaces_1 : decode cX1_hasPlaces 1 = .ok (.ifCond .lt 29, 3) := by decide +kernel
theorem dX1_hasPlaces_4 : decode cX1_hasPlaces 4 = .ok (.iload_n 2, 1) := by decide +kernel
theorem dX1_hasPlaces_5 : decode cX1_hasPlaces 5 = .ok (.ifCond .lt 25, 3) := by decide +kernel
theorem dX1_hasPlaces_8 : decode cX1_hasPlaces 8 = .ok (.iload_n 1, 1) := by decide +kernel
theorem dX1_hasPlaces_9 : decode cX1_hasPlaces 9 = .ok (.aload_n 0, 1) := by decide +kernel
theorem dX1_hasPlaces_10 : decode cX1_hasPlaces 10 = .ok (.getfield 19, 3) := by decide +kernel
theorem dX1_hasPlaces_13 : decode cX1_hasPlaces 13 = .ok (.if_icmp .gt 17, 3) := by decide +kernel
theorem dX1_hasPlaces_16 : decode cX1_hasPlaces 16 = .ok (.iload_n 2, 1) := by decide +kernel
theorem dX1_hasPlaces_17 : decode cX1_hasPlaces 17 = .ok (.aload_n 0, 1) := by decide +kernel
theorem dX1_hasPlaces_18 : decode cX1_hasPlaces 18 = .ok (.getfield 19, 3) := by decide +kernel
theorem dX1_hasPlaces_21 : decode cX1_hasPlaces 21 = .ok (.iload_n 1, 1) := by decide +kernel
theorem dX1_hasPlaces_22 : decode cX1_hasPlaces 22 = .ok (.isub, 1) := by decide +kernel
theorem dX1_hasPlaces_23 : decode cX1_hasPlaces 23 = .ok (.if_icmp .gt 7, 3) := by decide +kernel
theorem dX1_hasPlaces_26 : decode cX1_hasPlaces 26 = .ok (.iconst 1, 1) := by decide +kernel
theorem dX1_hasPlaces_27 : decode cX1_hasPlaces 27 = .ok (.goto 4, 3) := by decide +kernel
theorem dX1_hasPlaces_30 : decode cX1_hasPlaces 30 = .ok (.iconst 0, 1) := by decide +kernel
theorem dX1_hasPlaces_31 : decode cX1_hasPlaces 31 = .ok (.ireturn, 1) := by decide +kernel
theorem dX1_isNumber_0 : decode cX1_isNumber 0 = .ok (.aload_n 0, 1) := by decide +kernel
theorem dX1_isNumber_1 : decode cX1_isNumber 1 = .ok (.getfield 9, 3) := by decide +kernel
theorem dX1_isNumber_4 : decode cX1_isNumber 4 = .ok (.iload_n 1, 1) := by decide +kernel
theorem dX1_isNumber_5 : decode cX1_isNumber 5 = .ok (.iaload, 1) := by decide +kernel
theorem dX1_isNumber_6 : decode cX1_isNumber 6 = .ok (.ldc 22, 2) := by decide +kernel
theorem dX1_isNumber_8 : decode cX1_isNumber 8 = .ok (.if_icmp .eq 7, 3) := by decide +kernel
theorem dX1_isNumber_11 : decode cX1_isNumber 11 = .ok (.iconst 1, 1) := by decide +kernel
theorem dX1_isNumber_12 : decode cX1_isNumber 12 = .ok (.goto 4, 3) := by decide +kernel
theorem dX1_isNumber_15 : decode cX1_isNumber 15 = .ok (.iconst 0, 1) := by decide +kernel
theorem dX1_isNumber_16 : decode cX1_isNumber 16 = .ok (.ireturn, 1) := by decide +kernel
theorem dX1_begin_0 : decode cX1_begin 0 = .ok (.aload_n 0, 1) := by decide +kernel
theorem dX1_begin_1 : decode cX1_begin 1 = .ok (.iload_n 1, 1) := by decide +kernel
theorem dX1_begin_2 : decode cX1_begin 2 = .ok (.putfield 15, 3) := by decide +kernel
theorem dX1_begin_5 : decode cX1_begin 5 = .ok (.aload_n 0, 1) := by decide +kernel
theorem dX1_begin_6 : decode cX1_begin 6 = .ok (.iload_n 2, 1) := by decide +kernel
theorem dX1_begin_7 : decode cX1_begin 7 = .ok (.putfield 19, 3) := by decide +kernel
theorem dX1_begin_10 : decode cX1_begin 10 = .ok (.iconst 0, 1) := by decide +kernel
theorem dX1_begin_11 : decode cX1_begin 11 = .ok (.istore_n 3, 1) := by decide +kernel
theorem dX1_begin_12 : decode cX1_begin 12 = .ok (.iload_n 3, 1) := by decide +kernel
theorem dX1_begin_13 : decode cX1_begin 13 = .ok (.bipush 24, 2) := by decide +kernel
theorem dX1_begin_15 : decode cX1_begin 15 = .ok (.if_icmp .ge 16, 3) := by decide +kernel
theorem dX1_begin_18 : decode cX1_begin 18 = .ok (.aload_n 0, 1) := by decide +kernel
theorem dX1_begin_19 : decode cX1_begin 19 = .ok (.getfield 9, 3) := by decide +kernel
theorem dX1_begin_22 : decode cX1_begin 22 = .ok (.iload_n 3, 1) := by decide +kernel
theorem dX1_begin_23 : decode cX1_begin 23 = .ok (.iconst 0, 1) := by decide +kernel
theorem dX1_begin_24 : decode cX1_begin 24 = .ok (.iastore, 1) := by decide +kernel
theorem dX1_begin_25 : decode cX1_begin 25 = .ok (.iinc 3 1, 3) := by decide +kernel
theorem dX1_begin_28 : decode cX1_begin 28 = .ok (.goto (-16), 3) := by decide +kernel
theorem dX1_begin_31 : decode cX1_begin 31 = .ok (.return_, 1) := by decide +kernel
theorem dX1_become_0 : decode cX1_become 0 = .ok (.aload_n 0, 1) := by decide +kernel
theorem dX1_become_1 : decode cX1_become 1 = .ok (.aload_n 1, 1) := by decide +kernel
theorem dX1_become_2 : decode cX1_become 2 = .ok (.getfield 15, 3) := by decide +kernel
theorem dX1_become_5 : decode cX1_become 5 = .ok (.putfield 15, 3) := by decide +kernel
theorem dX1_become_8 : decode cX1_become 8 = .ok (.aload_n 0, 1) := by decide +kernel
theorem dX1_become_9 : decode cX1_become 9 = .ok (.aload_n 1, 1) := by decide +kernel
theorem dX1_become_10 : decode cX1_become 10 = .ok (.getfield 19, 3) := by decide +kernel
theorem dX1_become_13 : decode cX1_become 13 = .ok (.putfield 19, 3) := by decide +kernel
theorem dX1_become_16 : decode cX1_become 16 = .ok (.aload_n 1, 1) := by decide +kernel
theorem dX1_become_17 : decode cX1_become 17 = .ok (.getfield 9, 3) := by decide +kernel
theorem dX1_become_20 : decode cX1_become 20 = .ok (.iconst 0, 1) := by decide +kernel
theorem dX1_become_21 : decode cX1_become 21 = .ok (.aload_n 0, 1) := by decide +kernel
theorem dX1_become_22 : decode cX1_become 22 = .ok (.getfield 9, 3) := by decide +kernel
theorem dX1_become_25 : decode cX1_become 25 = .ok (.iconst 0, 1) := by decide +kernel
theorem dX1_become_26 : decode cX1_become 26 = .ok (.bipush 24, 2) := by decide +kernel
theorem dX1_become_28 : decode cX1_become 28 = .ok (.invokestatic 23, 3) := by decide +kernel
theorem dX1_become_31 : decode cX1_become 31 = .ok (.return_, 1) := by decide +kernel
theorem dX2_init_0 : decode cX2_init 0 = .ok (.aload_n 0, 1) := by decide +kernel
theorem dX2_init_1 : decode cX2_init 1 = .ok (.invokespecial 3, 3) := by decide +kernel
theorem dX2_init_4 : decode cX2_init 4 = .ok (.aload_n 0, 1) := by decide +kernel
theorem dX2_init_5 : decode cX2_init 5 = .ok (.new 9, 3) := by decide +kernel
theorem dX2_init_8 : decode cX2_init 8 = .ok (.dup, 1) := by decide +kernel
theorem dX2_init_9 : decode cX2_init 9 = .ok (.invokespecial 11, 3) := by decide +kernel
theorem dX2_init_12 : decode cX2_init 12 = .ok (.putfield 12, 3) := by decide +kernel
theorem dX2_init_15 : decode cX2_init 15 = .ok (.aload_n 0, 1) := by decide +kernel
theorem dX2_init_16 : decode cX2_init 16 = .ok (.iconst 0, 1) := by decide +kernel
theorem dX2_init_17 : decode cX2_init 17 = .ok (.putfield 18, 3) := by decide +kernel
theorem dX2_init_20 : decode cX2_init 20 = .ok (.aload_n 0, 1) := by decide +kernel
theorem dX2_init_21 : decode cX2_init 21 = .ok (.iconst 0, 1) := by decide +kernel
theorem dX2_init_22 : decode cX2_init 22 = .ok (.putfield 22, 3) := by decide +kernel
theorem dX2_init_25 : decode cX2_init 25 = .ok (.aload_n 0, 1) := by decide +kernel
theorem dX2_init_26 : decode cX2_init 26 = .ok (.iconst 0, 1) := by decide +kernel
theorem dX2_init_27 : decode cX2_init 27 = .ok (.putfield 25, 3) := by decide +kernel
theorem dX2_init_30 : decode cX2_init 30 = .ok (.aload_n 0, 1) := by decide +kernel
theorem dX2_init_31 : decode cX2_init 31 = .ok (.iconst 0, 1) := by decide +kernel
theorem dX2_init_32 : decode cX2_init 32 = .ok (.putfield 28, 3) := by decide +kernel
theorem dX2_init_35 : decode cX2_init 35 = .ok (.return_, 1) := by decide +kernel
theorem dX3_init_0 : decode cX3_init 0 = .ok (.aload_n 0, 1) := by decide +kernel
theorem dX3_init_1 : decode cX3_init 1 = .ok (.invokespecial 3, 3) := by decide +kernel
theorem dX3_init_4 : decode cX3_init 4 = .ok (.aload_n 0, 1) := by decide +kernel
theorem dX3_init_5 : decode cX3_init 5 = .ok (.bipush 8, 2) := by decide +kernel
theorem dX3_init_7 : decode cX3_init 7 = .ok (.newarray .int, 2) := by decide +kernel
theorem dX3_init_9 : decode cX3_init 9 = .ok (.putfield 9, 3) := by decide +kernel
theorem dX3_init_12 : decode cX3_init 12 = .ok (.aload_n 0, 1) := by decide +kernel
theorem dX3_init_13 : decode cX3_init 13 = .ok (.bipush 8, 2) := by decide +kernel
theorem dX3_init_15 : decode cX3_init 15 = .ok (.newarray .int, 2) := by decide +kernel
theorem dX3_init_17 : decode cX3_init 17 = .ok (.putfield 15, 3) := by decide +kernel
theorem dX3_init_20 : decode cX3_init 20 = .ok (.aload_n 0, 1) := by decide +kernel
theorem dX3_init_21 : decode cX3_init 21 = .ok (.bipush 8, 2) := by decide +kernel
theorem dX3_init_23 : decode cX3_init 23 = .ok (.newarray .int, 2) := by decide +kernel
theorem dX3_init_25 : decode cX3_init 25 = .ok (.putfield 18, 3) := by decide +kernel
theorem dX3_init_28 : decode cX3_init 28 = .ok (.aload_n 0, 1) := by decide +kernel
theorem dX3_init_29 : decode cX3_init 29 = .ok (.bipush 8, 2) := by decide +kernel
theorem dX3_init_31 : decode cX3_init 31 = .ok (.newarray .int, 2) := by decide +kernel
theorem dX3_init_33 : decode cX3_init 33 = .ok (.putfield 21, 3) := by decide +kernel
theorem dX3_init_36 : decode cX3_init 36 = .ok (.aload_n 0, 1) := by decide +kernel
theorem dX3_init_37 : decode cX3_init 37 = .ok (.iconst 3, 1) := by decide +kernel
theorem dX3_init_38 : decode cX3_init 38 = .ok (.newarray .int, 2) := by decide +kernel
theorem dX3_init_40 : decode cX3_init 40 = .ok (.dup, 1) := by decide +kernel
theorem dX3_init_41 : decode cX3_init 41 = .ok (.iconst 0, 1) := by decide +kernel
theorem dX3_init_42 : decode cX3_init 42 = .ok (.iconst (-1), 1) := by decide +kernel
theorem dX3_init_43 : decode cX3_init 43 = .ok (.iastore, 1) := by decide +kernel
theorem dX3_init_44 : decode cX3_init 44 = .ok (.dup, 1) := by decide +kernel
theorem dX3_init_45 : decode cX3_init 45 = .ok (.iconst 1, 1) := by decide +kernel
theorem dX3_init_46 : decode cX3_init 46 = .ok (.iconst (-1), 1) := by decide +kernel
theorem dX3_init_47 : decode cX3_init 47 = .ok (.iastore, 1) := by decide +kernel
theorem dX3_init_48 : decode cX3_init 48 = .ok (.dup, 1) := by decide +kernel
theorem dX3_init_49 : decode cX3_init 49 = .ok (.iconst 2, 1) := by decide +kernel
theorem dX3_init_50 : decode cX3_init 50 = .ok (.iconst (-1), 1) := by decide +kernel
theorem dX3_init_51 : decode cX3_init 51 = .ok (.iastore, 1) := by decide +kernel
theorem dX3_init_52 : decode cX3_init 52 = .ok (.putfield 24, 3) := by decide +kernel
theorem dX3_init_55 : decode cX3_init 55 = .ok (.aload_n 0, 1) := by decide +kernel
theorem dX3_init_56 : decode cX3_init 56 = .ok (.iconst 0, 1) := by decide +kernel
theorem dX3_init_57 : decode cX3_init 57 = .ok (.putfield 27, 3) := by decide +kernel
theorem dX3_init_60 : decode cX3_init 60 = .ok (.aload_n 0, 1) := by decide +kernel
theorem dX3_init_61 : decode cX3_init 61 = .ok (.bipush 100, 2) := by decide +kernel
theorem dX3_init_63 : decode cX3_init 63 = .ok (.putfield 31, 3) := by decide +kernel
theorem dX3_init_66 : decode cX3_init 66 = .ok (.aload_n 0, 1) := by decide +kernel
theorem dX3_init_67 : decode cX3_init 67 = .ok (.bipush 20, 2) := by decide +kernel
theorem dX3_init_69 : decode cX3_init 69 = .ok (.putfield 34, 3) := by decide +kernel
theorem dX3_init_72 : decode cX3_init 72 = .ok (.aload_n 0, 1) := by decide +kernel
theorem dX3_init_73 : decode cX3_init 73 = .ok (.iconst 0, 1) := by decide +kernel
theorem dX3_init_74 : decode cX3_init 74 = .ok (.putfield 37, 3) := by decide +kernel
theorem dX3_init_77 : decode cX3_init 77 = .ok (.aload_n 0, 1) := by decide +kernel
theorem dX3_init_78 : decode cX3_init 78 = .ok (.iconst 0, 1) := by decide +kernel
theorem dX3_init_79 : decode cX3_init 79 = .ok (.putfield 40, 3) := by decide +kernel
theorem dX3_init_82 : decode cX3_init 82 = .ok (.aload_n 0, 1) := by decide +kernel
theorem dX3_init_83 : decode cX3_init 83 = .ok (.iconst 0, 1) := by decide +kernel
theorem dX3_init_84 : decode cX3_init 84 = .ok (.putfield 43, 3) := by decide +kernel
theorem dX3_init_87 : decode cX3_init 87 = .ok (.aload_n 0, 1) := by decide +kernel
theorem dX3_init_88 : decode cX3_init 88 = .ok (.iconst 1, 1) := by decide +kernel
theorem dX3_init_89 : decode cX3_init 89 = .ok (.putfield 46, 3) := by decide +kernel
theorem dX3_init_92 : decode cX3_init 92 = .ok (.aload_n 0, 1) := by decide +kernel
theorem dX3_init_93 : decode cX3_init 93 = .ok (.iconst 0, 1) := by decide +kernel
theorem dX3_init_94 : decode cX3_init 94 = .ok (.putfield 49, 3) := by decide +kernel
theorem dX3_init_97 : decode cX3_init 97 = .ok (.aload_n 0, 1) := by decide +kernel
theorem dX3_init_98 : decode cX3_init 98 = .ok (.aload_n 1, 1) := by decide +kernel
theorem dX3_init_99 : decode cX3_init 99 = .ok (.putfield 52, 3) := by decide +kernel
theorem dX3_init_102 : decode cX3_init 102 = .ok (.return_, 1) := by decide +kernel
theorem dX3_become_0 : decode cX3_become 0 = .ok (.aload_n 1, 1) := by decide +kernel
theorem dX3_become_1 : decode cX3_become 1 = .ok (.getfield 9, 3) := by decide +kernel
theorem dX3_become_4 : decode cX3_become 4 = .ok (.iconst 0, 1) := by decide +kernel
theorem dX3_become_5 : decode cX3_become 5 = .ok (.aload_n 0, 1) := by decide +kernel
theorem dX3_become_6 : decode cX3_become 6 = .ok (.getfield 9, 3) := by decide +kernel
theorem dX3_become_9 : decode cX3_become 9 = .ok (.iconst 0, 1) := by decide +kernel
theorem dX3_become_10 : decode cX3_become 10 = .ok (.bipush 8, 2) := by decide +kernel
theorem dX3_become_12 : decode cX3_become 12 = .ok (.invokestatic 56, 3) := by decide +kernel
theorem dX3_become_15 : decode cX3_become 15 = .ok (.aload_n 1, 1) := by decide +kernel
theorem dX3_become_16 : decode cX3_become 16 = .ok (.getfield 15, 3) := by decide +kernel
theorem dX3_become_19 : decode cX3_become 19 = .ok (.iconst 0, 1) := by decide +kernel
theorem dX3_become_20 : decode cX3_become 20 = .ok (.aload_n 0, 1) := by decide +kernel
theorem dX3_become_21 : decode cX3_become 21 = .ok (.getfield 15, 3) := by decide +kernel
theorem dX3_become_24 : decode cX3_become 24 = .ok (.iconst 0, 1) := by decide +kernel
theorem dX3_become_25 : decode cX3_become 25 = .ok (.bipush 8, 2) := by decide +kernel
theorem dX3_become_27 : decode cX3_become 27 = .ok (.invokestatic 56, 3) := by decide +kernel
theorem dX3_become_30 : decode cX3_become 30 = .ok (.aload_n 1, 1) := by decide +kernel
theorem dX3_become_31 : decode cX3_become 31 = .ok (.getfield 18, 3) := by decide +kernel
theorem dX3_become_34 : decode cX3_become 34 = .ok (.iconst 0, 1) := by decide +kernel
theorem dX3_become_35 : decode cX3_become 35 = .ok (.aload_n 0, 1) := by decide +kernel
theorem dX3_become_36 : decode cX3_become 36 = .ok (.getfield 18, 3) := by decide +kernel
theorem dX3_become_39 : decode cX3_become 39 = .ok (.iconst 0, 1) := by decide +kernel
theorem dX3_become_40 : decode cX3_become 40 = .ok (.bipush 8, 2) := by decide +kernel
theorem dX3_become_42 : decode cX3_become 42 = .ok (.invokestatic 56, 3) := by decide +kernel
theorem dX3_become_45 : decode cX3_become 45 = .ok (.aload_n 1, 1) := by decide +kernel
theorem dX3_become_46 : decode cX3_become 46 = .ok (.getfield 21, 3) := by decide +kernel
theorem dX3_become_49 : decode cX3_become 49 = .ok (.iconst 0, 1) := by decide +kernel
theorem dX3_become_50 : decode cX3_become 50 = .ok (.aload_n 0, 1) := by decide +kernel
theorem dX3_become_51 : decode cX3_become 51 = .ok (.getfield 21, 3) := by decide +kernel
theorem dX3_become_54 : decode cX3_become 54 = .ok (.iconst 0, 1) := by decide +kernel
theorem dX3_become_55 : decode cX3_become 55 = .ok (.bipush 8, 2) := by decide +kernel
theorem dX3_become_57 : decode cX3_become 57 = .ok (.invokestatic 56, 3) := by decide +kernel
theorem dX3_become_60 : decode cX3_become 60 = .ok (.aload_n 1, 1) := by decide +kernel
theorem dX3_become_61 : decode cX3_become 61 = .ok (.getfield 24, 3) := by decide +kernel
theorem dX3_become_64 : decode cX3_become 64 = .ok (.iconst 0, 1) := by decide +kernel
theorem dX3_become_65 : decode cX3_become 65 = .ok (.aload_n 0, 1) := by decide +kernel
theorem dX3_become_66 : decode cX3_become 66 = .ok (.getfield 24, 3) := by decide +kernel
theorem dX3_become_69 : decode cX3_become 69 = .ok (.iconst 0, 1) := by decide +kernel
theorem dX3_become_70 : decode cX3_become 70 = .ok (.iconst 3, 1) := by decide +kernel
theorem dX3_become_71 : decode cX3_become 71 = .ok (.invokestatic 56, 3) := by decide +kernel
theorem dX3_become_74 : decode cX3_become 74 = .ok (.aload_n 0, 1) := by decide +kernel
theorem dX3_become_75 : decode cX3_become 75 = .ok (.aload_n 1, 1) := by decide +kernel
theorem dX3_become_76 : decode cX3_become 76 = .ok (.getfield 27, 3) := by decide +kernel
theorem dX3_become_79 : decode cX3_become 79 = .ok (.putfield 27, 3) := by decide +kernel
theorem dX3_become_82 : decode cX3_become 82 = .ok (.aload_n 0, 1) := by decide +kernel
theorem dX3_become_83 : decode cX3_become 83 = .ok (.aload_n 1, 1) := by decide +kernel
theorem dX3_become_84 : decode cX3_become 84 = .ok (.getfield 31, 3) := by decide +kernel
theorem dX3_become_87 : decode cX3_become 87 = .ok (.putfield 31, 3) := by decide +kernel
theorem dX3_become_90 : decode cX3_become 90 = .ok (.aload_n 0, 1) := by decide +kernel
theorem dX3_become_91 : decode cX3_become 91 = .ok (.aload_n 1, 1) := by decide +kernel
theorem dX3_become_92 : decode cX3_become 92 = .ok (.getfield 34, 3) := by decide +kernel
theorem dX3_become_95 : decode cX3_become 95 = .ok (.putfield 34, 3) := by decide +kernel
theorem dX3_become_98 : decode cX3_become 98 = .ok (.aload_n 0, 1) := by decide +kernel
theorem dX3_become_99 : decode cX3_become 99 = .ok (.aload_n 1, 1) := by decide +kernel
theorem dX3_become_100 : decode cX3_become 100 = .ok (.getfield 37, 3) := by decide +kernel
theorem dX3_become_103 : decode cX3_become 103 = .ok (.putfield 37, 3) := by decide +kernel
theorem dX3_become_106 : decode cX3_become 106 = .ok (.aload_n 0, 1) := by decide +kernel
theorem dX3_become_107 : decode cX3_become 107 = .ok (.aload_n 1, 1) := by decide +kernel
theorem dX3_become_108 : decode cX3_become 108 = .ok (.getfield 40, 3) := by decide +kernel
theorem dX3_become_111 : decode cX3_become 111 = .ok (.putfield 40, 3) := by decide +kernel
theorem dX3_become_114 : decode cX3_become 114 = .ok (.aload_n 0, 1) := by decide +kernel
theorem dX3_become_115 : decode cX3_become 115 = .ok (.aload_n 1, 1) := by decide +kernel
theorem dX3_become_116 : decode cX3_become 116 = .ok (.getfield 43, 3) := by decide +kernel
theorem dX3_become_119 : decode cX3_become 119 = .ok (.putfield 43, 3) := by decide +kernel
theorem dX3_become_122 : decode cX3_become 122 = .ok (.aload_n 0, 1) := by decide +kernel
theorem dX3_become_123 : decode cX3_become 123 = .ok (.aload_n 1, 1) := by decide +kernel
theorem dX3_become_124 : decode cX3_become 124 = .ok (.getfield 46, 3) := by decide +kernel
theorem dX3_become_127 : decode cX3_become 127 = .ok (.putfield 46, 3) := by decide +kernel
theorem dX3_become_130 : decode cX3_become 130 = .ok (.aload_n 0, 1) := by decide +kernel
theorem dX3_become_131 : decode cX3_become 131 = .ok (.aload_n 1, 1) := by decide +kernel
theorem dX3_become_132 : decode cX3_become 132 = .ok (.getfield 49, 3) := by decide +kernel
theorem dX3_become_135 : decode cX3_become 135 = .ok (.putfield 49, 3) := by decide +kernel
theorem dX3_become_138 : decode cX3_become 138 = .ok (.return_, 1) := by decide +kernel
theorem dX3_has_0 : decode cX3_has 0 = .ok (.iload_n 1, 1) := by decide +kernel
theorem dX3_has_1 : decode cX3_has 1 = .ok (.ifCond .lt 15, 3) := by decide +kernel
theorem dX3_has_4 : decode cX3_has 4 = .ok (.iload_n 1, 1) := by decide +kernel
theorem dX3_has_5 : decode cX3_has 5 = .ok (.aload_n 0, 1) := by decide +kernel
theorem dX3_has_6 : decode cX3_has 6 = .ok (.getfield 27, 3) := by decide +kernel
theorem dX3_has_9 : decode cX3_has 9 = .ok (.if_icmp .ge 7, 3) := by decide +kernel
theorem dX3_has_12 : decode cX3_has 12 = .ok (.iconst 1, 1) := by decide +kernel
theorem dX3_has_13 : decode cX3_has 13 = .ok (.goto 4, 3) := by decide +kernel
theorem dX3_has_16 : decode cX3_has 16 = .ok (.iconst 0, 1) := by decide +kernel
theorem dX3_has_17 : decode cX3_has 17 = .ok (.ireturn, 1) := by decide +kernel
theorem dX3_addThing_0 : decode cX3_addThing 0 = .ok (.aload_n 0, 1) := by decide +kernel
theorem dX3_addThing_1 : decode cX3_addThing 1 = .ok (.getfield 27, 3) := by decide +kernel
theorem dX3_addThing_4 : decode cX3_addThing 4 = .ok (.istore 4, 2) := by decide +kernel
theorem dX3_addThing_6 : decode cX3_addThing 6 = .ok (.aload_n 0, 1) := by decide +kernel
theorem dX3_addThing_7 : decode cX3_addThing 7 = .ok (.getfield 9, 3) := by decide +kernel
theorem dX3_addThing_10 : decode cX3_addThing 10 = .ok (.iload 4, 2) := by decide +kernel
theorem dX3_addThing_12 : decode cX3_addThing 12 = .ok (.iload_n 1, 1) := by decide +kernel
theorem dX3_addThing_13 : decode cX3_addThing 13 = .ok (.iastore, 1) := by decide +kernel
theorem dX3_addThing_14 : decode cX3_addThing 14 = .ok (.aload_n 0, 1) := by decide +kernel
theorem dX3_addThing_15 : decode cX3_addThing 15 = .ok (.getfield 15, 3) := by decide +kernel
theorem dX3_addThing_18 : decode cX3_addThing 18 = .ok (.iload 4, 2) := by decide +kernel
theorem dX3_addThing_20 : decode cX3_addThing 20 = .ok (.iload_n 2, 1) := by decide +kernel
theorem dX3_addThing_21 : decode cX3_addThing 21 = .ok (.iastore, 1) := by decide +kernel
theorem dX3_addThing_22 : decode cX3_addThing 22 = .ok (.aload_n 0, 1) := by decide +kernel
theorem dX3_addThing_23 : decode cX3_addThing 23 = .ok (.getfield 18, 3) := by decide +kernel
theorem dX3_addThing_26 : decode cX3_addThing 26 = .ok (.iload 4, 2) := by decide +kernel
theorem dX3_addThing_28 : decode cX3_addThing 28 = .ok (.iload_n 3, 1) := by decide +kernel
theorem dX3_addThing_29 : decode cX3_addThing 29 = .ok (.iastore, 1) := by decide +kernel
theorem dX3_addThing_30 : decode cX3_addThing 30 = .ok (.aload_n 0, 1) := by decide +kernel
theorem dX3_addThing_31 : decode cX3_addThing 31 = .ok (.getfield 21, 3) := by decide +kernel
theorem dX3_addThing_34 : decode cX3_addThing 34 = .ok (.iload 4, 2) := by decide +kernel
theorem dX3_addThing_36 : decode cX3_addThing 36 = .ok (.iconst 0, 1) := by decide +kernel
theorem dX3_addThing_37 : decode cX3_addThing 37 = .ok (.iastore, 1) := by decide +kernel
theorem dX3_addThing_38 : decode cX3_addThing 38 = .ok (.aload_n 0, 1) := by decide +kernel
theorem dX3_addThing_39 : decode cX3_addThing 39 = .ok (.dup, 1) := by decide +kernel
theorem dX3_addThing_40 : decode cX3_addThing 40 = .ok (.getfield 27, 3) := by decide +kernel
theorem dX3_addThing_43 : decode cX3_addThing 43 = .ok (.iconst 1, 1) := by decide +kernel
theorem dX3_addThing_44 : decode cX3_addThing 44 = .ok (.iadd, 1) := by decide +kernel
theorem dX3_addThing_45 : decode cX3_addThing 45 = .ok (.putfield 27, 3) := by decide +kernel
theorem dX3_addThing_48 : decode cX3_addThing 48 = .ok (.iload 4, 2) := by decide +kernel
theorem dX3_addThing_50 : decode cX3_addThing 50 = .ok (.ireturn, 1) := by decide +kernel
theorem dX3_drawThing_0 : decode cX3_drawThing 0 = .ok (.aload_n 0, 1) := by decide +kernel
theorem dX3_drawThing_1 : decode cX3_drawThing 1 = .ok (.invokevirtual 62, 3) := by decide +kernel
theorem dX3_drawThing_4 : decode cX3_drawThing 4 = .ok (.bipush 6, 2) := by decide +kernel
theorem dX3_drawThing_6 : decode cX3_drawThing 6 = .ok (.irem, 1) := by decide +kernel
theorem dX3_drawThing_7 : decode cX3_drawThing 7 = .ok (.istore_n 1, 1) := by decide +kernel
theorem dX3_drawThing_8 : decode cX3_drawThing 8 = .ok (.iconst 1, 1) := by decide +kernel
theorem dX3_drawThing_9 : decode cX3_drawThing 9 = .ok (.aload_n 0, 1) := by decide +kernel
theorem dX3_drawThing_10 : decode cX3_drawThing 10 = .ok (.invokevirtual 62, 3) := by decide +kernel
theorem dX3_drawThing_13 : decode cX3_drawThing 13 = .ok (.bipush 9, 2) := by decide +kernel
theorem dX3_drawThing_15 : decode cX3_drawThing 15 = .ok (.irem, 1) := by decide +kernel
theorem dX3_drawThing_16 : decode cX3_drawThing 16 = .ok (.iadd, 1) := by decide +kernel
theorem dX3_drawThing_17 : decode cX3_drawThing 17 = .ok (.istore_n 2, 1) := by decide +kernel
theorem dX3_drawThing_18 : decode cX3_drawThing 18 = .ok (.aload_n 0, 1) := by decide +kernel
theorem dX3_drawThing_19 : decode cX3_drawThing 19 = .ok (.invokevirtual 62, 3) := by decide +kernel
theorem dX3_drawThing_22 : decode cX3_drawThing 22 = .ok (.sipush 1000, 3) := by decide +kernel
theorem dX3_drawThing_25 : decode cX3_drawThing 25 = .ok (.irem, 1) := by decide +kernel
theorem dX3_drawThing_26 : decode cX3_drawThing 26 = .ok (.istore_n 3, 1) := by decide +kernel
theorem dX3_drawThing_27 : decode cX3_drawThing 27 = .ok (.aload_n 0, 1) := by decide +kernel
theorem dX3_drawThing_28 : decode cX3_drawThing 28 = .ok (.iload_n 1, 1) := by decide +kernel
theorem dX3_drawThing_29 : decode cX3_drawThing 29 = .ok (.iload_n 2, 1) := by decide +kernel
theorem dX3_drawThing_30 : decode cX3_drawThing 30 = .ok (.iload_n 3, 1) := by decide +kernel
theorem dX3_drawThing_31 : decode cX3_drawThing 31 = .ok (.invokevirtual 66, 3) := by decide +kernel
theorem dX3_drawThing_34 : decode cX3_drawThing 34 = .ok (.pop, 1) := by decide +kernel
theorem dX3_drawThing_35 : decode cX3_drawThing 35 = .ok (.return_, 1) := by decide +kernel
theorem dX3_draw_0 : decode cX3_draw 0 = .ok (.aload_n 0, 1) := by decide +kernel
theorem dX3_draw_1 : decode cX3_draw 1 = .ok (.aload_n 0, 1) := by decide +kernel
theorem dX3_draw_2 : decode cX3_draw 2 = .ok (.getfield 46, 3) := by decide +kernel
theorem dX3_draw_5 : decode cX3_draw 5 = .ok (.ldc 70, 2) := by decide +kernel
theorem dX3_draw_7 : decode cX3_draw 7 = .ok (.imul, 1) := by decide +kernel
theorem dX3_draw_8 : decode cX3_draw 8 = .ok (.sipush 12345, 3) := by decide +kernel
theorem dX3_draw_11 : decode cX3_draw 11 = .ok (.iadd, 1) := by decide +kernel
theorem dX3_draw_12 : decode cX3_draw 12 = .ok (.putfield 46, 3) := by decide +kernel
theorem dX3_draw_15 : decode cX3_draw 15 = .ok (.aload_n 0, 1) := by decide +kernel
theorem dX3_draw_16 : decode cX3_draw 16 = .ok (.getfield 46, 3) := by decide +kernel
theorem dX3_draw_19 : decode cX3_draw 19 = .ok (.bipush 8, 2) := by decide +kernel
theorem dX3_draw_21 : decode cX3_draw 21 = .ok (.iushr, 1) := by decide +kernel
theorem dX3_draw_22 : decode cX3_draw 22 = .ok (.ireturn, 1) := by decide +kernel
theorem dX3_throwIn_0 : decode cX3_throwIn 0 = .ok (.aload_n 0, 1) := by decide +kernel
theorem dX3_throwIn_1 : decode cX3_throwIn 1 = .ok (.getfield 18, 3) := by decide +kernel
theorem dX3_throwIn_4 : decode cX3_throwIn 4 = .ok (.iload_n 1, 1) := by decide +kernel
theorem dX3_throwIn_5 : decode cX3_throwIn 5 = .ok (.aload_n 0, 1) := by decide +kernel
theorem dX3_throwIn_6 : decode cX3_throwIn 6 = .ok (.getfield 18, 3) := by decide +kernel
theorem dX3_throwIn_9 : decode cX3_throwIn 9 = .ok (.iload_n 1, 1) := by decide +kernel
theorem dX3_throwIn_10 : decode cX3_throwIn 10 = .ok (.iaload, 1) := by decide +kernel
theorem dX3_throwIn_11 : decode cX3_throwIn 11 = .ok (.iload_n 2, 1) := by decide +kernel
theorem dX3_throwIn_12 : decode cX3_throwIn 12 = .ok (.iadd, 1) := by decide +kernel
theorem dX3_throwIn_13 : decode cX3_throwIn 13 = .ok (.ldc 71, 2) := by decide +kernel
theorem dX3_throwIn_15 : decode cX3_throwIn 15 = .ok (.invokestatic 72, 3) := by decide +kernel
theorem dX3_throwIn_18 : decode cX3_throwIn 18 = .ok (.iastore, 1) := by decide +kernel
theorem dX3_throwIn_19 : decode cX3_throwIn 19 = .ok (.return_, 1) := by decide +kernel
theorem dX3_resetThing_0 : decode cX3_resetThing 0 = .ok (.aload_n 0, 1) := by decide +kernel
theorem dX3_resetThing_1 : decode cX3_resetThing 1 = .ok (.getfield 18, 3) := by decide +kernel
theorem dX3_resetThing_4 : decode cX3_resetThing 4 = .ok (.iload_n 2, 1) := by decide +kernel
theorem dX3_resetThing_5 : decode cX3_resetThing 5 = .ok (.aload_n 1, 1) := by decide +kernel
theorem dX3_resetThing_6 : decode cX3_resetThing 6 = .ok (.getfield 18, 3) := by decide +kernel
theorem dX3_resetThing_9 : decode cX3_resetThing 9 = .ok (.iload_n 2, 1) := by decide +kernel
theorem dX3_resetThing_10 : decode cX3_resetThing 10 = .ok (.iaload, 1) := by decide +kernel
theorem dX3_resetThing_11 : decode cX3_resetThing 11 = .ok (.iastore, 1) := by decide +kernel
theorem dX3_resetThing_12 : decode cX3_resetThing 12 = .ok (.aload_n 0, 1) := by decide +kernel
theorem dX3_resetThing_13 : decode cX3_resetThing 13 = .ok (.getfield 21, 3) := by decide +kernel
theorem dX3_resetThing_16 : decode cX3_resetThing 16 = .ok (.iload_n 2, 1) := by decide +kernel
theorem dX3_resetThing_17 : decode cX3_resetThing 17 = .ok (.aload_n 1, 1) := by decide +kernel
theorem dX3_resetThing_18 : decode cX3_resetThing 18 = .ok (.getfield 21, 3) := by decide +kernel
theorem dX3_resetThing_21 : decode cX3_resetThing 21 = .ok (.iload_n 2, 1) := by decide +kernel
theorem dX3_resetThing_22 : decode cX3_resetThing 22 = .ok (.iaload, 1) := by decide +kernel
theorem dX3_resetThing_23 : decode cX3_resetThing 23 = .ok (.iastore, 1) := by decide +kernel
theorem dX3_resetThing_24 : decode cX3_resetThing 24 = .ok (.return_, 1) := by decide +kernel
theorem dX3_halveAll_0 : decode cX3_halveAll 0 = .ok (.iconst 0, 1) := by decide +kernel
theorem dX3_halveAll_1 : decode cX3_halveAll 1 = .ok (.istore_n 1, 1) := by decide +kernel
theorem dX3_halveAll_2 : decode cX3_halveAll 2 = .ok (.iload_n 1, 1) := by decide +kernel
theorem dX3_halveAll_3 : decode cX3_halveAll 3 = .ok (.aload_n 0, 1) := by decide +kernel
theorem dX3_halveAll_4 : decode cX3_halveAll 4 = .ok (.getfield 27, 3) := by decide +kernel
theorem dX3_halveAll_7 : decode cX3_halveAll 7 = .ok (.if_icmp .ge 19, 3) := by decide +kernel
theorem dX3_halveAll_10 : decode cX3_halveAll 10 = .ok (.aload_n 0, 1) := by decide +kernel
theorem dX3_halveAll_11 : decode cX3_halveAll 11 = .ok (.getfield 18, 3) := by decide +kernel
theorem dX3_halveAll_14 : decode cX3_halveAll 14 = .ok (.iload_n 1, 1) := by decide +kernel
theorem dX3_halveAll_15 : decode cX3_halveAll 15 = .ok (.dup2, 1) := by decide +kernel
theorem dX3_halveAll_16 : decode cX3_halveAll 16 = .ok (.iaload, 1) := by decide +kernel
theorem dX3_halveAll_17 : decode cX3_halveAll 17 = .ok (.iconst 2, 1) := by decide +kernel
theorem dX3_halveAll_18 : decode cX3_halveAll 18 = .ok (.idiv, 1) := by decide +kernel
theorem dX3_halveAll_19 : decode cX3_halveAll 19 = .ok (.iastore, 1) := by decide +kernel
theorem dX3_halveAll_20 : decode cX3_halveAll 20 = .ok (.iinc 1 1, 3) := by decide +kernel
theorem dX3_halveAll_23 : decode cX3_halveAll 23 = .ok (.goto (-21), 3) := by decide +kernel
theorem dX3_halveAll_26 : decode cX3_halveAll 26 = .ok (.return_, 1) := by decide +kernel
theorem dX3_passDays_0 : decode cX3_passDays 0 = .ok (.iconst 0, 1) := by decide +kernel
theorem dX3_passDays_1 : decode cX3_passDays 1 = .ok (.istore_n 2, 1) := by decide +kernel
theorem dX3_passDays_2 : decode cX3_passDays 2 = .ok (.iload_n 2, 1) := by decide +kernel
theorem dX3_passDays_3 : decode cX3_passDays 3 = .ok (.iload_n 1, 1) := by decide +kernel
theorem dX3_passDays_4 : decode cX3_passDays 4 = .ok (.if_icmp .ge 13, 3) := by decide +kernel
theorem dX3_passDays_7 : decode cX3_passDays 7 = .ok (.aload_n 0, 1) := by decide +kernel
theorem dX3_passDays_8 : decode cX3_passDays 8 = .ok (.invokevirtual 78, 3) := by decide +kernel
theorem dX3_passDays_11 : decode cX3_passDays 11 = .ok (.iinc 2 1, 3) := by decide +kernel
theorem dX3_passDays_14 : decode cX3_passDays 14 = .ok (.goto (-12), 3) := by decide +kernel
theorem dX3_passDays_17 : decode cX3_passDays 17 = .ok (.return_, 1) := by decide +kernel
theorem dX3_passDay_0 : decode cX3_passDay 0 = .ok (.iconst 0, 1) := by decide +kernel
theorem dX3_passDay_1 : decode cX3_passDay 1 = .ok (.istore_n 1, 1) := by decide +kernel
theorem dX3_passDay_2 : decode cX3_passDay 2 = .ok (.iload_n 1, 1) := by decide +kernel
theorem dX3_passDay_3 : decode cX3_passDay 3 = .ok (.aload_n 0, 1) := by decide +kernel
theorem dX3_passDay_4 : decode cX3_passDay 4 = .ok (.getfield 27, 3) := by decide +kernel
theorem dX3_passDay_7 : decode cX3_passDay 7 = .ok (.if_icmp .ge 14, 3) := by decide +kernel
theorem dX3_passDay_10 : decode cX3_passDay 10 = .ok (.aload_n 0, 1) := by decide +kernel
theorem dX3_passDay_11 : decode cX3_passDay 11 = .ok (.iload_n 1, 1) := by decide +kernel
theorem dX3_passDay_12 : decode cX3_passDay 12 = .ok (.invokevirtual 81, 3) := by decide +kernel
theorem dX3_passDay_15 : decode cX3_passDay 15 = .ok (.iinc 1 1, 3) := by decide +kernel
theorem dX3_passDay_18 : decode cX3_passDay 18 = .ok (.goto (-16), 3) := by decide +kernel
theorem dX3_passDay_21 : decode cX3_passDay 21 = .ok (.aload_n 0, 1) := by decide +kernel
theorem dX3_passDay_22 : decode cX3_passDay 22 = .ok (.dup, 1) := by decide +kernel
theorem dX3_passDay_23 : decode cX3_passDay 23 = .ok (.getfield 37, 3) := by decide +kernel
theorem dX3_passDay_26 : decode cX3_passDay 26 = .ok (.iconst 1, 1) := by decide +kernel
theorem dX3_passDay_27 : decode cX3_passDay 27 = .ok (.iadd, 1) := by decide +kernel
theorem dX3_passDay_28 : decode cX3_passDay 28 = .ok (.putfield 37, 3) := by decide +kernel
theorem dX3_passDay_31 : decode cX3_passDay 31 = .ok (.return_, 1) := by decide +kernel
theorem dX3_passDaysOf_0 : decode cX3_passDaysOf 0 = .ok (.iconst 0, 1) := by decide +kernel
theorem dX3_passDaysOf_1 : decode cX3_passDaysOf 1 = .ok (.istore_n 3, 1) := by decide +kernel
theorem dX3_passDaysOf_2 : decode cX3_passDaysOf 2 = .ok (.iload_n 3, 1) := by decide +kernel
theorem dX3_passDaysOf_3 : decode cX3_passDaysOf 3 = .ok (.iload_n 2, 1) := by decide +kernel
theorem dX3_passDaysOf_4 : decode cX3_passDaysOf 4 = .ok (.if_icmp .ge 14, 3) := by decide +kernel
theorem dX3_passDaysOf_7 : decode cX3_passDaysOf 7 = .ok (.aload_n 0, 1) := by decide +kernel
theorem dX3_passDaysOf_8 : decode cX3_passDaysOf 8 = .ok (.iload_n 1, 1) := by decide +kernel
theorem dX3_passDaysOf_9 : decode cX3_passDaysOf 9 = .ok (.invokevirtual 81, 3) := by decide +kernel
theorem dX3_passDaysOf_12 : decode cX3_passDaysOf 12 = .ok (.iinc 3 1, 3) := by decide +kernel
theorem dX3_passDaysOf_15 : decode cX3_passDaysOf 15 = .ok (.goto (-13), 3) := by decide +kernel
theorem dX3_passDaysOf_18 : decode cX3_passDaysOf 18 = .ok (.return_, 1) := by decide +kernel
theorem dX3_passDayOf_0 : decode cX3_passDayOf 0 = .ok (.aload_n 0, 1) := by decide +kernel
theorem dX3_passDayOf_1 : decode cX3_passDayOf 1 = .ok (.getfield 18, 3) := by decide +kernel
theorem dX3_passDayOf_4 : decode cX3_passDayOf 4 = .ok (.iload_n 1, 1) := by decide +kernel
theorem dX3_passDayOf_5 : decode cX3_passDayOf 5 = .ok (.iaload, 1) := by decide +kernel
theorem dX3_passDayOf_6 : decode cX3_passDayOf 6 = .ok (.istore_n 2, 1) := by decide +kernel
theorem dX3_passDayOf_7 : decode cX3_passDayOf 7 = .ok (.aload_n 0, 1) := by decide +kernel
theorem dX3_passDayOf_8 : decode cX3_passDayOf 8 = .ok (.getfield 31, 3) := by decide +kernel
theorem dX3_passDayOf_11 : decode cX3_passDayOf 11 = .ok (.ifCond .le 31, 3) := by decide +kernel
theorem dX3_passDayOf_14 : decode cX3_passDayOf 14 = .ok (.aload_n 0, 1) := by decide +kernel
theorem dX3_passDayOf_15 : decode cX3_passDayOf 15 = .ok (.getfield 34, 3) := by decide +kernel
theorem dX3_passDayOf_18 : decode cX3_passDayOf 18 = .ok (.aload_n 0, 1) := by decide +kernel
theorem dX3_passDayOf_19 : decode cX3_passDayOf 19 = .ok (.getfield 31, 3) := by decide +kernel
theorem dX3_passDayOf_22 : decode cX3_passDayOf 22 = .ok (.if_icmp .ge 20, 3) := by decide +kernel
theorem dX3_passDayOf_25 : decode cX3_passDayOf 25 = .ok (.aload_n 0, 1) := by decide +kernel
theorem dX3_passDayOf_26 : decode cX3_passDayOf 26 = .ok (.getfield 18, 3) := by decide +kernel
theorem dX3_passDayOf_29 : decode cX3_passDayOf 29 = .ok (.iload_n 1, 1) := by decide +kernel
theorem dX3_passDayOf_30 : decode cX3_passDayOf 30 = .ok (.iaload, 1) := by decide +kernel
theorem dX3_passDayOf_31 : decode cX3_passDayOf 31 = .ok (.aload_n 0, 1) := by decide +kernel
theorem dX3_passDayOf_32 : decode cX3_passDayOf 32 = .ok (.getfield 34, 3) := by decide +kernel
theorem dX3_passDayOf_35 : decode cX3_passDayOf 35 = .ok (.imul, 1) := by decide +kernel
theorem dX3_passDayOf_36 : decode cX3_passDayOf 36 = .ok (.aload_n 0, 1) := by decide +kernel
theorem dX3_passDayOf_37 : decode cX3_passDayOf 37 = .ok (.getfield 31, 3) := by decide +kernel
theorem dX3_passDayOf_40 : decode cX3_passDayOf 40 = .ok (.idiv, 1) := by decide +kernel
theorem dX3_passDayOf_41 : decode cX3_passDayOf 41 = .ok (.istore_n 2, 1) := by decide +kernel
theorem dX3_passDayOf_42 : decode cX3_passDayOf 42 = .ok (.aload_n 0, 1) := by decide +kernel
theorem dX3_passDayOf_43 : decode cX3_passDayOf 43 = .ok (.getfield 18, 3) := by decide +kernel
theorem dX3_passDayOf_46 : decode cX3_passDayOf 46 = .ok (.iload_n 1, 1) := by decide +kernel
theorem dX3_passDayOf_47 : decode cX3_passDayOf 47 = .ok (.dup2, 1) := by decide +kernel
theorem dX3_passDayOf_48 : decode cX3_passDayOf 48 = .ok (.iaload, 1) := by decide +kernel
theorem dX3_passDayOf_49 : decode cX3_passDayOf 49 = .ok (.iload_n 2, 1) := by decide +kernel
theorem dX3_passDayOf_50 : decode cX3_passDayOf 50 = .ok (.isub, 1) := by decide +kernel
theorem dX3_passDayOf_51 : decode cX3_passDayOf 51 = .ok (.iastore, 1) := by decide +kernel
theorem dX3_passDayOf_52 : decode cX3_passDayOf 52 = .ok (.aload_n 0, 1) := by decide +kernel
theorem dX3_passDayOf_53 : decode cX3_passDayOf 53 = .ok (.dup, 1) := by decide +kernel
theorem dX3_passDayOf_54 : decode cX3_passDayOf 54 = .ok (.getfield 40, 3) := by decide +kernel
theorem dX3_passDayOf_57 : decode cX3_passDayOf 57 = .ok (.iload_n 2, 1) := by decide +kernel
theorem dX3_passDayOf_58 : decode cX3_passDayOf 58 = .ok (.iadd, 1) := by decide +kernel
theorem dX3_passDayOf_59 : decode cX3_passDayOf 59 = .ok (.putfield 40, 3) := by decide +kernel
theorem dX3_passDayOf_62 : decode cX3_passDayOf 62 = .ok (.aload_n 0, 1) := by decide +kernel
theorem dX3_passDayOf_63 : decode cX3_passDayOf 63 = .ok (.iload_n 1, 1) := by decide +kernel
theorem dX3_passDayOf_64 : decode cX3_passDayOf 64 = .ok (.invokevirtual 85, 3) := by decide +kernel
theorem dX3_passDayOf_67 : decode cX3_passDayOf 67 = .ok (.istore_n 3, 1) := by decide +kernel
theorem dX3_passDayOf_68 : decode cX3_passDayOf 68 = .ok (.aload_n 0, 1) := by decide +kernel
theorem dX3_passDayOf_69 : decode cX3_passDayOf 69 = .ok (.getfield 18, 3) := by decide +kernel
theorem dX3_passDayOf_72 : decode cX3_passDayOf 72 = .ok (.iload_n 1, 1) := by decide +kernel
theorem dX3_passDayOf_73 : decode cX3_passDayOf 73 = .ok (.dup2, 1) := by decide +kernel
theorem dX3_passDayOf_74 : decode cX3_passDayOf 74 = .ok (.iaload, 1) := by decide +kernel
theorem dX3_passDayOf_75 : decode cX3_passDayOf 75 = .ok (.iload_n 3, 1) := by decide +kernel
theorem dX3_passDayOf_76 : decode cX3_passDayOf 76 = .ok (.isub, 1) := by decide +kernel
theorem dX3_passDayOf_77 : decode cX3_passDayOf 77 = .ok (.iastore, 1) := by decide +kernel
theorem dX3_passDayOf_78 : decode cX3_passDayOf 78 = .ok (.aload_n 0, 1) := by decide +kernel
theorem dX3_passDayOf_79 : decode cX3_passDayOf 79 = .ok (.dup, 1) := by decide +kernel
theorem dX3_passDayOf_80 : decode cX3_passDayOf 80 = .ok (.getfield 43, 3) := by decide +kernel
theorem dX3_passDayOf_83 : decode cX3_passDayOf 83 = .ok (.iload_n 3, 1) := by decide +kernel
theorem dX3_passDayOf_84 : decode cX3_passDayOf 84 = .ok (.iadd, 1) := by decide +kernel
theorem dX3_passDayOf_85 : decode cX3_passDayOf 85 = .ok (.putfield 43, 3) := by decide +kernel
theorem dX3_passDayOf_88 : decode cX3_passDayOf 88 = .ok (.aload_n 0, 1) := by decide +kernel
theorem dX3_passDayOf_89 : decode cX3_passDayOf 89 = .ok (.getfield 21, 3) := by decide +kernel
theorem dX3_passDayOf_92 : decode cX3_passDayOf 92 = .ok (.iload_n 1, 1) := by decide +kernel
theorem dX3_passDayOf_93 : decode cX3_passDayOf 93 = .ok (.aload_n 0, 1) := by decide +kernel
theorem dX3_passDayOf_94 : decode cX3_passDayOf 94 = .ok (.getfield 18, 3) := by decide +kernel
theorem dX3_passDayOf_97 : decode cX3_passDayOf 97 = .ok (.iload_n 1, 1) := by decide +kernel
theorem dX3_passDayOf_98 : decode cX3_passDayOf 98 = .ok (.iaload, 1) := by decide +kernel
theorem dX3_passDayOf_99 : decode cX3_passDayOf 99 = .ok (.ifCond .le 20, 3) := by decide +kernel
theorem dX3_passDayOf_102 : decode cX3_passDayOf 102 = .ok (.aload_n 0, 1) := by decide +kernel
theorem dX3_passDayOf_103 : decode cX3_passDayOf 103 = .ok (.getfield 21, 3) := by decide +kernel
theorem dX3_passDayOf_106 : decode cX3_passDayOf 106 = .ok (.iload_n 1, 1) := by decide +kernel
theorem dX3_passDayOf_107 : decode cX3_passDayOf 107 = .ok (.iaload, 1) := by decide +kernel
theorem dX3_passDayOf_108 : decode cX3_passDayOf 108 = .ok (.iconst 1, 1) := by decide +kernel
theorem dX3_passDayOf_109 : decode cX3_passDayOf 109 = .ok (.iadd, 1) := by decide +kernel
theorem dX3_passDayOf_110 : decode cX3_passDayOf 110 = .ok (.sipush 9999, 3) := by decide +kernel
theorem dX3_passDayOf_113 : decode cX3_passDayOf 113 = .ok (.invokestatic 72, 3) := by decide +kernel
theorem dX3_passDayOf_116 : decode cX3_passDayOf 116 = .ok (.goto 4, 3) := by decide +kernel
theorem dX3_passDayOf_119 : decode cX3_passDayOf 119 = .ok (.iconst 0, 1) := by decide +kernel
theorem dX3_passDayOf_120 : decode cX3_passDayOf 120 = .ok (.iastore, 1) := by decide +kernel
theorem dX3_passDayOf_121 : decode cX3_passDayOf 121 = .ok (.return_, 1) := by decide +kernel
theorem dX3_wearsOf_0 : decode cX3_wearsOf 0 = .ok (.aload_n 0, 1) := by decide +kernel
theorem dX3_wearsOf_1 : decode cX3_wearsOf 1 = .ok (.getfield 9, 3) := by decide +kernel
theorem dX3_wearsOf_4 : decode cX3_wearsOf 4 = .ok (.iload_n 1, 1) := by decide +kernel
theorem dX3_wearsOf_5 : decode cX3_wearsOf 5 = .ok (.iaload, 1) := by decide +kernel
theorem dX3_wearsOf_6 : decode cX3_wearsOf 6 = .ok (.tableswitch 73 1 4 #[30, 50, 40, 56], 30) := by decide +kernel
theorem dX3_wearsOf_36 : decode cX3_wearsOf 36 = .ok (.aload_n 0, 1) := by decide +kernel
theorem dX3_wearsOf_37 : decode cX3_wearsOf 37 = .ok (.getfield 18, 3) := by decide +kernel
theorem dX3_wearsOf_40 : decode cX3_wearsOf 40 = .ok (.iload_n 1, 1) := by decide +kernel
theorem dX3_wearsOf_41 : decode cX3_wearsOf 41 = .ok (.iaload, 1) := by decide +kernel
theorem dX3_wearsOf_42 : decode cX3_wearsOf 42 = .ok (.bipush 100, 2) := by decide +kernel
theorem dX3_wearsOf_44 : decode cX3_wearsOf 44 = .ok (.idiv, 1) := by decide +kernel
theorem dX3_wearsOf_45 : decode cX3_wearsOf 45 = .ok (.ireturn, 1) := by decide +kernel
theorem dX3_wearsOf_46 : decode cX3_wearsOf 46 = .ok (.aload_n 0, 1) := by decide +kernel
theorem dX3_wearsOf_47 : decode cX3_wearsOf 47 = .ok (.getfield 18, 3) := by decide +kernel
theorem dX3_wearsOf_50 : decode cX3_wearsOf 50 = .ok (.iload_n 1, 1) := by decide +kernel
theorem dX3_wearsOf_51 : decode cX3_wearsOf 51 = .ok (.iaload, 1) := by decide +kernel
theorem dX3_wearsOf_52 : decode cX3_wearsOf 52 = .ok (.bipush 100, 2) := by decide +kernel
theorem dX3_wearsOf_54 : decode cX3_wearsOf 54 = .ok (.idiv, 1) := by decide +kernel
theorem dX3_wearsOf_55 : decode cX3_wearsOf 55 = .ok (.ireturn, 1) := by decide +kernel
theorem dX3_wearsOf_56 : decode cX3_wearsOf 56 = .ok (.aload_n 0, 1) := by decide +kernel
theorem dX3_wearsOf_57 : decode cX3_wearsOf 57 = .ok (.iload_n 1, 1) := by decide +kernel
theorem dX3_wearsOf_58 : decode cX3_wearsOf 58 = .ok (.invokevirtual 89, 3) := by decide +kernel
theorem dX3_wearsOf_61 : decode cX3_wearsOf 61 = .ok (.ireturn, 1) := by decide +kernel
theorem dX3_wearsOf_62 : decode cX3_wearsOf 62 = .ok (.iconst 2, 1) := by decide +kernel
theorem dX3_wearsOf_63 : decode cX3_wearsOf 63 = .ok (.aload_n 0, 1) := by decide +kernel
theorem dX3_wearsOf_64 : decode cX3_wearsOf 64 = .ok (.iload_n 1, 1) := by decide +kernel
theorem dX3_wearsOf_65 : decode cX3_wearsOf 65 = .ok (.invokevirtual 89, 3) := by decide +kernel
theorem dX3_wearsOf_68 : decode cX3_wearsOf 68 = .ok (.imul, 1) := by decide +kernel
theorem dX3_wearsOf_69 : decode cX3_wearsOf 69 = .ok (.aload_n 0, 1) := by decide +kernel
theorem dX3_wearsOf_70 : decode cX3_wearsOf 70 = .ok (.getfield 18, 3) := by decide +kernel
theorem dX3_wearsOf_73 : decode cX3_wearsOf 73 = .ok (.iload_n 1, 1) := by decide +kernel
theorem dX3_wearsOf_74 : decode cX3_wearsOf 74 = .ok (.iaload, 1) := by decide +kernel
theorem dX3_wearsOf_75 : decode cX3_wearsOf 75 = .ok (.invokestatic 72, 3) := by decide +kernel
theorem dX3_wearsOf_78 : decode cX3_wearsOf 78 = .ok (.ireturn, 1) := by decide +kernel
theorem dX3_wearsOf_79 : decode cX3_wearsOf 79 = .ok (.iconst 0, 1) := by decide +kernel
theorem dX3_wearsOf_80 : decode cX3_wearsOf 80 = .ok (.ireturn, 1) := by decide +kernel
theorem dX3_wearsAsHerb_0 : decode cX3_wearsAsHerb 0 = .ok (.aload_n 0, 1) := by decide +kernel
theorem dX3_wearsAsHerb_1 : decode cX3_wearsAsHerb 1 = .ok (.getfield 18, 3) := by decide +kernel
theorem dX3_wearsAsHerb_4 : decode cX3_wearsAsHerb 4 = .ok (.iload_n 1, 1) := by decide +kernel
theorem dX3_wearsAsHerb_5 : decode cX3_wearsAsHerb 5 = .ok (.iaload, 1) := by decide +kernel
theorem dX3_wearsAsHerb_6 : decode cX3_wearsAsHerb 6 = .ok (.bipush 20, 2) := by decide +kernel
theorem dX3_wearsAsHerb_8 : decode cX3_wearsAsHerb 8 = .ok (.idiv, 1) := by decide +kernel
theorem dX3_wearsAsHerb_9 : decode cX3_wearsAsHerb 9 = .ok (.iconst 1, 1) := by decide +kernel
theorem dX3_wearsAsHerb_10 : decode cX3_wearsAsHerb 10 = .ok (.iadd, 1) := by decide +kernel
theorem dX3_wearsAsHerb_11 : decode cX3_wearsAsHerb 11 = .ok (.aload_n 0, 1) := by decide +kernel
theorem dX3_wearsAsHerb_12 : decode cX3_wearsAsHerb 12 = .ok (.getfield 18, 3) := by decide +kernel
theorem dX3_wearsAsHerb_15 : decode cX3_wearsAsHerb 15 = .ok (.iload_n 1, 1) := by decide +kernel
theorem dX3_wearsAsHerb_16 : decode cX3_wearsAsHerb 16 = .ok (.iaload, 1) := by decide +kernel
theorem dX3_wearsAsHerb_17 : decode cX3_wearsAsHerb 17 = .ok (.invokestatic 72, 3) := by decide +kernel
theorem dX3_wearsAsHerb_20 : decode cX3_wearsAsHerb 20 = .ok (.ireturn, 1) := by decide +kernel
theorem dX3_tasteOf_0 : decode cX3_tasteOf 0 = .ok (.aload_n 0, 1) := by decide +kernel
theorem dX3_tasteOf_1 : decode cX3_tasteOf 1 = .ok (.getfield 9, 3) := by decide +kernel
theorem dX3_tasteOf_4 : decode cX3_tasteOf 4 = .ok (.iload_n 1, 1) := by decide +kernel
theorem dX3_tasteOf_5 : decode cX3_tasteOf 5 = .ok (.iaload, 1) := by decide +kernel
theorem dX3_tasteOf_6 : decode cX3_tasteOf 6 = .ok (.tableswitch 70 1 5 #[34, 48, 40, 54, 62], 34) := by decide +kernel
theorem dX3_tasteOf_40 : decode cX3_tasteOf 40 = .ok (.aload_n 0, 1) := by decide +kernel
theorem dX3_tasteOf_41 : decode cX3_tasteOf 41 = .ok (.iload_n 1, 1) := by decide +kernel
theorem dX3_tasteOf_42 : decode cX3_tasteOf 42 = .ok (.invokevirtual 92, 3) := by decide +kernel
theorem dX3_tasteOf_45 : decode cX3_tasteOf 45 = .ok (.ireturn, 1) := by decide +kernel
theorem dX3_tasteOf_46 : decode cX3_tasteOf 46 = .ok (.iconst 2, 1) := by decide +kernel
theorem dX3_tasteOf_47 : decode cX3_tasteOf 47 = .ok (.aload_n 0, 1) := by decide +kernel
theorem dX3_tasteOf_48 : decode cX3_tasteOf 48 = .ok (.iload_n 1, 1) := by decide +kernel
theorem dX3_tasteOf_49 : decode cX3_tasteOf 49 = .ok (.invokevirtual 92, 3) := by decide +kernel
theorem dX3_tasteOf_52 : decode cX3_tasteOf 52 = .ok (.imul, 1) := by decide +kernel
theorem dX3_tasteOf_53 : decode cX3_tasteOf 53 = .ok (.ireturn, 1) := by decide +kernel
theorem dX3_tasteOf_54 : decode cX3_tasteOf 54 = .ok (.aload_n 0, 1) := by decide +kernel
theorem dX3_tasteOf_55 : decode cX3_tasteOf 55 = .ok (.iload_n 1, 1) := by decide +kernel
theorem dX3_tasteOf_56 : decode cX3_tasteOf 56 = .ok (.invokevirtual 95, 3) := by decide +kernel
theorem dX3_tasteOf_59 : decode cX3_tasteOf 59 = .ok (.ireturn, 1) := by decide +kernel
theorem dX3_tasteOf_60 : decode cX3_tasteOf 60 = .ok (.aload_n 0, 1) := by decide +kernel
theorem dX3_tasteOf_61 : decode cX3_tasteOf 61 = .ok (.iload_n 1, 1) := by decide +kernel
theorem dX3_tasteOf_62 : decode cX3_tasteOf 62 = .ok (.invokevirtual 95, 3) := by decide +kernel
theorem dX3_tasteOf_65 : decode cX3_tasteOf 65 = .ok (.iconst 2, 1) := by decide +kernel
theorem dX3_tasteOf_66 : decode cX3_tasteOf 66 = .ok (.idiv, 1) := by decide +kernel
theorem dX3_tasteOf_67 : decode cX3_tasteOf 67 = .ok (.ireturn, 1) := by decide +kernel
theorem dX3_tasteOf_68 : decode cX3_tasteOf 68 = .ok (.iconst 2, 1) := by decide +kernel
theorem dX3_tasteOf_69 : decode cX3_tasteOf 69 = .ok (.aload_n 0, 1) := by decide +kernel
theorem dX3_tasteOf_70 : decode cX3_tasteOf 70 = .ok (.iload_n 1, 1) := by decide +kernel
theorem dX3_tasteOf_71 : decode cX3_tasteOf 71 = .ok (.invokevirtual 98, 3) := by decide +kernel
theorem dX3_tasteOf_74 : decode cX3_tasteOf 74 = .ok (.imul, 1) := by decide +kernel
theorem dX3_tasteOf_75 : decode cX3_tasteOf 75 = .ok (.ireturn, 1) := by decide +kernel
theorem dX3_tasteOf_76 : decode cX3_tasteOf 76 = .ok (.aload_n 0, 1) := by decide +kernel
theorem dX3_tasteOf_77 : decode cX3_tasteOf 77 = .ok (.iload_n 1, 1) := by decide +kernel
theorem dX3_tasteOf_78 : decode cX3_tasteOf 78 = .ok (.invokevirtual 98, 3) := by decide +kernel
theorem dX3_tasteOf_81 : decode cX3_tasteOf 81 = .ok (.ireturn, 1) := by decide +kernel
theorem dX3_tasteAsThing_0 : decode cX3_tasteAsThing 0 = .ok (.aload_n 0, 1) := by decide +kernel
theorem dX3_tasteAsThing_1 : decode cX3_tasteAsThing 1 = .ok (.getfield 18, 3) := by decide +kernel
theorem dX3_tasteAsThing_4 : decode cX3_tasteAsThing 4 = .ok (.iload_n 1, 1) := by decide +kernel
theorem dX3_tasteAsThing_5 : decode cX3_tasteAsThing 5 = .ok (.iaload, 1) := by decide +kernel
theorem dX3_tasteAsThing_6 : decode cX3_tasteAsThing 6 = .ok (.aload_n 0, 1) := by decide +kernel
theorem dX3_tasteAsThing_7 : decode cX3_tasteAsThing 7 = .ok (.getfield 15, 3) := by decide +kernel
theorem dX3_tasteAsThing_10 : decode cX3_tasteAsThing 10 = .ok (.iload_n 1, 1) := by decide +kernel
theorem dX3_tasteAsThing_11 : decode cX3_tasteAsThing 11 = .ok (.iaload, 1) := by decide +kernel
theorem dX3_tasteAsThing_12 : decode cX3_tasteAsThing 12 = .ok (.imul, 1) := by decide +kernel
theorem dX3_tasteAsThing_13 : decode cX3_tasteAsThing 13 = .ok (.bipush 100, 2) := by decide +kernel
theorem dX3_tasteAsThing_15 : decode cX3_tasteAsThing 15 = .ok (.idiv, 1) := by decide +kernel
theorem dX3_tasteAsThing_16 : decode cX3_tasteAsThing 16 = .ok (.ireturn, 1) := by decide +kernel
theorem dX3_tasteAsBone_0 : decode cX3_tasteAsBone 0 = .ok (.aload_n 0, 1) := by decide +kernel
theorem dX3_tasteAsBone_1 : decode cX3_tasteAsBone 1 = .ok (.getfield 18, 3) := by decide +kernel
theorem dX3_tasteAsBone_4 : decode cX3_tasteAsBone 4 = .ok (.iload_n 1, 1) := by decide +kernel
theorem dX3_tasteAsBone_5 : decode cX3_tasteAsBone 5 = .ok (.iaload, 1) := by decide +kernel
theorem dX3_tasteAsBone_6 : decode cX3_tasteAsBone 6 = .ok (.ifCond .le 17, 3) := by decide +kernel
theorem dX3_tasteAsBone_9 : decode cX3_tasteAsBone 9 = .ok (.aload_n 0, 1) := by decide +kernel
theorem dX3_tasteAsBone_10 : decode cX3_tasteAsBone 10 = .ok (.getfield 21, 3) := by decide +kernel
theorem dX3_tasteAsBone_13 : decode cX3_tasteAsBone 13 = .ok (.iload_n 1, 1) := by decide +kernel
theorem dX3_tasteAsBone_14 : decode cX3_tasteAsBone 14 = .ok (.iaload, 1) := by decide +kernel
theorem dX3_tasteAsBone_15 : decode cX3_tasteAsBone 15 = .ok (.bipush 30, 2) := by decide +kernel
theorem dX3_tasteAsBone_17 : decode cX3_tasteAsBone 17 = .ok (.invokestatic 72, 3) := by decide +kernel
theorem dX3_tasteAsBone_20 : decode cX3_tasteAsBone 20 = .ok (.goto 4, 3) := by decide +kernel
theorem dX3_tasteAsBone_23 : decode cX3_tasteAsBone 23 = .ok (.iconst 0, 1) := by decide +kernel
theorem dX3_tasteAsBone_24 : decode cX3_tasteAsBone 24 = .ok (.istore_n 2, 1) := by decide +kernel
theorem dX3_tasteAsBone_25 : decode cX3_tasteAsBone 25 = .ok (.aload_n 0, 1) := by decide +kernel
theorem dX3_tasteAsBone_26 : decode cX3_tasteAsBone 26 = .ok (.iload_n 1, 1) := by decide +kernel
theorem dX3_tasteAsBone_27 : decode cX3_tasteAsBone 27 = .ok (.invokevirtual 98, 3) := by decide +kernel
theorem dX3_tasteAsBone_30 : decode cX3_tasteAsBone 30 = .ok (.iload_n 2, 1) := by decide +kernel
theorem dX3_tasteAsBone_31 : decode cX3_tasteAsBone 31 = .ok (.iadd, 1) := by decide +kernel
theorem dX3_tasteAsBone_32 : decode cX3_tasteAsBone 32 = .ok (.ireturn, 1) := by decide +kernel
theorem dX3_tasteAsHerb_0 : decode cX3_tasteAsHerb 0 = .ok (.aload_n 0, 1) := by decide +kernel
theorem dX3_tasteAsHerb_1 : decode cX3_tasteAsHerb 1 = .ok (.iload_n 1, 1) := by decide +kernel
theorem dX3_tasteAsHerb_2 : decode cX3_tasteAsHerb 2 = .ok (.invokevirtual 98, 3) := by decide +kernel
theorem dX3_tasteAsHerb_5 : decode cX3_tasteAsHerb 5 = .ok (.istore_n 2, 1) := by decide +kernel
theorem dX3_tasteAsHerb_6 : decode cX3_tasteAsHerb 6 = .ok (.iload_n 2, 1) := by decide +kernel
theorem dX3_tasteAsHerb_7 : decode cX3_tasteAsHerb 7 = .ok (.ifCond .ne 5, 3) := by decide +kernel
theorem dX3_tasteAsHerb_10 : decode cX3_tasteAsHerb 10 = .ok (.iconst 0, 1) := by decide +kernel
theorem dX3_tasteAsHerb_11 : decode cX3_tasteAsHerb 11 = .ok (.ireturn, 1) := by decide +kernel
theorem dX3_tasteAsHerb_12 : decode cX3_tasteAsHerb 12 = .ok (.aload_n 0, 1) := by decide +kernel
theorem dX3_tasteAsHerb_13 : decode cX3_tasteAsHerb 13 = .ok (.getfield 24, 3) := by decide +kernel
theorem dX3_tasteAsHerb_16 : decode cX3_tasteAsHerb 16 = .ok (.iconst 0, 1) := by decide +kernel
theorem dX3_tasteAsHerb_17 : decode cX3_tasteAsHerb 17 = .ok (.iaload, 1) := by decide +kernel
theorem dX3_tasteAsHerb_18 : decode cX3_tasteAsHerb 18 = .ok (.istore_n 3, 1) := by decide +kernel
theorem dX3_tasteAsHerb_19 : decode cX3_tasteAsHerb 19 = .ok (.iload_n 3, 1) := by decide +kernel
theorem dX3_tasteAsHerb_20 : decode cX3_tasteAsHerb 20 = .ok (.ifCond .ge 14, 3) := by decide +kernel
theorem dX3_tasteAsHerb_23 : decode cX3_tasteAsHerb 23 = .ok (.aload_n 0, 1) := by decide +kernel
theorem dX3_tasteAsHerb_24 : decode cX3_tasteAsHerb 24 = .ok (.getfield 21, 3) := by decide +kernel
theorem dX3_tasteAsHerb_27 : decode cX3_tasteAsHerb 27 = .ok (.iload_n 1, 1) := by decide +kernel
theorem dX3_tasteAsHerb_28 : decode cX3_tasteAsHerb 28 = .ok (.iaload, 1) := by decide +kernel
theorem dX3_tasteAsHerb_29 : decode cX3_tasteAsHerb 29 = .ok (.iconst 2, 1) := by decide +kernel
theorem dX3_tasteAsHerb_30 : decode cX3_tasteAsHerb 30 = .ok (.imul, 1) := by decide +kernel
theorem dX3_tasteAsHerb_31 : decode cX3_tasteAsHerb 31 = .ok (.goto 24, 3) := by decide +kernel
theorem dX3_tasteAsHerb_34 : decode cX3_tasteAsHerb 34 = .ok (.aload_n 0, 1) := by decide +kernel
theorem dX3_tasteAsHerb_35 : decode cX3_tasteAsHerb 35 = .ok (.getfield 52, 3) := by decide +kernel
theorem dX3_tasteAsHerb_38 : decode cX3_tasteAsHerb 38 = .ok (.iload_n 3, 1) := by decide +kernel
theorem dX3_tasteAsHerb_39 : decode cX3_tasteAsHerb 39 = .ok (.aload_n 0, 1) := by decide +kernel
theorem dX3_tasteAsHerb_40 : decode cX3_tasteAsHerb 40 = .ok (.getfield 18, 3) := by decide +kernel
theorem dX3_tasteAsHerb_43 : decode cX3_tasteAsHerb 43 = .ok (.iload_n 1, 1) := by decide +kernel
theorem dX3_tasteAsHerb_44 : decode cX3_tasteAsHerb 44 = .ok (.iaload, 1) := by decide +kernel
theorem dX3_tasteAsHerb_45 : decode cX3_tasteAsHerb 45 = .ok (.aload_n 0, 1) := by decide +kernel
theorem dX3_tasteAsHerb_46 : decode cX3_tasteAsHerb 46 = .ok (.getfield 21, 3) := by decide +kernel
theorem dX3_tasteAsHerb_49 : decode cX3_tasteAsHerb 49 = .ok (.iload_n 1, 1) := by decide +kernel
theorem dX3_tasteAsHerb_50 : decode cX3_tasteAsHerb 50 = .ok (.iaload, 1) := by decide +kernel
theorem dX3_tasteAsHerb_51 : decode cX3_tasteAsHerb 51 = .ok (.iload_n 2, 1) := by decide +kernel
theorem dX3_tasteAsHerb_52 : decode cX3_tasteAsHerb 52 = .ok (.invokevirtual 101, 3) := by decide +kernel
theorem dX3_tasteAsHerb_55 : decode cX3_tasteAsHerb 55 = .ok (.istore 4, 2) := by decide +kernel
theorem dX3_tasteAsHerb_57 : decode cX3_tasteAsHerb 57 = .ok (.iload_n 2, 1) := by decide +kernel
theorem dX3_tasteAsHerb_58 : decode cX3_tasteAsHerb 58 = .ok (.iload 4, 2) := by decide +kernel
theorem dX3_tasteAsHerb_60 : decode cX3_tasteAsHerb 60 = .ok (.iload_n 2, 1) := by decide +kernel
theorem dX3_tasteAsHerb_61 : decode cX3_tasteAsHerb 61 = .ok (.invokestatic 107, 3) := by decide +kernel
theorem dX3_tasteAsHerb_64 : decode cX3_tasteAsHerb 64 = .ok (.isub, 1) := by decide +kernel
theorem dX3_tasteAsHerb_65 : decode cX3_tasteAsHerb 65 = .ok (.ireturn, 1) := by decide +kernel
theorem dX3_billOf_0 : decode cX3_billOf 0 = .ok (.aload_n 0, 1) := by decide +kernel
theorem dX3_billOf_1 : decode cX3_billOf 1 = .ok (.getfield 24, 3) := by decide +kernel
theorem dX3_billOf_4 : decode cX3_billOf 4 = .ok (.iconst 1, 1) := by decide +kernel
theorem dX3_billOf_5 : decode cX3_billOf 5 = .ok (.iaload, 1) := by decide +kernel
theorem dX3_billOf_6 : decode cX3_billOf 6 = .ok (.istore_n 2, 1) := by decide +kernel
theorem dX3_billOf_7 : decode cX3_billOf 7 = .ok (.aload_n 0, 1) := by decide +kernel
theorem dX3_billOf_8 : decode cX3_billOf 8 = .ok (.iload_n 1, 1) := by decide +kernel
theorem dX3_billOf_9 : decode cX3_billOf 9 = .ok (.invokevirtual 110, 3) := by decide +kernel
theorem dX3_billOf_12 : decode cX3_billOf 12 = .ok (.istore_n 3, 1) := by decide +kernel
theorem dX3_billOf_13 : decode cX3_billOf 13 = .ok (.iload_n 2, 1) := by decide +kernel
theorem dX3_billOf_14 : decode cX3_billOf 14 = .ok (.ifCond .ge 7, 3) := by decide +kernel
theorem dX3_billOf_17 : decode cX3_billOf 17 = .ok (.iload_n 3, 1) := by decide +kernel
theorem dX3_billOf_18 : decode cX3_billOf 18 = .ok (.goto 28, 3) := by decide +kernel
theorem dX3_billOf_21 : decode cX3_billOf 21 = .ok (.aload_n 0, 1) := by decide +kernel
theorem dX3_billOf_22 : decode cX3_billOf 22 = .ok (.getfield 52, 3) := by decide +kernel
theorem dX3_billOf_25 : decode cX3_billOf 25 = .ok (.iload_n 2, 1) := by decide +kernel
theorem dX3_billOf_26 : decode cX3_billOf 26 = .ok (.iload_n 3, 1) := by decide +kernel
theorem dX3_billOf_27 : decode cX3_billOf 27 = .ok (.aload_n 0, 1) := by decide +kernel
theorem dX3_billOf_28 : decode cX3_billOf 28 = .ok (.getfield 9, 3) := by decide +kernel
theorem dX3_billOf_31 : decode cX3_billOf 31 = .ok (.iload_n 1, 1) := by decide +kernel
theorem dX3_billOf_32 : decode cX3_billOf 32 = .ok (.iaload, 1) := by decide +kernel
theorem dX3_billOf_33 : decode cX3_billOf 33 = .ok (.aload_n 0, 1) := by decide +kernel
theorem dX3_billOf_34 : decode cX3_billOf 34 = .ok (.getfield 15, 3) := by decide +kernel
theorem dX3_billOf_37 : decode cX3_billOf 37 = .ok (.iload_n 1, 1) := by decide +kernel
theorem dX3_billOf_38 : decode cX3_billOf 38 = .ok (.iaload, 1) := by decide +kernel
theorem dX3_billOf_39 : decode cX3_billOf 39 = .ok (.invokestatic 113, 3) := by decide +kernel
theorem dX3_billOf_42 : decode cX3_billOf 42 = .ok (.iconst 0, 1) := by decide +kernel
theorem dX3_billOf_43 : decode cX3_billOf 43 = .ok (.invokevirtual 101, 3) := by decide +kernel
theorem dX3_billOf_46 : decode cX3_billOf 46 = .ok (.ireturn, 1) := by decide +kernel
theorem dX3_shareOf_0 : decode cX3_shareOf 0 = .ok (.aload_n 0, 1) := by decide +kernel
theorem dX3_shareOf_1 : decode cX3_shareOf 1 = .ok (.invokevirtual 116, 3) := by decide +kernel
theorem dX3_shareOf_4 : decode cX3_shareOf 4 = .ok (.istore_n 2, 1) := by decide +kernel
theorem dX3_shareOf_5 : decode cX3_shareOf 5 = .ok (.iload_n 2, 1) := by decide +kernel
theorem dX3_shareOf_6 : decode cX3_shareOf 6 = .ok (.ifCond .ne 7, 3) := by decide +kernel
theorem dX3_shareOf_9 : decode cX3_shareOf 9 = .ok (.iconst 0, 1) := by decide +kernel
theorem dX3_shareOf_10 : decode cX3_shareOf 10 = .ok (.goto 18, 3) := by decide +kernel
theorem dX3_shareOf_13 : decode cX3_shareOf 13 = .ok (.ldc2_w 119, 3) := by decide +kernel
theorem dX3_shareOf_16 : decode cX3_shareOf 16 = .ok (.aload_n 0, 1) := by decide +kernel
theorem dX3_shareOf_17 : decode cX3_shareOf 17 = .ok (.getfield 18, 3) := by decide +kernel
theorem dX3_shareOf_20 : decode cX3_shareOf 20 = .ok (.iload_n 1, 1) := by decide +kernel
theorem dX3_shareOf_21 : decode cX3_shareOf 21 = .ok (.iaload, 1) := by decide +kernel
theorem dX3_shareOf_22 : decode cX3_shareOf 22 = .ok (.i2l, 1) := by decide +kernel
theorem dX3_shareOf_23 : decode cX3_shareOf 23 = .ok (.lmul, 1) := by decide +kernel
theorem dX3_shareOf_24 : decode cX3_shareOf 24 = .ok (.iload_n 2, 1) := by decide +kernel
theorem dX3_shareOf_25 : decode cX3_shareOf 25 = .ok (.i2l, 1) := by decide +kernel
theorem dX3_shareOf_26 : decode cX3_shareOf 26 = .ok (.ldiv, 1) := by decide +kernel
theorem dX3_shareOf_27 : decode cX3_shareOf 27 = .ok (.l2i, 1) := by decide +kernel
theorem dX3_shareOf_28 : decode cX3_shareOf 28 = .ok (.ireturn, 1) := by decide +kernel
theorem dX3_tasteOfAll_0 : decode cX3_tasteOfAll 0 = .ok (.iconst 0, 1) := by decide +kernel
theorem dX3_tasteOfAll_1 : decode cX3_tasteOfAll 1 = .ok (.istore_n 1, 1) := by decide +kernel
theorem dX3_tasteOfAll_2 : decode cX3_tasteOfAll 2 = .ok (.iconst 0, 1) := by decide +kernel
theorem dX3_tasteOfAll_3 : decode cX3_tasteOfAll 3 = .ok (.istore_n 2, 1) := by decide +kernel
theorem dX3_tasteOfAll_4 : decode cX3_tasteOfAll 4 = .ok (.iload_n 2, 1) := by decide +kernel
theorem dX3_tasteOfAll_5 : decode cX3_tasteOfAll 5 = .ok (.aload_n 0, 1) := by decide +kernel
theorem dX3_tasteOfAll_6 : decode cX3_tasteOfAll 6 = .ok (.getfield 27, 3) := by decide +kernel
theorem dX3_tasteOfAll_9 : decode cX3_tasteOfAll 9 = .ok (.if_icmp .ge 17, 3) := by decide +kernel
theorem dX3_tasteOfAll_12 : decode cX3_tasteOfAll 12 = .ok (.iload_n 1, 1) := by decide +kernel
theorem dX3_tasteOfAll_13 : decode cX3_tasteOfAll 13 = .ok (.aload_n 0, 1) := by decide +kernel
theorem dX3_tasteOfAll_14 : decode cX3_tasteOfAll 14 = .ok (.iload_n 2, 1) := by decide +kernel
theorem dX3_tasteOfAll_15 : decode cX3_tasteOfAll 15 = .ok (.invokevirtual 110, 3) := by decide +kernel
theorem dX3_tasteOfAll_18 : decode cX3_tasteOfAll 18 = .ok (.iadd, 1) := by decide +kernel
theorem dX3_tasteOfAll_19 : decode cX3_tasteOfAll 19 = .ok (.istore_n 1, 1) := by decide +kernel
theorem dX3_tasteOfAll_20 : decode cX3_tasteOfAll 20 = .ok (.iinc 2 1, 3) := by decide +kernel
theorem dX3_tasteOfAll_23 : decode cX3_tasteOfAll 23 = .ok (.goto (-19), 3) := by decide +kernel
theorem dX3_tasteOfAll_26 : decode cX3_tasteOfAll 26 = .ok (.iload_n 1, 1) := by decide +kernel
theorem dX3_tasteOfAll_27 : decode cX3_tasteOfAll 27 = .ok (.ireturn, 1) := by decide +kernel
theorem dX3_amountOfAll_0 : decode cX3_amountOfAll 0 = .ok (.iconst 0, 1) := by decide +kernel
theorem dX3_amountOfAll_1 : decode cX3_amountOfAll 1 = .ok (.istore_n 1, 1) := by decide +kernel
theorem dX3_amountOfAll_2 : decode cX3_amountOfAll 2 = .ok (.iconst 0, 1) := by decide +kernel
theorem dX3_amountOfAll_3 : decode cX3_amountOfAll 3 = .ok (.istore_n 2, 1) := by decide +kernel
theorem dX3_amountOfAll_4 : decode cX3_amountOfAll 4 = .ok (.iload_n 2, 1) := by decide +kernel
theorem dX3_amountOfAll_5 : decode cX3_amountOfAll 5 = .ok (.aload_n 0, 1) := by decide +kernel
theorem dX3_amountOfAll_6 : decode cX3_amountOfAll 6 = .ok (.getfield 27, 3) := by decide +kernel
theorem dX3_amountOfAll_9 : decode cX3_amountOfAll 9 = .ok (.if_icmp .ge 18, 3) := by decide +kernel
theorem dX3_amountOfAll_12 : decode cX3_amountOfAll 12 = .ok (.iload_n 1, 1) := by decide +kernel
theorem dX3_amountOfAll_13 : decode cX3_amountOfAll 13 = .ok (.aload_n 0, 1) := by decide +kernel
theorem dX3_amountOfAll_14 : decode cX3_amountOfAll 14 = .ok (.getfield 18, 3) := by decide +kernel
theorem dX3_amountOfAll_17 : decode cX3_amountOfAll 17 = .ok (.iload_n 2, 1) := by decide +kernel
theorem dX3_amountOfAll_18 : decode cX3_amountOfAll 18 = .ok (.iaload, 1) := by decide +kernel
theorem dX3_amountOfAll_19 : decode cX3_amountOfAll 19 = .ok (.iadd, 1) := by decide +kernel
theorem dX3_amountOfAll_20 : decode cX3_amountOfAll 20 = .ok (.istore_n 1, 1) := by decide +kernel
theorem dX3_amountOfAll_21 : decode cX3_amountOfAll 21 = .ok (.iinc 2 1, 3) := by decide +kernel
theorem dX3_amountOfAll_24 : decode cX3_amountOfAll 24 = .ok (.goto (-20), 3) := by decide +kernel
theorem dX3_amountOfAll_27 : decode cX3_amountOfAll 27 = .ok (.iload_n 1, 1) := by decide +kernel
theorem dX3_amountOfAll_28 : decode cX3_amountOfAll 28 = .ok (.ireturn, 1) := by decide +kernel
theorem dX4_init_0 : decode cX4_init 0 = .ok (.aload_n 0, 1) := by decide +kernel
theorem dX4_init_1 : decode cX4_init 1 = .ok (.invokespecial 3, 3) := by decide +kernel
theorem dX4_init_4 : decode cX4_init 4 = .ok (.aload_n 0, 1) := by decide +kernel
theorem dX4_init_5 : decode cX4_init 5 = .ok (.bipush 96, 2) := by decide +kernel
theorem dX4_init_7 : decode cX4_init 7 = .ok (.newarray .byte, 2) := by decide +kernel
theorem dX4_init_9 : decode cX4_init 9 = .ok (.putfield 9, 3) := by decide +kernel
theorem dX4_init_12 : decode cX4_init 12 = .ok (.aload_n 0, 1) := by decide +kernel
theorem dX4_init_13 : decode cX4_init 13 = .ok (.bipush 96, 2) := by decide +kernel
theorem dX4_init_15 : decode cX4_init 15 = .ok (.newarray .int, 2) := by decide +kernel
theorem dX4_init_17 : decode cX4_init 17 = .ok (.putfield 15, 3) := by decide +kernel
theorem dX4_init_20 : decode cX4_init 20 = .ok (.aload_n 0, 1) := by decide +kernel
theorem dX4_init_21 : decode cX4_init 21 = .ok (.iconst 0, 1) := by decide +kernel
theorem dX4_init_22 : decode cX4_init 22 = .ok (.putfield 19, 3) := by decide +kernel
theorem dX4_init_25 : decode cX4_init 25 = .ok (.aload_n 0, 1) := by decide +kernel
theorem dX4_init_26 : decode cX4_init 26 = .ok (.iconst (-1), 1) := by decide +kernel
theorem dX4_init_27 : decode cX4_init 27 = .ok (.putfield 23, 3) := by decide +kernel
theorem dX4_init_30 : decode cX4_init 30 = .ok (.aload_n 0, 1) := by decide +kernel
theorem dX4_init_31 : decode cX4_init 31 = .ok (.iconst 0, 1) := by decide +kernel
theorem dX4_init_32 : decode cX4_init 32 = .ok (.putfield 26, 3) := by decide +kernel
theorem dX4_init_35 : decode cX4_init 35 = .ok (.aload_n 0, 1) := by decide +kernel
theorem dX4_init_36 : decode cX4_init 36 = .ok (.iconst 0, 1) := by decide +kernel
theorem dX4_init_37 : decode cX4_init 37 = .ok (.putfield 29, 3) := by decide +kernel
theorem dX4_init_40 : decode cX4_init 40 = .ok (.aload_n 0, 1) := by decide +kernel
theorem dX4_init_41 : decode cX4_init 41 = .ok (.iconst 0, 1) := by decide +kernel
theorem dX4_init_42 : decode cX4_init 42 = .ok (.putfield 32, 3) := by decide +kernel
theorem dX4_init_45 : decode cX4_init 45 = .ok (.aload_n 0, 1) := by decide +kernel
theorem dX4_init_46 : decode cX4_init 46 = .ok (.iconst 0, 1) := by decide +kernel
theorem dX4_init_47 : decode cX4_init 47 = .ok (.putfield 35, 3) := by decide +kernel
theorem dX4_init_50 : decode cX4_init 50 = .ok (.aload_n 0, 1) := by decide +kernel
theorem dX4_init_51 : decode cX4_init 51 = .ok (.iconst 0, 1) := by decide +kernel
theorem dX4_init_52 : decode cX4_init 52 = .ok (.putfield 38, 3) := by decide +kernel
theorem dX4_init_55 : decode cX4_init 55 = .ok (.return_, 1) := by decide +kernel
theorem dX4_addNumber_0 : decode cX4_addNumber 0 = .ok (.bipush 24, 2) := by decide +kernel
theorem dX4_addNumber_2 : decode cX4_addNumber 2 = .ok (.istore_n 2, 1) := by decide +kernel
theorem dX4_addNumber_3 : decode cX4_addNumber 3 = .ok (.iload_n 2, 1) := by decide +kernel
theorem dX4_addNumber_4 : decode cX4_addNumber 4 = .ok (.ifCond .lt 41, 3) := by decide +kernel
theorem dX4_addNumber_7 : decode cX4_addNumber 7 = .ok (.aload_n 0, 1) := by decide +kernel
theorem dX4_addNumber_8 : decode cX4_addNumber 8 = .ok (.getfield 19, 3) := by decide +kernel
theorem dX4_addNumber_11 : decode cX4_addNumber 11 = .ok (.bipush 96, 2) := by decide +kernel
theorem dX4_addNumber_13 : decode cX4_addNumber 13 = .ok (.if_icmp .ge 26, 3) := by decide +kernel
theorem dX4_addNumber_16 : decode cX4_addNumber 16 = .ok (.aload_n 0, 1) := by decide +kernel
theorem dX4_addNumber_17 : decode cX4_addNumber 17 = .ok (.getfield 9, 3) := by decide +kernel
theorem dX4_addNumber_20 : decode cX4_addNumber 20 = .ok (.aload_n 0, 1) := by decide +kernel
theorem dX4_addNumber_21 : decode cX4_addNumber 21 = .ok (.getfield 19, 3) := by decide +kernel
theorem dX4_addNumber_24 : decode cX4_addNumber 24 = .ok (.iload_n 1, 1) := by decide +kernel
theorem dX4_addNumber_25 : decode cX4_addNumber 25 = .ok (.iload_n 2, 1) := by decide +kernel
theorem dX4_addNumber_26 : decode cX4_addNumber 26 = .ok (.ishr, 1) := by decide +kernel
theorem dX4_addNumber_27 : decode cX4_addNumber 27 = .ok (.i2b, 1) := by decide +kernel
theorem dX4_addNumber_28 : decode cX4_addNumber 28 = .ok (.bastore, 1) := by decide +kernel
theorem dX4_addNumber_29 : decode cX4_addNumber 29 = .ok (.aload_n 0, 1) := by decide +kernel
theorem dX4_addNumber_30 : decode cX4_addNumber 30 = .ok (.dup, 1) := by decide +kernel
theorem dX4_addNumber_31 : decode cX4_addNumber 31 = .ok (.getfield 19, 3) := by decide +kernel
theorem dX4_addNumber_34 : decode cX4_addNumber 34 = .ok (.iconst 1, 1) := by decide +kernel
theorem dX4_addNumber_35 : decode cX4_addNumber 35 = .ok (.iadd, 1) := by decide +kernel
theorem dX4_addNumber_36 : decode cX4_addNumber 36 = .ok (.putfield 19, 3) := by decide +kernel
theorem dX4_addNumber_39 : decode cX4_addNumber 39 = .ok (.iinc 2 (-8), 3) := by decide +kernel
theorem dX4_addNumber_42 : decode cX4_addNumber 42 = .ok (.goto (-39), 3) := by decide +kernel
theorem dX4_addNumber_45 : decode cX4_addNumber 45 = .ok (.return_, 1) := by decide +kernel
theorem dX4_readText_0 : decode cX4_readText 0 = .ok (.aload_n 0, 1) := by decide +kernel
theorem dX4_readText_1 : decode cX4_readText 1 = .ok (.iconst 0, 1) := by decide +kernel
theorem dX4_readText_2 : decode cX4_readText 2 = .ok (.putfield 29, 3) := by decide +kernel
theorem dX4_readText_5 : decode cX4_readText 5 = .ok (.aload_n 0, 1) := by decide +kernel
theorem dX4_readText_6 : decode cX4_readText 6 = .ok (.iconst (-1), 1) := by decide +kernel
theorem dX4_readText_7 : decode cX4_readText 7 = .ok (.putfield 23, 3) := by decide +kernel
theorem dX4_readText_10 : decode cX4_readText 10 = .ok (.aload_n 0, 1) := by decide +kernel
theorem dX4_readText_11 : decode cX4_readText 11 = .ok (.iconst 0, 1) := by decide +kernel
theorem dX4_readText_12 : decode cX4_readText 12 = .ok (.putfield 35, 3) := by decide +kernel
theorem dX4_readText_15 : decode cX4_readText 15 = .ok (.aload_n 0, 1) := by decide +kernel
theorem dX4_readText_16 : decode cX4_readText 16 = .ok (.iconst 0, 1) := by decide +kernel
theorem dX4_readText_17 : decode cX4_readText 17 = .ok (.putfield 38, 3) := by decide +kernel
theorem dX4_readText_20 : decode cX4_readText 20 = .ok (.aload_n 0, 1) := by decide +kernel
theorem dX4_readText_21 : decode cX4_readText 21 = .ok (.invokevirtual 41, 3) := by decide +kernel
theorem dX4_readText_24 : decode cX4_readText 24 = .ok (.aload_n 0, 1) := by decide +kernel
theorem dX4_readText_25 : decode cX4_readText 25 = .ok (.invokevirtual 44, 3) := by decide +kernel
theorem dX4_readText_28 : decode cX4_readText 28 = .ok (.ifCond .ne 5, 3) := by decide +kernel
theorem dX4_readText_31 : decode cX4_readText 31 = .ok (.iconst 0, 1) := by decide +kernel
theorem dX4_readText_32 : decode cX4_readText 32 = .ok (.ireturn, 1) := by decide +kernel
theorem dX4_readText_33 : decode cX4_readText 33 = .ok (.aload_n 0, 1) := by decide +kernel
theorem dX4_readText_34 : decode cX4_readText 34 = .ok (.invokevirtual 41, 3) := by decide +kernel
theorem dX4_readText_37 : decode cX4_readText 37 = .ok (.aload_n 0, 1) := by decide +kernel
theorem dX4_readText_38 : decode cX4_readText 38 = .ok (.iconst 0, 1) := by decide +kernel
theorem dX4_readText_39 : decode cX4_readText 39 = .ok (.iconst 0, 1) := by decide +kernel
theorem dX4_readText_40 : decode cX4_readText 40 = .ok (.invokevirtual 48, 3) := by decide +kernel
theorem dX4_readText_43 : decode cX4_readText 43 = .ok (.ifCond .eq 15, 3) := by decide +kernel
theorem dX4_readText_46 : decode cX4_readText 46 = .ok (.aload_n 0, 1) := by decide +kernel
theorem dX4_readText_47 : decode cX4_readText 47 = .ok (.getfield 23, 3) := by decide +kernel
theorem dX4_readText_50 : decode cX4_readText 50 = .ok (.iconst (-1), 1) := by decide +kernel
theorem dX4_readText_51 : decode cX4_readText 51 = .ok (.if_icmp .ne 7, 3) := by decide +kernel
theorem dX4_readText_54 : decode cX4_readText 54 = .ok (.iconst 1, 1) := by decide +kernel
theorem dX4_readText_55 : decode cX4_readText 55 = .ok (.goto 4, 3) := by decide +kernel
theorem dX4_readText_58 : decode cX4_readText 58 = .ok (.iconst 0, 1) := by decide +kernel
theorem dX4_readText_59 : decode cX4_readText 59 = .ok (.ireturn, 1) := by decide +kernel
theorem dX4_next_0 : decode cX4_next 0 = .ok (.aload_n 0, 1) := by decide +kernel
theorem dX4_next_1 : decode cX4_next 1 = .ok (.getfield 23, 3) := by decide +kernel
theorem dX4_next_4 : decode cX4_next 4 = .ok (.bipush (-2), 2) := by decide +kernel
theorem dX4_next_6 : decode cX4_next 6 = .ok (.if_icmp .eq 12, 3) := by decide +kernel
theorem dX4_next_9 : decode cX4_next 9 = .ok (.aload_n 0, 1) := by decide +kernel
theorem dX4_next_10 : decode cX4_next 10 = .ok (.getfield 23, 3) := by decide +kernel
theorem dX4_next_13 : decode cX4_next 13 = .ok (.bipush (-3), 2) := by decide +kernel
theorem dX4_next_15 : decode cX4_next 15 = .ok (.if_icmp .ne 7, 3) := by decide +kernel
theorem dX4_next_18 : decode cX4_next 18 = .ok (.iconst 1, 1) := by decide +kernel
theorem dX4_next_19 : decode cX4_next 19 = .ok (.goto 4, 3) := by decide +kernel
theorem dX4_next_22 : decode cX4_next 22 = .ok (.iconst 0, 1) := by decide +kernel
theorem dX4_next_23 : decode cX4_next 23 = .ok (.istore_n 1, 1) := by decide +kernel
theorem dX4_next_24 : decode cX4_next 24 = .ok (.aload_n 0, 1) := by decide +kernel
theorem dX4_next_25 : decode cX4_next 25 = .ok (.aload_n 0, 1) := by decide +kernel
theorem dX4_next_26 : decode cX4_next 26 = .ok (.getfield 29, 3) := by decide +kernel
theorem dX4_next_29 : decode cX4_next 29 = .ok (.putfield 26, 3) := by decide +kernel
theorem dX4_next_32 : decode cX4_next 32 = .ok (.aload_n 0, 1) := by decide +kernel
theorem dX4_next_33 : decode cX4_next 33 = .ok (.getfield 26, 3) := by decide +kernel
theorem dX4_next_36 : decode cX4_next 36 = .ok (.aload_n 0, 1) := by decide +kernel
theorem dX4_next_37 : decode cX4_next 37 = .ok (.getfield 19, 3) := by decide +kernel
theorem dX4_next_40 : decode cX4_next 40 = .ok (.if_icmp .ge 30, 3) := by decide +kernel
theorem dX4_next_43 : decode cX4_next 43 = .ok (.aload_n 0, 1) := by decide +kernel
theorem dX4_next_44 : decode cX4_next 44 = .ok (.getfield 9, 3) := by decide +kernel
theorem dX4_next_47 : decode cX4_next 47 = .ok (.aload_n 0, 1) := by decide +kernel
theorem dX4_next_48 : decode cX4_next 48 = .ok (.getfield 26, 3) := by decide +kernel
theorem dX4_next_51 : decode cX4_next 51 = .ok (.baload, 1) := by decide +kernel
theorem dX4_next_52 : decode cX4_next 52 = .ok (.bipush 32, 2) := by decide +kernel
theorem dX4_next_54 : decode cX4_next 54 = .ok (.if_icmp .ne 16, 3) := by decide +kernel
theorem dX4_next_57 : decode cX4_next 57 = .ok (.aload_n 0, 1) := by decide +kernel
theorem dX4_next_58 : decode cX4_next 58 = .ok (.dup, 1) := by decide +kernel
theorem dX4_next_59 : decode cX4_next 59 = .ok (.getfield 26, 3) := by decide +kernel
theorem dX4_next_62 : decode cX4_next 62 = .ok (.iconst 1, 1) := by decide +kernel
theorem dX4_next_63 : decode cX4_next 63 = .ok (.iadd, 1) := by decide +kernel
theorem dX4_next_64 : decode cX4_next 64 = .ok (.putfield 26, 3) := by decide +kernel
theorem dX4_next_67 : decode cX4_next 67 = .ok (.goto (-35), 3) := by decide +kernel
theorem dX4_next_70 : decode cX4_next 70 = .ok (.iload_n 1, 1) := by decide +kernel
theorem dX4_next_71 : decode cX4_next 71 = .ok (.ifCond .eq 18, 3) := by decide +kernel
theorem dX4_next_74 : decode cX4_next 74 = .ok (.aload_n 0, 1) := by decide +kernel
theorem dX4_next_75 : decode cX4_next 75 = .ok (.getfield 26, 3) := by decide +kernel
theorem dX4_next_78 : decode cX4_next 78 = .ok (.aload_n 0, 1) := by decide +kernel
theorem dX4_next_79 : decode cX4_next 79 = .ok (.getfield 29, 3) := by decide +kernel
theorem dX4_next_82 : decode cX4_next 82 = .ok (.if_icmp .ne 7, 3) := by decide +kernel
theorem dX4_next_85 : decode cX4_next 85 = .ok (.iconst 1, 1) := by decide +kernel
theorem dX4_next_86 : decode cX4_next 86 = .ok (.goto 4, 3) := by decide +kernel
theorem dX4_next_89 : decode cX4_next 89 = .ok (.iconst 0, 1) := by decide +kernel
theorem dX4_next_90 : decode cX4_next 90 = .ok (.istore_n 2, 1) := by decide +kernel
theorem dX4_next_91 : decode cX4_next 91 = .ok (.aload_n 0, 1) := by decide +kernel
theorem dX4_next_92 : decode cX4_next 92 = .ok (.aload_n 0, 1) := by decide +kernel
theorem dX4_next_93 : decode cX4_next 93 = .ok (.getfield 26, 3) := by decide +kernel
theorem dX4_next_96 : decode cX4_next 96 = .ok (.putfield 29, 3) := by decide +kernel
theorem dX4_next_99 : decode cX4_next 99 = .ok (.aload_n 0, 1) := by decide +kernel
theorem dX4_next_100 : decode cX4_next 100 = .ok (.getfield 26, 3) := by decide +kernel
theorem dX4_next_103 : decode cX4_next 103 = .ok (.aload_n 0, 1) := by decide +kernel
theorem dX4_next_104 : decode cX4_next 104 = .ok (.getfield 19, 3) := by decide +kernel
theorem dX4_next_107 : decode cX4_next 107 = .ok (.if_icmp .lt 11, 3) := by decide +kernel
theorem dX4_next_110 : decode cX4_next 110 = .ok (.aload_n 0, 1) := by decide +kernel
theorem dX4_next_111 : decode cX4_next 111 = .ok (.iconst (-1), 1) := by decide +kernel
theorem dX4_next_112 : decode cX4_next 112 = .ok (.putfield 23, 3) := by decide +kernel
theorem dX4_next_115 : decode cX4_next 115 = .ok (.goto 171, 3) := by decide +kernel
theorem dX4_next_118 : decode cX4_next 118 = .ok (.aload_n 0, 1) := by decide +kernel
theorem dX4_next_119 : decode cX4_next 119 = .ok (.aload_n 0, 1) := by decide +kernel
theorem dX4_next_120 : decode cX4_next 120 = .ok (.getfield 26, 3) := by decide +kernel
theorem dX4_next_123 : decode cX4_next 123 = .ok (.invokevirtual 52, 3) := by decide +kernel
theorem dX4_next_126 : decode cX4_next 126 = .ok (.ifCond .eq 56, 3) := by decide +kernel
theorem dX4_next_129 : decode cX4_next 129 = .ok (.aload_n 0, 1) := by decide +kernel
theorem dX4_next_130 : decode cX4_next 130 = .ok (.getfield 29, 3) := by decide +kernel
theorem dX4_next_133 : decode cX4_next 133 = .ok (.aload_n 0, 1) := by decide +kernel
theorem dX4_next_134 : decode cX4_next 134 = .ok (.getfield 19, 3) := by decide +kernel
theorem dX4_next_137 : decode cX4_next 137 = .ok (.if_icmp .ge 27, 3) := by decide +kernel
theorem dX4_next_140 : decode cX4_next 140 = .ok (.aload_n 0, 1) := by decide +kernel
theorem dX4_next_141 : decode cX4_next 141 = .ok (.aload_n 0, 1) := by decide +kernel
theorem dX4_next_142 : decode cX4_next 142 = .ok (.getfield 29, 3) := by decide +kernel
theorem dX4_next_145 : decode cX4_next 145 = .ok (.invokevirtual 52, 3) := by decide +kernel
theorem dX4_next_148 : decode cX4_next 148 = .ok (.ifCond .eq 16, 3) := by decide +kernel
theorem dX4_next_151 : decode cX4_next 151 = .ok (.aload_n 0, 1) := by decide +kernel
theorem dX4_next_152 : decode cX4_next 152 = .ok (.dup, 1) := by decide +kernel
theorem dX4_next_153 : decode cX4_next 153 = .ok (.getfield 29, 3) := by decide +kernel
theorem dX4_next_156 : decode cX4_next 156 = .ok (.iconst 1, 1) := by decide +kernel
theorem dX4_next_157 : decode cX4_next 157 = .ok (.iadd, 1) := by decide +kernel
theorem dX4_next_158 : decode cX4_next 158 = .ok (.putfield 29, 3) := by decide +kernel
theorem dX4_next_161 : decode cX4_next 161 = .ok (.goto (-32), 3) := by decide +kernel
theorem dX4_next_164 : decode cX4_next 164 = .ok (.aload_n 0, 1) := by decide +kernel
theorem dX4_next_165 : decode cX4_next 165 = .ok (.iload_n 2, 1) := by decide +kernel
theorem dX4_next_166 : decode cX4_next 166 = .ok (.ifCond .eq 8, 3) := by decide +kernel
theorem dX4_next_169 : decode cX4_next 169 = .ok (.bipush (-4), 2) := by decide +kernel
theorem dX4_next_171 : decode cX4_next 171 = .ok (.goto 5, 3) := by decide +kernel
theorem dX4_next_174 : decode cX4_next 174 = .ok (.bipush (-2), 2) := by decide +kernel
theorem dX4_next_176 : decode cX4_next 176 = .ok (.putfield 23, 3) := by decide +kernel
theorem dX4_next_179 : decode cX4_next 179 = .ok (.goto 107, 3) := by decide +kernel
theorem dX4_next_182 : decode cX4_next 182 = .ok (.aload_n 0, 1) := by decide +kernel
theorem dX4_next_183 : decode cX4_next 183 = .ok (.aload_n 0, 1) := by decide +kernel
theorem dX4_next_184 : decode cX4_next 184 = .ok (.getfield 26, 3) := by decide +kernel
theorem dX4_next_187 : decode cX4_next 187 = .ok (.invokevirtual 56, 3) := by decide +kernel
theorem dX4_next_190 : decode cX4_next 190 = .ok (.ifCond .eq 69, 3) := by decide +kernel
theorem dX4_next_193 : decode cX4_next 193 = .ok (.aload_n 0, 1) := by decide +kernel
theorem dX4_next_194 : decode cX4_next 194 = .ok (.getfield 29, 3) := by decide +kernel
theorem dX4_next_197 : decode cX4_next 197 = .ok (.aload_n 0, 1) := by decide +kernel
theorem dX4_next_198 : decode cX4_next 198 = .ok (.getfield 19, 3) := by decide +kernel
theorem dX4_next_201 : decode cX4_next 201 = .ok (.if_icmp .ge 27, 3) := by decide +kernel
theorem dX4_next_204 : decode cX4_next 204 = .ok (.aload_n 0, 1) := by decide +kernel
theorem dX4_next_205 : decode cX4_next 205 = .ok (.aload_n 0, 1) := by decide +kernel
theorem dX4_next_206 : decode cX4_next 206 = .ok (.getfield 29, 3) := by decide +kernel
theorem dX4_next_209 : decode cX4_next 209 = .ok (.invokevirtual 56, 3) := by decide +kernel
theorem dX4_next_212 : decode cX4_next 212 = .ok (.ifCond .eq 16, 3) := by decide +kernel
theorem dX4_next_215 : decode cX4_next 215 = .ok (.aload_n 0, 1) := by decide +kernel
theorem dX4_next_216 : decode cX4_next 216 = .ok (.dup, 1) := by decide +kernel
theorem dX4_next_217 : decode cX4_next 217 = .ok (.getfield 29, 3) := by decide +kernel
theorem dX4_next_220 : decode cX4_next 220 = .ok (.iconst 1, 1) := by decide +kernel
theorem dX4_next_221 : decode cX4_next 221 = .ok (.iadd, 1) := by decide +kernel
theorem dX4_next_222 : decode cX4_next 222 = .ok (.putfield 29, 3) := by decide +kernel
theorem dX4_next_225 : decode cX4_next 225 = .ok (.goto (-32), 3) := by decide +kernel
theorem dX4_next_228 : decode cX4_next 228 = .ok (.aload_n 0, 1) := by decide +kernel
theorem dX4_next_229 : decode cX4_next 229 = .ok (.iload_n 2, 1) := by decide +kernel
theorem dX4_next_230 : decode cX4_next 230 = .ok (.ifCond .ne 16, 3) := by decide +kernel
theorem dX4_next_233 : decode cX4_next 233 = .ok (.aload_n 0, 1) := by decide +kernel
theorem dX4_next_234 : decode cX4_next 234 = .ok (.getfield 29, 3) := by decide +kernel
theorem dX4_next_237 : decode cX4_next 237 = .ok (.aload_n 0, 1) := by decide +kernel
theorem dX4_next_238 : decode cX4_next 238 = .ok (.getfield 26, 3) := by decide +kernel
theorem dX4_next_241 : decode cX4_next 241 = .ok (.isub, 1) := by decide +kernel
theorem dX4_next_242 : decode cX4_next 242 = .ok (.iconst 4, 1) := by decide +kernel
theorem dX4_next_243 : decode cX4_next 243 = .ok (.if_icmp .le 8, 3) := by decide +kernel
theorem dX4_next_246 : decode cX4_next 246 = .ok (.bipush (-4), 2) := by decide +kernel
theorem dX4_next_248 : decode cX4_next 248 = .ok (.goto 5, 3) := by decide +kernel
theorem dX4_next_251 : decode cX4_next 251 = .ok (.bipush (-3), 2) := by decide +kernel
theorem dX4_next_253 : decode cX4_next 253 = .ok (.putfield 23, 3) := by decide +kernel
theorem dX4_next_256 : decode cX4_next 256 = .ok (.goto 30, 3) := by decide +kernel
theorem dX4_next_259 : decode cX4_next 259 = .ok (.aload_n 0, 1) := by decide +kernel
theorem dX4_next_260 : decode cX4_next 260 = .ok (.aload_n 0, 1) := by decide +kernel
theorem dX4_next_261 : decode cX4_next 261 = .ok (.getfield 9, 3) := by decide +kernel
theorem dX4_next_264 : decode cX4_next 264 = .ok (.aload_n 0, 1) := by decide +kernel
theorem dX4_next_265 : decode cX4_next 265 = .ok (.getfield 26, 3) := by decide +kernel
theorem dX4_next_268 : decode cX4_next 268 = .ok (.baload, 1) := by decide +kernel
theorem dX4_next_269 : decode cX4_next 269 = .ok (.sipush 255, 3) := by decide +kernel
theorem dX4_next_272 : decode cX4_next 272 = .ok (.iand, 1) := by decide +kernel
theorem dX4_next_273 : decode cX4_next 273 = .ok (.putfield 23, 3) := by decide +kernel
theorem dX4_next_276 : decode cX4_next 276 = .ok (.aload_n 0, 1) := by decide +kernel
theorem dX4_next_277 : decode cX4_next 277 = .ok (.dup, 1) := by decide +kernel
theorem dX4_next_278 : decode cX4_next 278 = .ok (.getfield 29, 3) := by decide +kernel
theorem dX4_next_281 : decode cX4_next 281 = .ok (.iconst 1, 1) := by decide +kernel
theorem dX4_next_282 : decode cX4_next 282 = .ok (.iadd, 1) := by decide +kernel
theorem dX4_next_283 : decode cX4_next 283 = .ok (.putfield 29, 3) := by decide +kernel
theorem dX4_next_286 : decode cX4_next 286 = .ok (.return_, 1) := by decide +kernel
theorem dX4_isLetter_0 : decode cX4_isLetter 0 = .ok (.aload_n 0, 1) := by decide +kernel
theorem dX4_isLetter_1 : decode cX4_isLetter 1 = .ok (.getfield 9, 3) := by decide +kernel
theorem dX4_isLetter_4 : decode cX4_isLetter 4 = .ok (.iload_n 1, 1) := by decide +kernel
theorem dX4_isLetter_5 : decode cX4_isLetter 5 = .ok (.baload, 1) := by decide +kernel
theorem dX4_isLetter_6 : decode cX4_isLetter 6 = .ok (.bipush 97, 2) := by decide +kernel
theorem dX4_isLetter_8 : decode cX4_isLetter 8 = .ok (.if_icmp .lt 18, 3) := by decide +kernel
theorem dX4_isLetter_11 : decode cX4_isLetter 11 = .ok (.aload_n 0, 1) := by decide +kernel
theorem dX4_isLetter_12 : decode cX4_isLetter 12 = .ok (.getfield 9, 3) := by decide +kernel
theorem dX4_isLetter_15 : decode cX4_isLetter 15 = .ok (.iload_n 1, 1) := by decide +kernel
theorem dX4_isLetter_16 : decode cX4_isLetter 16 = .ok (.baload, 1) := by decide +kernel
theorem dX4_isLetter_17 : decode cX4_isLetter 17 = .ok (.bipush 122, 2) := by decide +kernel
theorem dX4_isLetter_19 : decode cX4_isLetter 19 = .ok (.if_icmp .gt 7, 3) := by decide +kernel
theorem dX4_isLetter_22 : decode cX4_isLetter 22 = .ok (.iconst 1, 1) := by decide +kernel
theorem dX4_isLetter_23 : decode cX4_isLetter 23 = .ok (.goto 4, 3) := by decide +kernel
theorem dX4_isLetter_26 : decode cX4_isLetter 26 = .ok (.iconst 0, 1) := by decide +kernel
theorem dX4_isLetter_27 : decode cX4_isLetter 27 = .ok (.ireturn, 1) := by decide +kernel
theorem dX4_isDigit_0 : decode cX4_isDigit 0 = .ok (.aload_n 0, 1) := by decide +kernel
theorem dX4_isDigit_1 : decode cX4_isDigit 1 = .ok (.getfield 9, 3) := by decide +kernel
theorem dX4_isDigit_4 : decode cX4_isDigit 4 = .ok (.iload_n 1, 1) := by decide +kernel
theorem dX4_isDigit_5 : decode cX4_isDigit 5 = .ok (.baload, 1) := by decide +kernel
theorem dX4_isDigit_6 : decode cX4_isDigit 6 = .ok (.bipush 48, 2) := by decide +kernel
theorem dX4_isDigit_8 : decode cX4_isDigit 8 = .ok (.if_icmp .lt 18, 3) := by decide +kernel
theorem dX4_isDigit_11 : decode cX4_isDigit 11 = .ok (.aload_n 0, 1) := by decide +kernel
theorem dX4_isDigit_12 : decode cX4_isDigit 12 = .ok (.getfield 9, 3) := by decide +kernel
theorem dX4_isDigit_15 : decode cX4_isDigit 15 = .ok (.iload_n 1, 1) := by decide +kernel
theorem dX4_isDigit_16 : decode cX4_isDigit 16 = .ok (.baload, 1) := by decide +kernel
theorem dX4_isDigit_17 : decode cX4_isDigit 17 = .ok (.bipush 57, 2) := by decide +kernel
theorem dX4_isDigit_19 : decode cX4_isDigit 19 = .ok (.if_icmp .gt 7, 3) := by decide +kernel
theorem dX4_isDigit_22 : decode cX4_isDigit 22 = .ok (.iconst 1, 1) := by decide +kernel
theorem dX4_isDigit_23 : decode cX4_isDigit 23 = .ok (.goto 4, 3) := by decide +kernel
theorem dX4_isDigit_26 : decode cX4_isDigit 26 = .ok (.iconst 0, 1) := by decide +kernel
theorem dX4_isDigit_27 : decode cX4_isDigit 27 = .ok (.ireturn, 1) := by decide +kernel
theorem dX4_readKey_0 : decode cX4_readKey 0 = .ok (.iconst 0, 1) := by decide +kernel
theorem dX4_readKey_1 : decode cX4_readKey 1 = .ok (.istore_n 1, 1) := by decide +kernel
theorem dX4_readKey_2 : decode cX4_readKey 2 = .ok (.iload_n 1, 1) := by decide +kernel
theorem dX4_readKey_3 : decode cX4_readKey 3 = .ok (.iconst 3, 1) := by decide +kernel
theorem dX4_readKey_4 : decode cX4_readKey 4 = .ok (.if_icmp .ge 36, 3) := by decide +kernel
theorem dX4_readKey_7 : decode cX4_readKey 7 = .ok (.aload_n 0, 1) := by decide +kernel
theorem dX4_readKey_8 : decode cX4_readKey 8 = .ok (.getfield 23, 3) := by decide +kernel
theorem dX4_readKey_11 : decode cX4_readKey 11 = .ok (.bipush (-2), 2) := by decide +kernel
theorem dX4_readKey_13 : decode cX4_readKey 13 = .ok (.if_icmp .ne 21, 3) := by decide +kernel
theorem dX4_readKey_16 : decode cX4_readKey 16 = .ok (.aload_n 0, 1) := by decide +kernel
theorem dX4_readKey_17 : decode cX4_readKey 17 = .ok (.iload_n 1, 1) := by decide +kernel
theorem dX4_readKey_18 : decode cX4_readKey 18 = .ok (.invokestatic 59, 3) := by decide +kernel
theorem dX4_readKey_21 : decode cX4_readKey 21 = .ok (.invokevirtual 63, 3) := by decide +kernel
theorem dX4_readKey_24 : decode cX4_readKey 24 = .ok (.ifCond .eq 10, 3) := by decide +kernel
theorem dX4_readKey_27 : decode cX4_readKey 27 = .ok (.aload_n 0, 1) := by decide +kernel
theorem dX4_readKey_28 : decode cX4_readKey 28 = .ok (.iload_n 1, 1) := by decide +kernel
theorem dX4_readKey_29 : decode cX4_readKey 29 = .ok (.putfield 32, 3) := by decide +kernel
theorem dX4_readKey_32 : decode cX4_readKey 32 = .ok (.iconst 1, 1) := by decide +kernel
theorem dX4_readKey_33 : decode cX4_readKey 33 = .ok (.ireturn, 1) := by decide +kernel
theorem dX4_readKey_34 : decode cX4_readKey 34 = .ok (.iinc 1 1, 3) := by decide +kernel
theorem dX4_readKey_37 : decode cX4_readKey 37 = .ok (.goto (-35), 3) := by decide +kernel
theorem dX4_readKey_40 : decode cX4_readKey 40 = .ok (.iconst 0, 1) := by decide +kernel
theorem dX4_readKey_41 : decode cX4_readKey 41 = .ok (.ireturn, 1) := by decide +kernel
theorem dX4_keyWord_0 : decode cX4_keyWord 0 = .ok (.iload_n 0, 1) := by decide +kernel
theorem dX4_keyWord_1 : decode cX4_keyWord 1 = .ok (.ifCond .ne 8, 3) := by decide +kernel
theorem dX4_keyWord_4 : decode cX4_keyWord 4 = .ok (.ldc 67, 2) := by decide +kernel
theorem dX4_keyWord_6 : decode cX4_keyWord 6 = .ok (.goto 15, 3) := by decide +kernel
theorem dX4_keyWord_9 : decode cX4_keyWord 9 = .ok (.iload_n 0, 1) := by decide +kernel
theorem dX4_keyWord_10 : decode cX4_keyWord 10 = .ok (.iconst 1, 1) := by decide +kernel
theorem dX4_keyWord_11 : decode cX4_keyWord 11 = .ok (.if_icmp .ne 8, 3) := by decide +kernel
theorem dX4_keyWord_14 : decode cX4_keyWord 14 = .ok (.ldc 69, 2) := by decide +kernel
theorem dX4_keyWord_16 : decode cX4_keyWord 16 = .ok (.goto 5, 3) := by decide +kernel
theorem dX4_keyWord_19 : decode cX4_keyWord 19 = .ok (.ldc 71, 2) := by decide +kernel
theorem dX4_keyWord_21 : decode cX4_keyWord 21 = .ok (.areturn, 1) := by decide +kernel
theorem dX4_namesOf_0 : decode cX4_namesOf 0 = .ok (.iload_n 0, 1) := by decide +kernel
theorem dX4_namesOf_1 : decode cX4_namesOf 1 = .ok (.ifCond .ne 8, 3) := by decide +kernel
theorem dX4_namesOf_4 : decode cX4_namesOf 4 = .ok (.ldc 73, 2) := by decide +kernel
theorem dX4_namesOf_6 : decode cX4_namesOf 6 = .ok (.goto 15, 3) := by decide +kernel
theorem dX4_namesOf_9 : decode cX4_namesOf 9 = .ok (.iload_n 0, 1) := by decide +kernel
theorem dX4_namesOf_10 : decode cX4_namesOf 10 = .ok (.iconst 1, 1) := by decide +kernel
theorem dX4_namesOf_11 : decode cX4_namesOf 11 = .ok (.if_icmp .ne 8, 3) := by decide +kernel
theorem dX4_namesOf_14 : decode cX4_namesOf 14 = .ok (.ldc 75, 2) := by decide +kernel
theorem dX4_namesOf_16 : decode cX4_namesOf 16 = .ok (.goto 5, 3) := by decide +kernel
theorem dX4_namesOf_19 : decode cX4_namesOf 19 = .ok (.ldc 77, 2) := by decide +kernel
theorem dX4_namesOf_21 : decode cX4_namesOf 21 = .ok (.areturn, 1) := by decide +kernel
theorem dX4_isWord_0 : decode cX4_isWord 0 = .ok (.aload_n 0, 1) := by decide +kernel
theorem dX4_isWord_1 : decode cX4_isWord 1 = .ok (.getfield 29, 3) := by decide +kernel
theorem dX4_isWord_4 : decode cX4_isWord 4 = .ok (.aload_n 0, 1) := by decide +kernel
theorem dX4_isWord_5 : decode cX4_isWord 5 = .ok (.getfield 26, 3) := by decide +kernel
theorem dX4_isWord_8 : decode cX4_isWord 8 = .ok (.isub, 1) := by decide +kernel
theorem dX4_isWord_9 : decode cX4_isWord 9 = .ok (.aload_n 1, 1) := by decide +kernel
theorem dX4_isWord_10 : decode cX4_isWord 10 = .ok (.invokevirtual 79, 3) := by decide +kernel
theorem dX4_isWord_13 : decode cX4_isWord 13 = .ok (.if_icmp .eq 5, 3) := by decide +kernel
theorem dX4_isWord_16 : decode cX4_isWord 16 = .ok (.iconst 0, 1) := by decide +kernel
theorem dX4_isWord_17 : decode cX4_isWord 17 = .ok (.ireturn, 1) := by decide +kernel
theorem dX4_isWord_18 : decode cX4_isWord 18 = .ok (.iconst 0, 1) := by decide +kernel
theorem dX4_isWord_19 : decode cX4_isWord 19 = .ok (.istore_n 2, 1) := by decide +kernel
theorem dX4_isWord_20 : decode cX4_isWord 20 = .ok (.iload_n 2, 1) := by decide +kernel
theorem dX4_isWord_21 : decode cX4_isWord 21 = .ok (.aload_n 1, 1) := by decide +kernel
theorem dX4_isWord_22 : decode cX4_isWord 22 = .ok (.invokevirtual 79, 3) := by decide +kernel
theorem dX4_isWord_25 : decode cX4_isWord 25 = .ok (.if_icmp .ge 30, 3) := by decide +kernel
theorem dX4_isWord_28 : decode cX4_isWord 28 = .ok (.aload_n 0, 1) := by decide +kernel
theorem dX4_isWord_29 : decode cX4_isWord 29 = .ok (.getfield 9, 3) := by decide +kernel
theorem dX4_isWord_32 : decode cX4_isWord 32 = .ok (.aload_n 0, 1) := by decide +kernel
theorem dX4_isWord_33 : decode cX4_isWord 33 = .ok (.getfield 26, 3) := by decide +kernel
theorem dX4_isWord_36 : decode cX4_isWord 36 = .ok (.iload_n 2, 1) := by decide +kernel
theorem dX4_isWord_37 : decode cX4_isWord 37 = .ok (.iadd, 1) := by decide +kernel
theorem dX4_isWord_38 : decode cX4_isWord 38 = .ok (.baload, 1) := by decide +kernel
theorem dX4_isWord_39 : decode cX4_isWord 39 = .ok (.aload_n 1, 1) := by decide +kernel
theorem dX4_isWord_40 : decode cX4_isWord 40 = .ok (.iload_n 2, 1) := by decide +kernel
theorem dX4_isWord_41 : decode cX4_isWord 41 = .ok (.invokevirtual 84, 3) := by decide +kernel
theorem dX4_isWord_44 : decode cX4_isWord 44 = .ok (.if_icmp .eq 5, 3) := by decide +kernel
theorem dX4_isWord_47 : decode cX4_isWord 47 = .ok (.iconst 0, 1) := by decide +kernel
theorem dX4_isWord_48 : decode cX4_isWord 48 = .ok (.ireturn, 1) := by decide +kernel
theorem dX4_isWord_49 : decode cX4_isWord 49 = .ok (.iinc 2 1, 3) := by decide +kernel
theorem dX4_isWord_52 : decode cX4_isWord 52 = .ok (.goto (-32), 3) := by decide +kernel
theorem dX4_isWord_55 : decode cX4_isWord 55 = .ok (.iconst 1, 1) := by decide +kernel
theorem dX4_isWord_56 : decode cX4_isWord 56 = .ok (.ireturn, 1) := by decide +kernel
theorem dX4_readOr_0 : decode cX4_readOr 0 = .ok (.aload_n 0, 1) := by decide +kernel
theorem dX4_readOr_1 : decode cX4_readOr 1 = .ok (.iload_n 1, 1) := by decide +kernel
theorem dX4_readOr_2 : decode cX4_readOr 2 = .ok (.iload_n 2, 1) := by decide +kernel
theorem dX4_readOr_3 : decode cX4_readOr 3 = .ok (.invokevirtual 88, 3) := by decide +kernel
theorem dX4_readOr_6 : decode cX4_readOr 6 = .ok (.istore_n 3, 1) := by decide +kernel
theorem dX4_readOr_7 : decode cX4_readOr 7 = .ok (.iconst 0, 1) := by decide +kernel
theorem dX4_readOr_8 : decode cX4_readOr 8 = .ok (.istore 4, 2) := by decide +kernel
theorem dX4_readOr_10 : decode cX4_readOr 10 = .ok (.iload 4, 2) := by decide +kernel
theorem dX4_readOr_12 : decode cX4_readOr 12 = .ok (.bipush 96, 2) := by decide +kernel
theorem dX4_readOr_14 : decode cX4_readOr 14 = .ok (.if_icmp .ge 39, 3) := by decide +kernel
theorem dX4_readOr_17 : decode cX4_readOr 17 = .ok (.iload_n 3, 1) := by decide +kernel
theorem dX4_readOr_18 : decode cX4_readOr 18 = .ok (.ifCond .eq 35, 3) := by decide +kernel
theorem dX4_readOr_21 : decode cX4_readOr 21 = .ok (.aload_n 0, 1) := by decide +kernel
theorem dX4_readOr_22 : decode cX4_readOr 22 = .ok (.getfield 23, 3) := by decide +kernel
theorem dX4_readOr_25 : decode cX4_readOr 25 = .ok (.bipush 124, 2) := by decide +kernel
theorem dX4_readOr_27 : decode cX4_readOr 27 = .ok (.if_icmp .ne 26, 3) := by decide +kernel
theorem dX4_readOr_30 : decode cX4_readOr 30 = .ok (.aload_n 0, 1) := by decide +kernel
theorem dX4_readOr_31 : decode cX4_readOr 31 = .ok (.invokevirtual 41, 3) := by decide +kernel
theorem dX4_readOr_34 : decode cX4_readOr 34 = .ok (.aload_n 0, 1) := by decide +kernel
theorem dX4_readOr_35 : decode cX4_readOr 35 = .ok (.iload_n 1, 1) := by decide +kernel
theorem dX4_readOr_36 : decode cX4_readOr 36 = .ok (.iload_n 2, 1) := by decide +kernel
theorem dX4_readOr_37 : decode cX4_readOr 37 = .ok (.invokevirtual 88, 3) := by decide +kernel
theorem dX4_readOr_40 : decode cX4_readOr 40 = .ok (.istore_n 3, 1) := by decide +kernel
theorem dX4_readOr_41 : decode cX4_readOr 41 = .ok (.aload_n 0, 1) := by decide +kernel
theorem dX4_readOr_42 : decode cX4_readOr 42 = .ok (.bipush (-124), 2) := by decide +kernel
theorem dX4_readOr_44 : decode cX4_readOr 44 = .ok (.invokevirtual 91, 3) := by decide +kernel
theorem dX4_readOr_47 : decode cX4_readOr 47 = .ok (.iinc 4 1, 3) := by decide +kernel
theorem dX4_readOr_50 : decode cX4_readOr 50 = .ok (.goto (-40), 3) := by decide +kernel
theorem dX4_readOr_53 : decode cX4_readOr 53 = .ok (.iload_n 3, 1) := by decide +kernel
theorem dX4_readOr_54 : decode cX4_readOr 54 = .ok (.ireturn, 1) := by decide +kernel
theorem dX4_readAnd_0 : decode cX4_readAnd 0 = .ok (.aload_n 0, 1) := by decide +kernel
theorem dX4_readAnd_1 : decode cX4_readAnd 1 = .ok (.iload_n 1, 1) := by decide +kernel
theorem dX4_readAnd_2 : decode cX4_readAnd 2 = .ok (.iload_n 2, 1) := by decide +kernel
theorem dX4_readAnd_3 : decode cX4_readAnd 3 = .ok (.invokevirtual 95, 3) := by decide +kernel
theorem dX4_readAnd_6 : decode cX4_readAnd 6 = .ok (.istore_n 3, 1) := by decide +kernel
theorem dX4_readAnd_7 : decode cX4_readAnd 7 = .ok (.iconst 0, 1) := by decide +kernel
theorem dX4_readAnd_8 : decode cX4_readAnd 8 = .ok (.istore 4, 2) := by decide +kernel
theorem dX4_readAnd_10 : decode cX4_readAnd 10 = .ok (.iload 4, 2) := by decide +kernel
theorem dX4_readAnd_12 : decode cX4_readAnd 12 = .ok (.bipush 96, 2) := by decide +kernel
theorem dX4_readAnd_14 : decode cX4_readAnd 14 = .ok (.if_icmp .ge 39, 3) := by decide +kernel
theorem dX4_readAnd_17 : decode cX4_readAnd 17 = .ok (.iload_n 3, 1) := by decide +kernel
theorem dX4_readAnd_18 : decode cX4_readAnd 18 = .ok (.ifCond .eq 35, 3) := by decide +kernel
theorem dX4_readAnd_21 : decode cX4_readAnd 21 = .ok (.aload_n 0, 1) := by decide +kernel
theorem dX4_readAnd_22 : decode cX4_readAnd 22 = .ok (.getfield 23, 3) := by decide +kernel
theorem dX4_readAnd_25 : decode cX4_readAnd 25 = .ok (.bipush 38, 2) := by decide +kernel
theorem dX4_readAnd_27 : decode cX4_readAnd 27 = .ok (.if_icmp .ne 26, 3) := by decide +kernel
theorem dX4_readAnd_30 : decode cX4_readAnd 30 = .ok (.aload_n 0, 1) := by decide +kernel
theorem dX4_readAnd_31 : decode cX4_readAnd 31 = .ok (.invokevirtual 41, 3) := by decide +kernel
theorem dX4_readAnd_34 : decode cX4_readAnd 34 = .ok (.aload_n 0, 1) := by decide +kernel
theorem dX4_readAnd_35 : decode cX4_readAnd 35 = .ok (.iload_n 1, 1) := by decide +kernel
theorem dX4_readAnd_36 : decode cX4_readAnd 36 = .ok (.iload_n 2, 1) := by decide +kernel
theorem dX4_readAnd_37 : decode cX4_readAnd 37 = .ok (.invokevirtual 95, 3) := by decide +kernel
theorem dX4_readAnd_40 : decode cX4_readAnd 40 = .ok (.istore_n 3, 1) := by decide +kernel
theorem dX4_readAnd_41 : decode cX4_readAnd 41 = .ok (.aload_n 0, 1) := by decide +kernel
theorem dX4_readAnd_42 : decode cX4_readAnd 42 = .ok (.bipush (-38), 2) := by decide +kernel
theorem dX4_readAnd_44 : decode cX4_readAnd 44 = .ok (.invokevirtual 91, 3) := by decide +kernel
theorem dX4_readAnd_47 : decode cX4_readAnd 47 = .ok (.iinc 4 1, 3) := by decide +kernel
theorem dX4_readAnd_50 : decode cX4_readAnd 50 = .ok (.goto (-40), 3) := by decide +kernel
theorem dX4_readAnd_53 : decode cX4_readAnd 53 = .ok (.iload_n 3, 1) := by decide +kernel
theorem dX4_readAnd_54 : decode cX4_readAnd 54 = .ok (.ireturn, 1) := by decide +kernel
theorem dX4_readTest_0 : decode cX4_readTest 0 = .ok (.aload_n 0, 1) := by decide +kernel
theorem dX4_readTest_1 : decode cX4_readTest 1 = .ok (.iload_n 1, 1) := by decide +kernel
theorem dX4_readTest_2 : decode cX4_readTest 2 = .ok (.iload_n 2, 1) := by decide +kernel
theorem dX4_readTest_3 : decode cX4_readTest 3 = .ok (.invokevirtual 98, 3) := by decide +kernel
theorem dX4_readTest_6 : decode cX4_readTest 6 = .ok (.ifCond .ne 5, 3) := by decide +kernel
theorem dX4_readTest_9 : decode cX4_readTest 9 = .ok (.iconst 0, 1) := by decide +kernel
theorem dX4_readTest_10 : decode cX4_readTest 10 = .ok (.ireturn, 1) := by decide +kernel
theorem dX4_readTest_11 : decode cX4_readTest 11 = .ok (.aload_n 0, 1) := by decide +kernel
theorem dX4_readTest_12 : decode cX4_readTest 12 = .ok (.getfield 23, 3) := by decide +kernel
theorem dX4_readTest_15 : decode cX4_readTest 15 = .ok (.istore_n 3, 1) := by decide +kernel
theorem dX4_readTest_16 : decode cX4_readTest 16 = .ok (.iload_n 3, 1) := by decide +kernel
theorem dX4_readTest_17 : decode cX4_readTest 17 = .ok (.bipush 60, 2) := by decide +kernel
theorem dX4_readTest_19 : decode cX4_readTest 19 = .ok (.if_icmp .eq 17, 3) := by decide +kernel
theorem dX4_readTest_22 : decode cX4_readTest 22 = .ok (.iload_n 3, 1) := by decide +kernel
theorem dX4_readTest_23 : decode cX4_readTest 23 = .ok (.bipush 61, 2) := by decide +kernel
theorem dX4_readTest_25 : decode cX4_readTest 25 = .ok (.if_icmp .eq 11, 3) := by decide +kernel
theorem dX4_readTest_28 : decode cX4_readTest 28 = .ok (.iload_n 3, 1) := by decide +kernel
theorem dX4_readTest_29 : decode cX4_readTest 29 = .ok (.bipush 62, 2) := by decide +kernel
theorem dX4_readTest_31 : decode cX4_readTest 31 = .ok (.if_icmp .eq 5, 3) := by decide +kernel
theorem dX4_readTest_34 : decode cX4_readTest 34 = .ok (.iconst 1, 1) := by decide +kernel
theorem dX4_readTest_35 : decode cX4_readTest 35 = .ok (.ireturn, 1) := by decide +kernel
theorem dX4_readTest_36 : decode cX4_readTest 36 = .ok (.aload_n 0, 1) := by decide +kernel
theorem dX4_readTest_37 : decode cX4_readTest 37 = .ok (.invokevirtual 41, 3) := by decide +kernel
theorem dX4_readTest_40 : decode cX4_readTest 40 = .ok (.aload_n 0, 1) := by decide +kernel
theorem dX4_readTest_41 : decode cX4_readTest 41 = .ok (.iload_n 1, 1) := by decide +kernel
theorem dX4_readTest_42 : decode cX4_readTest 42 = .ok (.iload_n 2, 1) := by decide +kernel
theorem dX4_readTest_43 : decode cX4_readTest 43 = .ok (.invokevirtual 98, 3) := by decide +kernel
theorem dX4_readTest_46 : decode cX4_readTest 46 = .ok (.istore 4, 2) := by decide +kernel
theorem dX4_readTest_48 : decode cX4_readTest 48 = .ok (.aload_n 0, 1) := by decide +kernel
theorem dX4_readTest_49 : decode cX4_readTest 49 = .ok (.iload_n 3, 1) := by decide +kernel
theorem dX4_readTest_50 : decode cX4_readTest 50 = .ok (.ineg, 1) := by decide +kernel
theorem dX4_readTest_51 : decode cX4_readTest 51 = .ok (.invokevirtual 91, 3) := by decide +kernel
theorem dX4_readTest_54 : decode cX4_readTest 54 = .ok (.iload 4, 2) := by decide +kernel
theorem dX4_readTest_56 : decode cX4_readTest 56 = .ok (.ireturn, 1) := by decide +kernel
theorem dX4_readSum_0 : decode cX4_readSum 0 = .ok (.aload_n 0, 1) := by decide +kernel
theorem dX4_readSum_1 : decode cX4_readSum 1 = .ok (.iload_n 1, 1) := by decide +kernel
theorem dX4_readSum_2 : decode cX4_readSum 2 = .ok (.iload_n 2, 1) := by decide +kernel
theorem dX4_readSum_3 : decode cX4_readSum 3 = .ok (.invokevirtual 101, 3) := by decide +kernel
theorem dX4_readSum_6 : decode cX4_readSum 6 = .ok (.istore_n 3, 1) := by decide +kernel
theorem dX4_readSum_7 : decode cX4_readSum 7 = .ok (.iconst 0, 1) := by decide +kernel
theorem dX4_readSum_8 : decode cX4_readSum 8 = .ok (.istore 4, 2) := by decide +kernel
theorem dX4_readSum_10 : decode cX4_readSum 10 = .ok (.iload 4, 2) := by decide +kernel
theorem dX4_readSum_12 : decode cX4_readSum 12 = .ok (.bipush 96, 2) := by decide +kernel
theorem dX4_readSum_14 : decode cX4_readSum 14 = .ok (.if_icmp .ge 55, 3) := by decide +kernel
theorem dX4_readSum_17 : decode cX4_readSum 17 = .ok (.iload_n 3, 1) := by decide +kernel
end
section
theorem dX4_readSum_18 : decode cX4_readSum 18 = .ok (.ifCond .eq 51, 3) := by decide +kernel
theorem dX4_readSum_21 : decode cX4_readSum 21 = .ok (.aload_n 0, 1) := by decide +kernel
theorem dX4_readSum_22 : decode cX4_readSum 22 = .ok (.getfield 23, 3) := by decide +kernel
theorem dX4_readSum_25 : decode cX4_readSum 25 = .ok (.bipush 43, 2) := by decide +kernel
theorem dX4_readSum_27 : decode cX4_readSum 27 = .ok (.if_icmp .eq 12, 3) := by decide +kernel
theorem dX4_readSum_30 : decode cX4_readSum 30 = .ok (.aload_n 0, 1) := by decide +kernel
theorem dX4_readSum_31 : decode cX4_readSum 31 = .ok (.getfield 23, 3) := by decide +kernel
theorem dX4_readSum_34 : decode cX4_readSum 34 = .ok (.bipush 45, 2) := by decide +kernel
theorem dX4_readSum_36 : decode cX4_readSum 36 = .ok (.if_icmp .ne 33, 3) := by decide +kernel
theorem dX4_readSum_39 : decode cX4_readSum 39 = .ok (.aload_n 0, 1) := by decide +kernel
theorem dX4_readSum_40 : decode cX4_readSum 40 = .ok (.getfield 23, 3) := by decide +kernel
theorem dX4_readSum_43 : decode cX4_readSum 43 = .ok (.istore 5, 2) := by decide +kernel
theorem dX4_readSum_45 : decode cX4_readSum 45 = .ok (.aload_n 0, 1) := by decide +kernel
theorem dX4_readSum_46 : decode cX4_readSum 46 = .ok (.invokevirtual 41, 3) := by decide +kernel
theorem dX4_readSum_49 : decode cX4_readSum 49 = .ok (.aload_n 0, 1) := by decide +kernel
theorem dX4_readSum_50 : decode cX4_readSum 50 = .ok (.iload_n 1, 1) := by decide +kernel
theorem dX4_readSum_51 : decode cX4_readSum 51 = .ok (.iload_n 2, 1) := by decide +kernel
theorem dX4_readSum_52 : decode cX4_readSum 52 = .ok (.invokevirtual 101, 3) := by decide +kernel
theorem dX4_readSum_55 : decode cX4_readSum 55 = .ok (.istore_n 3, 1) := by decide +kernel
theorem dX4_readSum_56 : decode cX4_readSum 56 = .ok (.aload_n 0, 1) := by decide +kernel
theorem dX4_readSum_57 : decode cX4_readSum 57 = .ok (.iload 5, 2) := by decide +kernel
theorem dX4_readSum_59 : decode cX4_readSum 59 = .ok (.ineg, 1) := by decide +kernel
theorem dX4_readSum_60 : decode cX4_readSum 60 = .ok (.invokevirtual 91, 3) := by decide +kernel
theorem dX4_readSum_63 : decode cX4_readSum 63 = .ok (.iinc 4 1, 3) := by decide +kernel
theorem dX4_readSum_66 : decode cX4_readSum 66 = .ok (.goto (-56), 3) := by decide +kernel
theorem dX4_readSum_69 : decode cX4_readSum 69 = .ok (.iload_n 3, 1) := by decide +kernel
theorem dX4_readSum_70 : decode cX4_readSum 70 = .ok (.ireturn, 1) := by decide +kernel
theorem dX4_readTerm_0 : decode cX4_readTerm 0 = .ok (.aload_n 0, 1) := by decide +kernel
theorem dX4_readTerm_1 : decode cX4_readTerm 1 = .ok (.iload_n 1, 1) := by decide +kernel
theorem dX4_readTerm_2 : decode cX4_readTerm 2 = .ok (.iload_n 2, 1) := by decide +kernel
theorem dX4_readTerm_3 : decode cX4_readTerm 3 = .ok (.invokevirtual 104, 3) := by decide +kernel
theorem dX4_readTerm_6 : decode cX4_readTerm 6 = .ok (.istore_n 3, 1) := by decide +kernel
theorem dX4_readTerm_7 : decode cX4_readTerm 7 = .ok (.iconst 0, 1) := by decide +kernel
theorem dX4_readTerm_8 : decode cX4_readTerm 8 = .ok (.istore 4, 2) := by decide +kernel
theorem dX4_readTerm_10 : decode cX4_readTerm 10 = .ok (.iload 4, 2) := by decide +kernel
theorem dX4_readTerm_12 : decode cX4_readTerm 12 = .ok (.bipush 96, 2) := by decide +kernel
theorem dX4_readTerm_14 : decode cX4_readTerm 14 = .ok (.if_icmp .ge 55, 3) := by decide +kernel
theorem dX4_readTerm_17 : decode cX4_readTerm 17 = .ok (.iload_n 3, 1) := by decide +kernel
theorem dX4_readTerm_18 : decode cX4_readTerm 18 = .ok (.ifCond .eq 51, 3) := by decide +kernel
theorem dX4_readTerm_21 : decode cX4_readTerm 21 = .ok (.aload_n 0, 1) := by decide +kernel
theorem dX4_readTerm_22 : decode cX4_readTerm 22 = .ok (.getfield 23, 3) := by decide +kernel
theorem dX4_readTerm_25 : decode cX4_readTerm 25 = .ok (.bipush 42, 2) := by decide +kernel
theorem dX4_readTerm_27 : decode cX4_readTerm 27 = .ok (.if_icmp .eq 12, 3) := by decide +kernel
theorem dX4_readTerm_30 : decode cX4_readTerm 30 = .ok (.aload_n 0, 1) := by decide +kernel
theorem dX4_readTerm_31 : decode cX4_readTerm 31 = .ok (.getfield 23, 3) := by decide +kernel
theorem dX4_readTerm_34 : decode cX4_readTerm 34 = .ok (.bipush 47, 2) := by decide +kernel
theorem dX4_readTerm_36 : decode cX4_readTerm 36 = .ok (.if_icmp .ne 33, 3) := by decide +kernel
theorem dX4_readTerm_39 : decode cX4_readTerm 39 = .ok (.aload_n 0, 1) := by decide +kernel
theorem dX4_readTerm_40 : decode cX4_readTerm 40 = .ok (.getfield 23, 3) := by decide +kernel
theorem dX4_readTerm_43 : decode cX4_readTerm 43 = .ok (.istore 5, 2) := by decide +kernel
theorem dX4_readTerm_45 : decode cX4_readTerm 45 = .ok (.aload_n 0, 1) := by decide +kernel
theorem dX4_readTerm_46 : decode cX4_readTerm 46 = .ok (.invokevirtual 41, 3) := by decide +kernel
theorem dX4_readTerm_49 : decode cX4_readTerm 49 = .ok (.aload_n 0, 1) := by decide +kernel
theorem dX4_readTerm_50 : decode cX4_readTerm 50 = .ok (.iload_n 1, 1) := by decide +kernel
theorem dX4_readTerm_51 : decode cX4_readTerm 51 = .ok (.iload_n 2, 1) := by decide +kernel
theorem dX4_readTerm_52 : decode cX4_readTerm 52 = .ok (.invokevirtual 104, 3) := by decide +kernel
theorem dX4_readTerm_55 : decode cX4_readTerm 55 = .ok (.istore_n 3, 1) := by decide +kernel
theorem dX4_readTerm_56 : decode cX4_readTerm 56 = .ok (.aload_n 0, 1) := by decide +kernel
theorem dX4_readTerm_57 : decode cX4_readTerm 57 = .ok (.iload 5, 2) := by decide +kernel
theorem dX4_readTerm_59 : decode cX4_readTerm 59 = .ok (.ineg, 1) := by decide +kernel
theorem dX4_readTerm_60 : decode cX4_readTerm 60 = .ok (.invokevirtual 91, 3) := by decide +kernel
theorem dX4_readTerm_63 : decode cX4_readTerm 63 = .ok (.iinc 4 1, 3) := by decide +kernel
theorem dX4_readTerm_66 : decode cX4_readTerm 66 = .ok (.goto (-56), 3) := by decide +kernel
theorem dX4_readTerm_69 : decode cX4_readTerm 69 = .ok (.iload_n 3, 1) := by decide +kernel
theorem dX4_readTerm_70 : decode cX4_readTerm 70 = .ok (.ireturn, 1) := by decide +kernel
theorem dX4_readPiece_0 : decode cX4_readPiece 0 = .ok (.aload_n 0, 1) := by decide +kernel
theorem dX4_readPiece_1 : decode cX4_readPiece 1 = .ok (.getfield 23, 3) := by decide +kernel
theorem dX4_readPiece_4 : decode cX4_readPiece 4 = .ok (.lookupswitch 125 #[(-3, 44), (-2, 53), (33, 79), (40, 102)], 44) := by decide +kernel
theorem dX4_readPiece_48 : decode cX4_readPiece 48 = .ok (.aload_n 0, 1) := by decide +kernel
theorem dX4_readPiece_49 : decode cX4_readPiece 49 = .ok (.aload_n 0, 1) := by decide +kernel
theorem dX4_readPiece_50 : decode cX4_readPiece 50 = .ok (.invokevirtual 107, 3) := by decide +kernel
theorem dX4_readPiece_53 : decode cX4_readPiece 53 = .ok (.invokevirtual 110, 3) := by decide +kernel
theorem dX4_readPiece_56 : decode cX4_readPiece 56 = .ok (.ireturn, 1) := by decide +kernel
theorem dX4_readPiece_57 : decode cX4_readPiece 57 = .ok (.aload_n 0, 1) := by decide +kernel
theorem dX4_readPiece_58 : decode cX4_readPiece 58 = .ok (.invokevirtual 113, 3) := by decide +kernel
theorem dX4_readPiece_61 : decode cX4_readPiece 61 = .ok (.ifCond .lt 20, 3) := by decide +kernel
theorem dX4_readPiece_64 : decode cX4_readPiece 64 = .ok (.aload_n 0, 1) := by decide +kernel
theorem dX4_readPiece_65 : decode cX4_readPiece 65 = .ok (.iconst (-1), 1) := by decide +kernel
theorem dX4_readPiece_66 : decode cX4_readPiece 66 = .ok (.aload_n 0, 1) := by decide +kernel
theorem dX4_readPiece_67 : decode cX4_readPiece 67 = .ok (.invokevirtual 113, 3) := by decide +kernel
theorem dX4_readPiece_70 : decode cX4_readPiece 70 = .ok (.isub, 1) := by decide +kernel
theorem dX4_readPiece_71 : decode cX4_readPiece 71 = .ok (.invokevirtual 110, 3) := by decide +kernel
theorem dX4_readPiece_74 : decode cX4_readPiece 74 = .ok (.ifCond .eq 7, 3) := by decide +kernel
theorem dX4_readPiece_77 : decode cX4_readPiece 77 = .ok (.iconst 1, 1) := by decide +kernel
theorem dX4_readPiece_78 : decode cX4_readPiece 78 = .ok (.goto 4, 3) := by decide +kernel
theorem dX4_readPiece_81 : decode cX4_readPiece 81 = .ok (.iconst 0, 1) := by decide +kernel
theorem dX4_readPiece_82 : decode cX4_readPiece 82 = .ok (.ireturn, 1) := by decide +kernel
theorem dX4_readPiece_83 : decode cX4_readPiece 83 = .ok (.iload_n 2, 1) := by decide +kernel
theorem dX4_readPiece_84 : decode cX4_readPiece 84 = .ok (.bipush 8, 2) := by decide +kernel
theorem dX4_readPiece_86 : decode cX4_readPiece 86 = .ok (.if_icmp .ge 18, 3) := by decide +kernel
theorem dX4_readPiece_89 : decode cX4_readPiece 89 = .ok (.aload_n 0, 1) := by decide +kernel
theorem dX4_readPiece_90 : decode cX4_readPiece 90 = .ok (.iload_n 1, 1) := by decide +kernel
theorem dX4_readPiece_91 : decode cX4_readPiece 91 = .ok (.iload_n 2, 1) := by decide +kernel
theorem dX4_readPiece_92 : decode cX4_readPiece 92 = .ok (.iconst 1, 1) := by decide +kernel
theorem dX4_readPiece_93 : decode cX4_readPiece 93 = .ok (.iadd, 1) := by decide +kernel
theorem dX4_readPiece_94 : decode cX4_readPiece 94 = .ok (.invokevirtual 118, 3) := by decide +kernel
theorem dX4_readPiece_97 : decode cX4_readPiece 97 = .ok (.ifCond .eq 7, 3) := by decide +kernel
theorem dX4_readPiece_100 : decode cX4_readPiece 100 = .ok (.iconst 1, 1) := by decide +kernel
theorem dX4_readPiece_101 : decode cX4_readPiece 101 = .ok (.goto 4, 3) := by decide +kernel
theorem dX4_readPiece_104 : decode cX4_readPiece 104 = .ok (.iconst 0, 1) := by decide +kernel
theorem dX4_readPiece_105 : decode cX4_readPiece 105 = .ok (.ireturn, 1) := by decide +kernel
theorem dX4_readPiece_106 : decode cX4_readPiece 106 = .ok (.iload_n 1, 1) := by decide +kernel
theorem dX4_readPiece_107 : decode cX4_readPiece 107 = .ok (.bipush 8, 2) := by decide +kernel
theorem dX4_readPiece_109 : decode cX4_readPiece 109 = .ok (.if_icmp .ge 18, 3) := by decide +kernel
theorem dX4_readPiece_112 : decode cX4_readPiece 112 = .ok (.aload_n 0, 1) := by decide +kernel
theorem dX4_readPiece_113 : decode cX4_readPiece 113 = .ok (.iload_n 1, 1) := by decide +kernel
theorem dX4_readPiece_114 : decode cX4_readPiece 114 = .ok (.iconst 1, 1) := by decide +kernel
theorem dX4_readPiece_115 : decode cX4_readPiece 115 = .ok (.iadd, 1) := by decide +kernel
theorem dX4_readPiece_116 : decode cX4_readPiece 116 = .ok (.iload_n 2, 1) := by decide +kernel
theorem dX4_readPiece_117 : decode cX4_readPiece 117 = .ok (.invokevirtual 121, 3) := by decide +kernel
theorem dX4_readPiece_120 : decode cX4_readPiece 120 = .ok (.ifCond .eq 7, 3) := by decide +kernel
theorem dX4_readPiece_123 : decode cX4_readPiece 123 = .ok (.iconst 1, 1) := by decide +kernel
theorem dX4_readPiece_124 : decode cX4_readPiece 124 = .ok (.goto 4, 3) := by decide +kernel
theorem dX4_readPiece_127 : decode cX4_readPiece 127 = .ok (.iconst 0, 1) := by decide +kernel
theorem dX4_readPiece_128 : decode cX4_readPiece 128 = .ok (.ireturn, 1) := by decide +kernel
theorem dX4_readPiece_129 : decode cX4_readPiece 129 = .ok (.iconst 0, 1) := by decide +kernel
theorem dX4_readPiece_130 : decode cX4_readPiece 130 = .ok (.ireturn, 1) := by decide +kernel
theorem dX4_readLeaf_0 : decode cX4_readLeaf 0 = .ok (.aload_n 0, 1) := by decide +kernel
theorem dX4_readLeaf_1 : decode cX4_readLeaf 1 = .ok (.iload_n 1, 1) := by decide +kernel
theorem dX4_readLeaf_2 : decode cX4_readLeaf 2 = .ok (.invokevirtual 91, 3) := by decide +kernel
theorem dX4_readLeaf_5 : decode cX4_readLeaf 5 = .ok (.aload_n 0, 1) := by decide +kernel
theorem dX4_readLeaf_6 : decode cX4_readLeaf 6 = .ok (.dup, 1) := by decide +kernel
theorem dX4_readLeaf_7 : decode cX4_readLeaf 7 = .ok (.getfield 38, 3) := by decide +kernel
theorem dX4_readLeaf_10 : decode cX4_readLeaf 10 = .ok (.iconst 1, 1) := by decide +kernel
theorem dX4_readLeaf_11 : decode cX4_readLeaf 11 = .ok (.iadd, 1) := by decide +kernel
theorem dX4_readLeaf_12 : decode cX4_readLeaf 12 = .ok (.putfield 38, 3) := by decide +kernel
theorem dX4_readLeaf_15 : decode cX4_readLeaf 15 = .ok (.aload_n 0, 1) := by decide +kernel
theorem dX4_readLeaf_16 : decode cX4_readLeaf 16 = .ok (.invokevirtual 41, 3) := by decide +kernel
theorem dX4_readLeaf_19 : decode cX4_readLeaf 19 = .ok (.iconst 1, 1) := by decide +kernel
theorem dX4_readLeaf_20 : decode cX4_readLeaf 20 = .ok (.ireturn, 1) := by decide +kernel
theorem dX4_readNot_0 : decode cX4_readNot 0 = .ok (.aload_n 0, 1) := by decide +kernel
theorem dX4_readNot_1 : decode cX4_readNot 1 = .ok (.invokevirtual 41, 3) := by decide +kernel
theorem dX4_readNot_4 : decode cX4_readNot 4 = .ok (.aload_n 0, 1) := by decide +kernel
theorem dX4_readNot_5 : decode cX4_readNot 5 = .ok (.iload_n 1, 1) := by decide +kernel
theorem dX4_readNot_6 : decode cX4_readNot 6 = .ok (.iload_n 2, 1) := by decide +kernel
theorem dX4_readNot_7 : decode cX4_readNot 7 = .ok (.invokevirtual 104, 3) := by decide +kernel
theorem dX4_readNot_10 : decode cX4_readNot 10 = .ok (.istore_n 3, 1) := by decide +kernel
theorem dX4_readNot_11 : decode cX4_readNot 11 = .ok (.aload_n 0, 1) := by decide +kernel
theorem dX4_readNot_12 : decode cX4_readNot 12 = .ok (.bipush (-33), 2) := by decide +kernel
theorem dX4_readNot_14 : decode cX4_readNot 14 = .ok (.invokevirtual 91, 3) := by decide +kernel
theorem dX4_readNot_17 : decode cX4_readNot 17 = .ok (.iload_n 3, 1) := by decide +kernel
theorem dX4_readNot_18 : decode cX4_readNot 18 = .ok (.ireturn, 1) := by decide +kernel
theorem dX4_readInner_0 : decode cX4_readInner 0 = .ok (.aload_n 0, 1) := by decide +kernel
theorem dX4_readInner_1 : decode cX4_readInner 1 = .ok (.invokevirtual 41, 3) := by decide +kernel
theorem dX4_readInner_4 : decode cX4_readInner 4 = .ok (.aload_n 0, 1) := by decide +kernel
theorem dX4_readInner_5 : decode cX4_readInner 5 = .ok (.iload_n 1, 1) := by decide +kernel
theorem dX4_readInner_6 : decode cX4_readInner 6 = .ok (.iload_n 2, 1) := by decide +kernel
theorem dX4_readInner_7 : decode cX4_readInner 7 = .ok (.invokevirtual 48, 3) := by decide +kernel
theorem dX4_readInner_10 : decode cX4_readInner 10 = .ok (.ifCond .eq 12, 3) := by decide +kernel
theorem dX4_readInner_13 : decode cX4_readInner 13 = .ok (.aload_n 0, 1) := by decide +kernel
theorem dX4_readInner_14 : decode cX4_readInner 14 = .ok (.getfield 23, 3) := by decide +kernel
theorem dX4_readInner_17 : decode cX4_readInner 17 = .ok (.bipush 41, 2) := by decide +kernel
theorem dX4_readInner_19 : decode cX4_readInner 19 = .ok (.if_icmp .eq 5, 3) := by decide +kernel
theorem dX4_readInner_22 : decode cX4_readInner 22 = .ok (.iconst 0, 1) := by decide +kernel
theorem dX4_readInner_23 : decode cX4_readInner 23 = .ok (.ireturn, 1) := by decide +kernel
theorem dX4_readInner_24 : decode cX4_readInner 24 = .ok (.aload_n 0, 1) := by decide +kernel
theorem dX4_readInner_25 : decode cX4_readInner 25 = .ok (.invokevirtual 41, 3) := by decide +kernel
theorem dX4_readInner_28 : decode cX4_readInner 28 = .ok (.iconst 1, 1) := by decide +kernel
theorem dX4_readInner_29 : decode cX4_readInner 29 = .ok (.ireturn, 1) := by decide +kernel
theorem dX4_nameAhead_0 : decode cX4_nameAhead 0 = .ok (.aload_n 0, 1) := by decide +kernel
theorem dX4_nameAhead_1 : decode cX4_nameAhead 1 = .ok (.getfield 29, 3) := by decide +kernel
theorem dX4_nameAhead_4 : decode cX4_nameAhead 4 = .ok (.aload_n 0, 1) := by decide +kernel
theorem dX4_nameAhead_5 : decode cX4_nameAhead 5 = .ok (.getfield 26, 3) := by decide +kernel
theorem dX4_nameAhead_8 : decode cX4_nameAhead 8 = .ok (.isub, 1) := by decide +kernel
theorem dX4_nameAhead_9 : decode cX4_nameAhead 9 = .ok (.iconst 1, 1) := by decide +kernel
theorem dX4_nameAhead_10 : decode cX4_nameAhead 10 = .ok (.if_icmp .ne 26, 3) := by decide +kernel
theorem dX4_nameAhead_13 : decode cX4_nameAhead 13 = .ok (.aload_n 0, 1) := by decide +kernel
theorem dX4_nameAhead_14 : decode cX4_nameAhead 14 = .ok (.getfield 32, 3) := by decide +kernel
theorem dX4_nameAhead_17 : decode cX4_nameAhead 17 = .ok (.invokestatic 124, 3) := by decide +kernel
theorem dX4_nameAhead_20 : decode cX4_nameAhead 20 = .ok (.aload_n 0, 1) := by decide +kernel
theorem dX4_nameAhead_21 : decode cX4_nameAhead 21 = .ok (.getfield 9, 3) := by decide +kernel
theorem dX4_nameAhead_24 : decode cX4_nameAhead 24 = .ok (.aload_n 0, 1) := by decide +kernel
theorem dX4_nameAhead_25 : decode cX4_nameAhead 25 = .ok (.getfield 26, 3) := by decide +kernel
theorem dX4_nameAhead_28 : decode cX4_nameAhead 28 = .ok (.baload, 1) := by decide +kernel
theorem dX4_nameAhead_29 : decode cX4_nameAhead 29 = .ok (.i2c, 1) := by decide +kernel
theorem dX4_nameAhead_30 : decode cX4_nameAhead 30 = .ok (.invokevirtual 127, 3) := by decide +kernel
theorem dX4_nameAhead_33 : decode cX4_nameAhead 33 = .ok (.goto 4, 3) := by decide +kernel
theorem dX4_nameAhead_36 : decode cX4_nameAhead 36 = .ok (.iconst (-1), 1) := by decide +kernel
theorem dX4_nameAhead_37 : decode cX4_nameAhead 37 = .ok (.ireturn, 1) := by decide +kernel
theorem dX4_numberAhead_0 : decode cX4_numberAhead 0 = .ok (.iconst 0, 1) := by decide +kernel
theorem dX4_numberAhead_1 : decode cX4_numberAhead 1 = .ok (.istore_n 1, 1) := by decide +kernel
theorem dX4_numberAhead_2 : decode cX4_numberAhead 2 = .ok (.aload_n 0, 1) := by decide +kernel
theorem dX4_numberAhead_3 : decode cX4_numberAhead 3 = .ok (.getfield 26, 3) := by decide +kernel
theorem dX4_numberAhead_6 : decode cX4_numberAhead 6 = .ok (.istore_n 2, 1) := by decide +kernel
theorem dX4_numberAhead_7 : decode cX4_numberAhead 7 = .ok (.iload_n 2, 1) := by decide +kernel
theorem dX4_numberAhead_8 : decode cX4_numberAhead 8 = .ok (.aload_n 0, 1) := by decide +kernel
theorem dX4_numberAhead_9 : decode cX4_numberAhead 9 = .ok (.getfield 29, 3) := by decide +kernel
theorem dX4_numberAhead_12 : decode cX4_numberAhead 12 = .ok (.if_icmp .ge 24, 3) := by decide +kernel
theorem dX4_numberAhead_15 : decode cX4_numberAhead 15 = .ok (.iload_n 1, 1) := by decide +kernel
theorem dX4_numberAhead_16 : decode cX4_numberAhead 16 = .ok (.bipush 10, 2) := by decide +kernel
theorem dX4_numberAhead_18 : decode cX4_numberAhead 18 = .ok (.imul, 1) := by decide +kernel
theorem dX4_numberAhead_19 : decode cX4_numberAhead 19 = .ok (.aload_n 0, 1) := by decide +kernel
theorem dX4_numberAhead_20 : decode cX4_numberAhead 20 = .ok (.getfield 9, 3) := by decide +kernel
theorem dX4_numberAhead_23 : decode cX4_numberAhead 23 = .ok (.iload_n 2, 1) := by decide +kernel
theorem dX4_numberAhead_24 : decode cX4_numberAhead 24 = .ok (.baload, 1) := by decide +kernel
theorem dX4_numberAhead_25 : decode cX4_numberAhead 25 = .ok (.bipush 48, 2) := by decide +kernel
theorem dX4_numberAhead_27 : decode cX4_numberAhead 27 = .ok (.isub, 1) := by decide +kernel
theorem dX4_numberAhead_28 : decode cX4_numberAhead 28 = .ok (.iadd, 1) := by decide +kernel
theorem dX4_numberAhead_29 : decode cX4_numberAhead 29 = .ok (.istore_n 1, 1) := by decide +kernel
theorem dX4_numberAhead_30 : decode cX4_numberAhead 30 = .ok (.iinc 2 1, 3) := by decide +kernel
theorem dX4_numberAhead_33 : decode cX4_numberAhead 33 = .ok (.goto (-26), 3) := by decide +kernel
theorem dX4_numberAhead_36 : decode cX4_numberAhead 36 = .ok (.iload_n 1, 1) := by decide +kernel
theorem dX4_numberAhead_37 : decode cX4_numberAhead 37 = .ok (.ireturn, 1) := by decide +kernel
theorem dX4_emit_0 : decode cX4_emit 0 = .ok (.aload_n 0, 1) := by decide +kernel
theorem dX4_emit_1 : decode cX4_emit 1 = .ok (.getfield 35, 3) := by decide +kernel
theorem dX4_emit_4 : decode cX4_emit 4 = .ok (.bipush 96, 2) := by decide +kernel
theorem dX4_emit_6 : decode cX4_emit 6 = .ok (.if_icmp .ge 23, 3) := by decide +kernel
theorem dX4_emit_9 : decode cX4_emit 9 = .ok (.aload_n 0, 1) := by decide +kernel
theorem dX4_emit_10 : decode cX4_emit 10 = .ok (.getfield 15, 3) := by decide +kernel
theorem dX4_emit_13 : decode cX4_emit 13 = .ok (.aload_n 0, 1) := by decide +kernel
theorem dX4_emit_14 : decode cX4_emit 14 = .ok (.getfield 35, 3) := by decide +kernel
theorem dX4_emit_17 : decode cX4_emit 17 = .ok (.iload_n 1, 1) := by decide +kernel
theorem dX4_emit_18 : decode cX4_emit 18 = .ok (.iastore, 1) := by decide +kernel
theorem dX4_emit_19 : decode cX4_emit 19 = .ok (.aload_n 0, 1) := by decide +kernel
theorem dX4_emit_20 : decode cX4_emit 20 = .ok (.dup, 1) := by decide +kernel
theorem dX4_emit_21 : decode cX4_emit 21 = .ok (.getfield 35, 3) := by decide +kernel
theorem dX4_emit_24 : decode cX4_emit 24 = .ok (.iconst 1, 1) := by decide +kernel
theorem dX4_emit_25 : decode cX4_emit 25 = .ok (.iadd, 1) := by decide +kernel
theorem dX4_emit_26 : decode cX4_emit 26 = .ok (.putfield 35, 3) := by decide +kernel
theorem dX4_emit_29 : decode cX4_emit 29 = .ok (.return_, 1) := by decide +kernel
theorem dX5_init_0 : decode cX5_init 0 = .ok (.aload_n 0, 1) := by decide +kernel
theorem dX5_init_1 : decode cX5_init 1 = .ok (.invokespecial 1, 3) := by decide +kernel
theorem dX5_init_4 : decode cX5_init 4 = .ok (.aload_n 0, 1) := by decide +kernel
theorem dX5_init_5 : decode cX5_init 5 = .ok (.new 7, 3) := by decide +kernel
theorem dX5_init_8 : decode cX5_init 8 = .ok (.dup, 1) := by decide +kernel
theorem dX5_init_9 : decode cX5_init 9 = .ok (.invokespecial 9, 3) := by decide +kernel
theorem dX5_init_12 : decode cX5_init 12 = .ok (.putfield 10, 3) := by decide +kernel
theorem dX5_init_15 : decode cX5_init 15 = .ok (.aload_n 0, 1) := by decide +kernel
theorem dX5_init_16 : decode cX5_init 16 = .ok (.new 16, 3) := by decide +kernel
theorem dX5_init_19 : decode cX5_init 19 = .ok (.dup, 1) := by decide +kernel
theorem dX5_init_20 : decode cX5_init 20 = .ok (.aload_n 0, 1) := by decide +kernel
theorem dX5_init_21 : decode cX5_init 21 = .ok (.getfield 10, 3) := by decide +kernel
theorem dX5_init_24 : decode cX5_init 24 = .ok (.invokespecial 18, 3) := by decide +kernel
theorem dX5_init_27 : decode cX5_init 27 = .ok (.putfield 21, 3) := by decide +kernel
theorem dX5_init_30 : decode cX5_init 30 = .ok (.aload_n 0, 1) := by decide +kernel
theorem dX5_init_31 : decode cX5_init 31 = .ok (.new 16, 3) := by decide +kernel
theorem dX5_init_34 : decode cX5_init 34 = .ok (.dup, 1) := by decide +kernel
theorem dX5_init_35 : decode cX5_init 35 = .ok (.aload_n 0, 1) := by decide +kernel
theorem dX5_init_36 : decode cX5_init 36 = .ok (.getfield 10, 3) := by decide +kernel
theorem dX5_init_39 : decode cX5_init 39 = .ok (.invokespecial 18, 3) := by decide +kernel
theorem dX5_init_42 : decode cX5_init 42 = .ok (.putfield 25, 3) := by decide +kernel
theorem dX5_init_45 : decode cX5_init 45 = .ok (.aload_n 0, 1) := by decide +kernel
theorem dX5_init_46 : decode cX5_init 46 = .ok (.new 16, 3) := by decide +kernel
theorem dX5_init_49 : decode cX5_init 49 = .ok (.dup, 1) := by decide +kernel
theorem dX5_init_50 : decode cX5_init 50 = .ok (.aload_n 0, 1) := by decide +kernel
theorem dX5_init_51 : decode cX5_init 51 = .ok (.getfield 10, 3) := by decide +kernel
theorem dX5_init_54 : decode cX5_init 54 = .ok (.invokespecial 18, 3) := by decide +kernel
theorem dX5_init_57 : decode cX5_init 57 = .ok (.putfield 28, 3) := by decide +kernel
theorem dX5_init_60 : decode cX5_init 60 = .ok (.aload_n 0, 1) := by decide +kernel
theorem dX5_init_61 : decode cX5_init 61 = .ok (.new 16, 3) := by decide +kernel
theorem dX5_init_64 : decode cX5_init 64 = .ok (.dup, 1) := by decide +kernel
theorem dX5_init_65 : decode cX5_init 65 = .ok (.aload_n 0, 1) := by decide +kernel
theorem dX5_init_66 : decode cX5_init 66 = .ok (.getfield 10, 3) := by decide +kernel
theorem dX5_init_69 : decode cX5_init 69 = .ok (.invokespecial 18, 3) := by decide +kernel
theorem dX5_init_72 : decode cX5_init 72 = .ok (.putfield 31, 3) := by decide +kernel
theorem dX5_init_75 : decode cX5_init 75 = .ok (.aload_n 0, 1) := by decide +kernel
theorem dX5_init_76 : decode cX5_init 76 = .ok (.new 34, 3) := by decide +kernel
theorem dX5_init_79 : decode cX5_init 79 = .ok (.dup, 1) := by decide +kernel
theorem dX5_init_80 : decode cX5_init 80 = .ok (.invokespecial 36, 3) := by decide +kernel
theorem dX5_init_83 : decode cX5_init 83 = .ok (.putfield 37, 3) := by decide +kernel
theorem dX5_init_86 : decode cX5_init 86 = .ok (.aload_n 0, 1) := by decide +kernel
theorem dX5_init_87 : decode cX5_init 87 = .ok (.iconst 4, 1) := by decide +kernel
theorem dX5_init_88 : decode cX5_init 88 = .ok (.anewarray 41, 3) := by decide +kernel
theorem dX5_init_91 : decode cX5_init 91 = .ok (.putfield 43, 3) := by decide +kernel
theorem dX5_init_94 : decode cX5_init 94 = .ok (.aload_n 0, 1) := by decide +kernel
theorem dX5_init_95 : decode cX5_init 95 = .ok (.iconst 5, 1) := by decide +kernel
theorem dX5_init_96 : decode cX5_init 96 = .ok (.anewarray 47, 3) := by decide +kernel
theorem dX5_init_99 : decode cX5_init 99 = .ok (.putfield 49, 3) := by decide +kernel
theorem dX5_init_102 : decode cX5_init 102 = .ok (.aload_n 0, 1) := by decide +kernel
theorem dX5_init_103 : decode cX5_init 103 = .ok (.bipush 60, 2) := by decide +kernel
theorem dX5_init_105 : decode cX5_init 105 = .ok (.newarray .int, 2) := by decide +kernel
theorem dX5_init_107 : decode cX5_init 107 = .ok (.putfield 53, 3) := by decide +kernel
theorem dX5_init_110 : decode cX5_init 110 = .ok (.aload_n 0, 1) := by decide +kernel
theorem dX5_init_111 : decode cX5_init 111 = .ok (.iconst 0, 1) := by decide +kernel
theorem dX5_init_112 : decode cX5_init 112 = .ok (.putfield 57, 3) := by decide +kernel
theorem dX5_init_115 : decode cX5_init 115 = .ok (.aload_n 0, 1) := by decide +kernel
theorem dX5_init_116 : decode cX5_init 116 = .ok (.iconst 0, 1) := by decide +kernel
theorem dX5_init_117 : decode cX5_init 117 = .ok (.putfield 61, 3) := by decide +kernel
theorem dX5_init_120 : decode cX5_init 120 = .ok (.iconst 0, 1) := by decide +kernel
theorem dX5_init_121 : decode cX5_init 121 = .ok (.istore_n 1, 1) := by decide +kernel
theorem dX5_init_122 : decode cX5_init 122 = .ok (.iload_n 1, 1) := by decide +kernel
theorem dX5_init_123 : decode cX5_init 123 = .ok (.iconst 4, 1) := by decide +kernel
theorem dX5_init_124 : decode cX5_init 124 = .ok (.if_icmp .ge 22, 3) := by decide +kernel
theorem dX5_init_127 : decode cX5_init 127 = .ok (.aload_n 0, 1) := by decide +kernel
theorem dX5_init_128 : decode cX5_init 128 = .ok (.getfield 43, 3) := by decide +kernel
theorem dX5_init_131 : decode cX5_init 131 = .ok (.iload_n 1, 1) := by decide +kernel
theorem dX5_init_132 : decode cX5_init 132 = .ok (.new 41, 3) := by decide +kernel
theorem dX5_init_135 : decode cX5_init 135 = .ok (.dup, 1) := by decide +kernel
theorem dX5_init_136 : decode cX5_init 136 = .ok (.invokespecial 65, 3) := by decide +kernel
theorem dX5_init_139 : decode cX5_init 139 = .ok (.aastore, 1) := by decide +kernel
theorem dX5_init_140 : decode cX5_init 140 = .ok (.iinc 1 1, 3) := by decide +kernel
theorem dX5_init_143 : decode cX5_init 143 = .ok (.goto (-21), 3) := by decide +kernel
theorem dX5_init_146 : decode cX5_init 146 = .ok (.iconst 0, 1) := by decide +kernel
theorem dX5_init_147 : decode cX5_init 147 = .ok (.istore_n 1, 1) := by decide +kernel
theorem dX5_init_148 : decode cX5_init 148 = .ok (.iload_n 1, 1) := by decide +kernel
theorem dX5_init_149 : decode cX5_init 149 = .ok (.iconst 5, 1) := by decide +kernel
theorem dX5_init_150 : decode cX5_init 150 = .ok (.if_icmp .ge 22, 3) := by decide +kernel
theorem dX5_init_153 : decode cX5_init 153 = .ok (.aload_n 0, 1) := by decide +kernel
theorem dX5_init_154 : decode cX5_init 154 = .ok (.getfield 49, 3) := by decide +kernel
theorem dX5_init_157 : decode cX5_init 157 = .ok (.iload_n 1, 1) := by decide +kernel
theorem dX5_init_158 : decode cX5_init 158 = .ok (.new 47, 3) := by decide +kernel
theorem dX5_init_161 : decode cX5_init 161 = .ok (.dup, 1) := by decide +kernel
theorem dX5_init_162 : decode cX5_init 162 = .ok (.invokespecial 66, 3) := by decide +kernel
theorem dX5_init_165 : decode cX5_init 165 = .ok (.aastore, 1) := by decide +kernel
theorem dX5_init_166 : decode cX5_init 166 = .ok (.iinc 1 1, 3) := by decide +kernel
theorem dX5_init_169 : decode cX5_init 169 = .ok (.goto (-21), 3) := by decide +kernel
theorem dX5_init_172 : decode cX5_init 172 = .ok (.return_, 1) := by decide +kernel
theorem dX5_thing_0 : decode cX5_thing 0 = .ok (.iload_n 1, 1) := by decide +kernel
theorem dX5_thing_1 : decode cX5_thing 1 = .ok (.iconst 0, 1) := by decide +kernel
theorem dX5_thing_2 : decode cX5_thing 2 = .ok (.iconst 5, 1) := by decide +kernel
theorem dX5_thing_3 : decode cX5_thing 3 = .ok (.invokestatic 67, 3) := by decide +kernel
theorem dX5_thing_6 : decode cX5_thing 6 = .ok (.ifCond .eq 13, 3) := by decide +kernel
theorem dX5_thing_9 : decode cX5_thing 9 = .ok (.iload_n 2, 1) := by decide +kernel
theorem dX5_thing_10 : decode cX5_thing 10 = .ok (.iconst 1, 1) := by decide +kernel
theorem dX5_thing_11 : decode cX5_thing 11 = .ok (.bipush 9, 2) := by decide +kernel
theorem dX5_thing_13 : decode cX5_thing 13 = .ok (.invokestatic 67, 3) := by decide +kernel
theorem dX5_thing_16 : decode cX5_thing 16 = .ok (.ifCond .ne 6, 3) := by decide +kernel
theorem dX5_thing_19 : decode cX5_thing 19 = .ok (.ldc 71, 2) := by decide +kernel
theorem dX5_thing_21 : decode cX5_thing 21 = .ok (.ireturn, 1) := by decide +kernel
theorem dX5_thing_22 : decode cX5_thing 22 = .ok (.aload_n 0, 1) := by decide +kernel
theorem dX5_thing_23 : decode cX5_thing 23 = .ok (.getfield 21, 3) := by decide +kernel
theorem dX5_thing_26 : decode cX5_thing 26 = .ok (.getfield 72, 3) := by decide +kernel
theorem dX5_thing_29 : decode cX5_thing 29 = .ok (.bipush 8, 2) := by decide +kernel
theorem dX5_thing_31 : decode cX5_thing 31 = .ok (.if_icmp .ge 16, 3) := by decide +kernel
theorem dX5_thing_34 : decode cX5_thing 34 = .ok (.aload_n 0, 1) := by decide +kernel
theorem dX5_thing_35 : decode cX5_thing 35 = .ok (.getfield 21, 3) := by decide +kernel
theorem dX5_thing_38 : decode cX5_thing 38 = .ok (.iload_n 1, 1) := by decide +kernel
theorem dX5_thing_39 : decode cX5_thing 39 = .ok (.iload_n 2, 1) := by decide +kernel
theorem dX5_thing_40 : decode cX5_thing 40 = .ok (.iconst 0, 1) := by decide +kernel
theorem dX5_thing_41 : decode cX5_thing 41 = .ok (.invokevirtual 75, 3) := by decide +kernel
theorem dX5_thing_44 : decode cX5_thing 44 = .ok (.goto 5, 3) := by decide +kernel
theorem dX5_thing_47 : decode cX5_thing 47 = .ok (.ldc 79, 2) := by decide +kernel
theorem dX5_thing_49 : decode cX5_thing 49 = .ok (.ireturn, 1) := by decide +kernel
theorem dX5_toss_0 : decode cX5_toss 0 = .ok (.aload_n 0, 1) := by decide +kernel
theorem dX5_toss_1 : decode cX5_toss 1 = .ok (.getfield 21, 3) := by decide +kernel
theorem dX5_toss_4 : decode cX5_toss 4 = .ok (.iload_n 1, 1) := by decide +kernel
theorem dX5_toss_5 : decode cX5_toss 5 = .ok (.invokevirtual 80, 3) := by decide +kernel
theorem dX5_toss_8 : decode cX5_toss 8 = .ok (.ifCond .eq 14, 3) := by decide +kernel
theorem dX5_toss_11 : decode cX5_toss 11 = .ok (.iload_n 2, 1) := by decide +kernel
theorem dX5_toss_12 : decode cX5_toss 12 = .ok (.iconst 1, 1) := by decide +kernel
theorem dX5_toss_13 : decode cX5_toss 13 = .ok (.sipush 9999, 3) := by decide +kernel
theorem dX5_toss_16 : decode cX5_toss 16 = .ok (.invokestatic 67, 3) := by decide +kernel
theorem dX5_toss_19 : decode cX5_toss 19 = .ok (.ifCond .ne 6, 3) := by decide +kernel
theorem dX5_toss_22 : decode cX5_toss 22 = .ok (.ldc 71, 2) := by decide +kernel
theorem dX5_toss_24 : decode cX5_toss 24 = .ok (.ireturn, 1) := by decide +kernel
theorem dX5_toss_25 : decode cX5_toss 25 = .ok (.aload_n 0, 1) := by decide +kernel
theorem dX5_toss_26 : decode cX5_toss 26 = .ok (.getfield 21, 3) := by decide +kernel
theorem dX5_toss_29 : decode cX5_toss 29 = .ok (.iload_n 1, 1) := by decide +kernel
theorem dX5_toss_30 : decode cX5_toss 30 = .ok (.iload_n 2, 1) := by decide +kernel
theorem dX5_toss_31 : decode cX5_toss 31 = .ok (.invokevirtual 84, 3) := by decide +kernel
theorem dX5_toss_34 : decode cX5_toss 34 = .ok (.aload_n 0, 1) := by decide +kernel
theorem dX5_toss_35 : decode cX5_toss 35 = .ok (.getfield 21, 3) := by decide +kernel
theorem dX5_toss_38 : decode cX5_toss 38 = .ok (.getfield 88, 3) := by decide +kernel
theorem dX5_toss_41 : decode cX5_toss 41 = .ok (.iload_n 1, 1) := by decide +kernel
theorem dX5_toss_42 : decode cX5_toss 42 = .ok (.iaload, 1) := by decide +kernel
theorem dX5_toss_43 : decode cX5_toss 43 = .ok (.ireturn, 1) := by decide +kernel
theorem dX5_told_0 : decode cX5_told 0 = .ok (.aload_n 0, 1) := by decide +kernel
theorem dX5_told_1 : decode cX5_told 1 = .ok (.getfield 21, 3) := by decide +kernel
theorem dX5_told_4 : decode cX5_told 4 = .ok (.iload_n 1, 1) := by decide +kernel
theorem dX5_told_5 : decode cX5_told 5 = .ok (.invokevirtual 80, 3) := by decide +kernel
theorem dX5_told_8 : decode cX5_told 8 = .ok (.ifCond .ne 6, 3) := by decide +kernel
theorem dX5_told_11 : decode cX5_told 11 = .ok (.ldc 71, 2) := by decide +kernel
theorem dX5_told_13 : decode cX5_told 13 = .ok (.ireturn, 1) := by decide +kernel
theorem dX5_told_14 : decode cX5_told 14 = .ok (.iload_n 2, 1) := by decide +kernel
theorem dX5_told_15 : decode cX5_told 15 = .ok (.tableswitch 147 0 8 #[49, 59, 69, 79, 89, 98, 107, 129, 138], 49) := by decide +kernel
theorem dX5_told_64 : decode cX5_told 64 = .ok (.aload_n 0, 1) := by decide +kernel
theorem dX5_told_65 : decode cX5_told 65 = .ok (.getfield 21, 3) := by decide +kernel
theorem dX5_told_68 : decode cX5_told 68 = .ok (.getfield 91, 3) := by decide +kernel
theorem dX5_told_71 : decode cX5_told 71 = .ok (.iload_n 1, 1) := by decide +kernel
theorem dX5_told_72 : decode cX5_told 72 = .ok (.iaload, 1) := by decide +kernel
theorem dX5_told_73 : decode cX5_told 73 = .ok (.ireturn, 1) := by decide +kernel
theorem dX5_told_74 : decode cX5_told 74 = .ok (.aload_n 0, 1) := by decide +kernel
theorem dX5_told_75 : decode cX5_told 75 = .ok (.getfield 21, 3) := by decide +kernel
theorem dX5_told_78 : decode cX5_told 78 = .ok (.getfield 94, 3) := by decide +kernel
theorem dX5_told_81 : decode cX5_told 81 = .ok (.iload_n 1, 1) := by decide +kernel
theorem dX5_told_82 : decode cX5_told 82 = .ok (.iaload, 1) := by decide +kernel
theorem dX5_told_83 : decode cX5_told 83 = .ok (.ireturn, 1) := by decide +kernel
theorem dX5_told_84 : decode cX5_told 84 = .ok (.aload_n 0, 1) := by decide +kernel
theorem dX5_told_85 : decode cX5_told 85 = .ok (.getfield 21, 3) := by decide +kernel
theorem dX5_told_88 : decode cX5_told 88 = .ok (.getfield 88, 3) := by decide +kernel
theorem dX5_told_91 : decode cX5_told 91 = .ok (.iload_n 1, 1) := by decide +kernel
theorem dX5_told_92 : decode cX5_told 92 = .ok (.iaload, 1) := by decide +kernel
theorem dX5_told_93 : decode cX5_told 93 = .ok (.ireturn, 1) := by decide +kernel
theorem dX5_told_94 : decode cX5_told 94 = .ok (.aload_n 0, 1) := by decide +kernel
theorem dX5_told_95 : decode cX5_told 95 = .ok (.getfield 21, 3) := by decide +kernel
theorem dX5_told_98 : decode cX5_told 98 = .ok (.getfield 97, 3) := by decide +kernel
theorem dX5_told_101 : decode cX5_told 101 = .ok (.iload_n 1, 1) := by decide +kernel
theorem dX5_told_102 : decode cX5_told 102 = .ok (.iaload, 1) := by decide +kernel
theorem dX5_told_103 : decode cX5_told 103 = .ok (.ireturn, 1) := by decide +kernel
theorem dX5_told_104 : decode cX5_told 104 = .ok (.aload_n 0, 1) := by decide +kernel
theorem dX5_told_105 : decode cX5_told 105 = .ok (.getfield 21, 3) := by decide +kernel
theorem dX5_told_108 : decode cX5_told 108 = .ok (.iload_n 1, 1) := by decide +kernel
theorem dX5_told_109 : decode cX5_told 109 = .ok (.invokevirtual 100, 3) := by decide +kernel
theorem dX5_told_112 : decode cX5_told 112 = .ok (.ireturn, 1) := by decide +kernel
theorem dX5_told_113 : decode cX5_told 113 = .ok (.aload_n 0, 1) := by decide +kernel
theorem dX5_told_114 : decode cX5_told 114 = .ok (.getfield 21, 3) := by decide +kernel
theorem dX5_told_117 : decode cX5_told 117 = .ok (.iload_n 1, 1) := by decide +kernel
theorem dX5_told_118 : decode cX5_told 118 = .ok (.invokevirtual 104, 3) := by decide +kernel
theorem dX5_told_121 : decode cX5_told 121 = .ok (.ireturn, 1) := by decide +kernel
theorem dX5_told_122 : decode cX5_told 122 = .ok (.aload_n 0, 1) := by decide +kernel
theorem dX5_told_123 : decode cX5_told 123 = .ok (.getfield 21, 3) := by decide +kernel
theorem dX5_told_126 : decode cX5_told 126 = .ok (.getfield 91, 3) := by decide +kernel
theorem dX5_told_129 : decode cX5_told 129 = .ok (.iload_n 1, 1) := by decide +kernel
theorem dX5_told_130 : decode cX5_told 130 = .ok (.iaload, 1) := by decide +kernel
theorem dX5_told_131 : decode cX5_told 131 = .ok (.aload_n 0, 1) := by decide +kernel
theorem dX5_told_132 : decode cX5_told 132 = .ok (.getfield 21, 3) := by decide +kernel
theorem dX5_told_135 : decode cX5_told 135 = .ok (.getfield 94, 3) := by decide +kernel
theorem dX5_told_138 : decode cX5_told 138 = .ok (.iload_n 1, 1) := by decide +kernel
theorem dX5_told_139 : decode cX5_told 139 = .ok (.iaload, 1) := by decide +kernel
theorem dX5_told_140 : decode cX5_told 140 = .ok (.invokestatic 107, 3) := by decide +kernel
theorem dX5_told_143 : decode cX5_told 143 = .ok (.ireturn, 1) := by decide +kernel
theorem dX5_told_144 : decode cX5_told 144 = .ok (.aload_n 0, 1) := by decide +kernel
theorem dX5_told_145 : decode cX5_told 145 = .ok (.getfield 21, 3) := by decide +kernel
theorem dX5_told_148 : decode cX5_told 148 = .ok (.iload_n 1, 1) := by decide +kernel
theorem dX5_told_149 : decode cX5_told 149 = .ok (.invokevirtual 111, 3) := by decide +kernel
theorem dX5_told_152 : decode cX5_told 152 = .ok (.ireturn, 1) := by decide +kernel
theorem dX5_told_153 : decode cX5_told 153 = .ok (.aload_n 0, 1) := by decide +kernel
theorem dX5_told_154 : decode cX5_told 154 = .ok (.getfield 21, 3) := by decide +kernel
theorem dX5_told_157 : decode cX5_told 157 = .ok (.iload_n 1, 1) := by decide +kernel
theorem dX5_told_158 : decode cX5_told 158 = .ok (.invokevirtual 114, 3) := by decide +kernel
theorem dX5_told_161 : decode cX5_told 161 = .ok (.ireturn, 1) := by decide +kernel
theorem dX5_told_162 : decode cX5_told 162 = .ok (.ldc 71, 2) := by decide +kernel
theorem dX5_told_164 : decode cX5_told 164 = .ok (.ireturn, 1) := by decide +kernel
theorem dX5_as_0 : decode cX5_as 0 = .ok (.aload_n 0, 1) := by decide +kernel
theorem dX5_as_1 : decode cX5_as 1 = .ok (.getfield 21, 3) := by decide +kernel
theorem dX5_as_4 : decode cX5_as 4 = .ok (.iload_n 1, 1) := by decide +kernel
theorem dX5_as_5 : decode cX5_as 5 = .ok (.invokevirtual 80, 3) := by decide +kernel
theorem dX5_as_8 : decode cX5_as 8 = .ok (.ifCond .eq 12, 3) := by decide +kernel
theorem dX5_as_11 : decode cX5_as 11 = .ok (.iload_n 2, 1) := by decide +kernel
theorem dX5_as_12 : decode cX5_as 12 = .ok (.iconst 0, 1) := by decide +kernel
theorem dX5_as_13 : decode cX5_as 13 = .ok (.iconst 5, 1) := by decide +kernel
theorem dX5_as_14 : decode cX5_as 14 = .ok (.invokestatic 67, 3) := by decide +kernel
theorem dX5_as_17 : decode cX5_as 17 = .ok (.ifCond .ne 6, 3) := by decide +kernel
theorem dX5_as_20 : decode cX5_as 20 = .ok (.ldc 71, 2) := by decide +kernel
theorem dX5_as_22 : decode cX5_as 22 = .ok (.ireturn, 1) := by decide +kernel
theorem dX5_as_23 : decode cX5_as 23 = .ok (.aload_n 0, 1) := by decide +kernel
theorem dX5_as_24 : decode cX5_as 24 = .ok (.getfield 21, 3) := by decide +kernel
theorem dX5_as_27 : decode cX5_as 27 = .ok (.getfield 91, 3) := by decide +kernel
theorem dX5_as_30 : decode cX5_as 30 = .ok (.iload_n 1, 1) := by decide +kernel
theorem dX5_as_31 : decode cX5_as 31 = .ok (.iaload, 1) := by decide +kernel
theorem dX5_as_32 : decode cX5_as 32 = .ok (.iload_n 2, 1) := by decide +kernel
theorem dX5_as_33 : decode cX5_as 33 = .ok (.invokestatic 117, 3) := by decide +kernel
theorem dX5_as_36 : decode cX5_as 36 = .ok (.ifCond .eq 15, 3) := by decide +kernel
theorem dX5_as_39 : decode cX5_as 39 = .ok (.aload_n 0, 1) := by decide +kernel
theorem dX5_as_40 : decode cX5_as 40 = .ok (.getfield 21, 3) := by decide +kernel
theorem dX5_as_43 : decode cX5_as 43 = .ok (.getfield 94, 3) := by decide +kernel
theorem dX5_as_46 : decode cX5_as 46 = .ok (.iload_n 1, 1) := by decide +kernel
theorem dX5_as_47 : decode cX5_as 47 = .ok (.iaload, 1) := by decide +kernel
theorem dX5_as_48 : decode cX5_as 48 = .ok (.goto 5, 3) := by decide +kernel
theorem dX5_as_51 : decode cX5_as 51 = .ok (.ldc 121, 2) := by decide +kernel
theorem dX5_as_53 : decode cX5_as 53 = .ok (.ireturn, 1) := by decide +kernel
theorem dX5_turns_0 : decode cX5_turns 0 = .ok (.aload_n 0, 1) := by decide +kernel
theorem dX5_turns_1 : decode cX5_turns 1 = .ok (.getfield 21, 3) := by decide +kernel
theorem dX5_turns_4 : decode cX5_turns 4 = .ok (.iload_n 1, 1) := by decide +kernel
theorem dX5_turns_5 : decode cX5_turns 5 = .ok (.invokevirtual 80, 3) := by decide +kernel
theorem dX5_turns_8 : decode cX5_turns 8 = .ok (.ifCond .eq 12, 3) := by decide +kernel
theorem dX5_turns_11 : decode cX5_turns 11 = .ok (.iload_n 2, 1) := by decide +kernel
theorem dX5_turns_12 : decode cX5_turns 12 = .ok (.iconst 0, 1) := by decide +kernel
theorem dX5_turns_13 : decode cX5_turns 13 = .ok (.iconst 5, 1) := by decide +kernel
theorem dX5_turns_14 : decode cX5_turns 14 = .ok (.invokestatic 67, 3) := by decide +kernel
theorem dX5_turns_17 : decode cX5_turns 17 = .ok (.ifCond .ne 6, 3) := by decide +kernel
theorem dX5_turns_20 : decode cX5_turns 20 = .ok (.ldc 71, 2) := by decide +kernel
theorem dX5_turns_22 : decode cX5_turns 22 = .ok (.ireturn, 1) := by decide +kernel
theorem dX5_turns_23 : decode cX5_turns 23 = .ok (.aload_n 0, 1) := by decide +kernel
theorem dX5_turns_24 : decode cX5_turns 24 = .ok (.getfield 21, 3) := by decide +kernel
theorem dX5_turns_27 : decode cX5_turns 27 = .ok (.getfield 91, 3) := by decide +kernel
theorem dX5_turns_30 : decode cX5_turns 30 = .ok (.iload_n 1, 1) := by decide +kernel
theorem dX5_turns_31 : decode cX5_turns 31 = .ok (.iaload, 1) := by decide +kernel
theorem dX5_turns_32 : decode cX5_turns 32 = .ok (.istore_n 3, 1) := by decide +kernel
theorem dX5_turns_33 : decode cX5_turns 33 = .ok (.aload_n 0, 1) := by decide +kernel
theorem dX5_turns_34 : decode cX5_turns 34 = .ok (.getfield 21, 3) := by decide +kernel
theorem dX5_turns_37 : decode cX5_turns 37 = .ok (.getfield 91, 3) := by decide +kernel
theorem dX5_turns_40 : decode cX5_turns 40 = .ok (.iload_n 1, 1) := by decide +kernel
theorem dX5_turns_41 : decode cX5_turns 41 = .ok (.iload_n 2, 1) := by decide +kernel
theorem dX5_turns_42 : decode cX5_turns 42 = .ok (.iastore, 1) := by decide +kernel
theorem dX5_turns_43 : decode cX5_turns 43 = .ok (.iload_n 3, 1) := by decide +kernel
theorem dX5_turns_44 : decode cX5_turns 44 = .ok (.ireturn, 1) := by decide +kernel
theorem dX5_set_0 : decode cX5_set 0 = .ok (.aload_n 0, 1) := by decide +kernel
theorem dX5_set_1 : decode cX5_set 1 = .ok (.getfield 21, 3) := by decide +kernel
theorem dX5_set_4 : decode cX5_set 4 = .ok (.iload_n 1, 1) := by decide +kernel
theorem dX5_set_5 : decode cX5_set 5 = .ok (.invokevirtual 80, 3) := by decide +kernel
theorem dX5_set_8 : decode cX5_set 8 = .ok (.ifCond .ne 6, 3) := by decide +kernel
theorem dX5_set_11 : decode cX5_set 11 = .ok (.ldc 71, 2) := by decide +kernel
theorem dX5_set_13 : decode cX5_set 13 = .ok (.ireturn, 1) := by decide +kernel
theorem dX5_set_14 : decode cX5_set 14 = .ok (.iload_n 2, 1) := by decide +kernel
theorem dX5_set_15 : decode cX5_set 15 = .ok (.tableswitch 110 1 3 #[25, 53, 81], 25) := by decide +kernel
theorem dX5_set_40 : decode cX5_set 40 = .ok (.iload_n 3, 1) := by decide +kernel
theorem dX5_set_41 : decode cX5_set 41 = .ok (.iconst 1, 1) := by decide +kernel
theorem dX5_set_42 : decode cX5_set 42 = .ok (.bipush 9, 2) := by decide +kernel
theorem dX5_set_44 : decode cX5_set 44 = .ok (.invokestatic 67, 3) := by decide +kernel
theorem dX5_set_47 : decode cX5_set 47 = .ok (.ifCond .eq 18, 3) := by decide +kernel
theorem dX5_set_50 : decode cX5_set 50 = .ok (.aload_n 0, 1) := by decide +kernel
theorem dX5_set_51 : decode cX5_set 51 = .ok (.getfield 21, 3) := by decide +kernel
theorem dX5_set_54 : decode cX5_set 54 = .ok (.getfield 94, 3) := by decide +kernel
theorem dX5_set_57 : decode cX5_set 57 = .ok (.iload_n 1, 1) := by decide +kernel
theorem dX5_set_58 : decode cX5_set 58 = .ok (.iload_n 3, 1) := by decide +kernel
theorem dX5_set_59 : decode cX5_set 59 = .ok (.invokestatic 122, 3) := by decide +kernel
theorem dX5_set_62 : decode cX5_set 62 = .ok (.goto 5, 3) := by decide +kernel
theorem dX5_set_65 : decode cX5_set 65 = .ok (.ldc 71, 2) := by decide +kernel
theorem dX5_set_67 : decode cX5_set 67 = .ok (.ireturn, 1) := by decide +kernel
theorem dX5_set_68 : decode cX5_set 68 = .ok (.iload_n 3, 1) := by decide +kernel
theorem dX5_set_69 : decode cX5_set 69 = .ok (.iconst 0, 1) := by decide +kernel
theorem dX5_set_70 : decode cX5_set 70 = .ok (.ldc 126, 2) := by decide +kernel
theorem dX5_set_72 : decode cX5_set 72 = .ok (.invokestatic 67, 3) := by decide +kernel
theorem dX5_set_75 : decode cX5_set 75 = .ok (.ifCond .eq 18, 3) := by decide +kernel
theorem dX5_set_78 : decode cX5_set 78 = .ok (.aload_n 0, 1) := by decide +kernel
theorem dX5_set_79 : decode cX5_set 79 = .ok (.getfield 21, 3) := by decide +kernel
theorem dX5_set_82 : decode cX5_set 82 = .ok (.getfield 88, 3) := by decide +kernel
theorem dX5_set_85 : decode cX5_set 85 = .ok (.iload_n 1, 1) := by decide +kernel
theorem dX5_set_86 : decode cX5_set 86 = .ok (.iload_n 3, 1) := by decide +kernel
theorem dX5_set_87 : decode cX5_set 87 = .ok (.invokestatic 122, 3) := by decide +kernel
theorem dX5_set_90 : decode cX5_set 90 = .ok (.goto 5, 3) := by decide +kernel
theorem dX5_set_93 : decode cX5_set 93 = .ok (.ldc 71, 2) := by decide +kernel
theorem dX5_set_95 : decode cX5_set 95 = .ok (.ireturn, 1) := by decide +kernel
theorem dX5_set_96 : decode cX5_set 96 = .ok (.iload_n 3, 1) := by decide +kernel
theorem dX5_set_97 : decode cX5_set 97 = .ok (.iconst 0, 1) := by decide +kernel
theorem dX5_set_98 : decode cX5_set 98 = .ok (.sipush 9999, 3) := by decide +kernel
theorem dX5_set_101 : decode cX5_set 101 = .ok (.invokestatic 67, 3) := by decide +kernel
theorem dX5_set_104 : decode cX5_set 104 = .ok (.ifCond .eq 18, 3) := by decide +kernel
theorem dX5_set_107 : decode cX5_set 107 = .ok (.aload_n 0, 1) := by decide +kernel
theorem dX5_set_108 : decode cX5_set 108 = .ok (.getfield 21, 3) := by decide +kernel
theorem dX5_set_111 : decode cX5_set 111 = .ok (.getfield 97, 3) := by decide +kernel
theorem dX5_set_114 : decode cX5_set 114 = .ok (.iload_n 1, 1) := by decide +kernel
theorem dX5_set_115 : decode cX5_set 115 = .ok (.iload_n 3, 1) := by decide +kernel
theorem dX5_set_116 : decode cX5_set 116 = .ok (.invokestatic 122, 3) := by decide +kernel
theorem dX5_set_119 : decode cX5_set 119 = .ok (.goto 5, 3) := by decide +kernel
theorem dX5_set_122 : decode cX5_set 122 = .ok (.ldc 71, 2) := by decide +kernel
theorem dX5_set_124 : decode cX5_set 124 = .ok (.ireturn, 1) := by decide +kernel
theorem dX5_set_125 : decode cX5_set 125 = .ok (.ldc 71, 2) := by decide +kernel
theorem dX5_set_127 : decode cX5_set 127 = .ok (.ireturn, 1) := by decide +kernel
theorem dX5_deal_0 : decode cX5_deal 0 = .ok (.iload_n 1, 1) := by decide +kernel
theorem dX5_deal_1 : decode cX5_deal 1 = .ok (.iconst 1, 1) := by decide +kernel
theorem dX5_deal_2 : decode cX5_deal 2 = .ok (.bipush 8, 2) := by decide +kernel
theorem dX5_deal_4 : decode cX5_deal 4 = .ok (.invokestatic 67, 3) := by decide +kernel
theorem dX5_deal_7 : decode cX5_deal 7 = .ok (.ifCond .ne 6, 3) := by decide +kernel
theorem dX5_deal_10 : decode cX5_deal 10 = .ok (.ldc 71, 2) := by decide +kernel
theorem dX5_deal_12 : decode cX5_deal 12 = .ok (.ireturn, 1) := by decide +kernel
theorem dX5_deal_13 : decode cX5_deal 13 = .ok (.iload_n 1, 1) := by decide +kernel
theorem dX5_deal_14 : decode cX5_deal 14 = .ok (.bipush 8, 2) := by decide +kernel
theorem dX5_deal_16 : decode cX5_deal 16 = .ok (.aload_n 0, 1) := by decide +kernel
theorem dX5_deal_17 : decode cX5_deal 17 = .ok (.getfield 21, 3) := by decide +kernel
theorem dX5_deal_20 : decode cX5_deal 20 = .ok (.getfield 72, 3) := by decide +kernel
theorem dX5_deal_23 : decode cX5_deal 23 = .ok (.isub, 1) := by decide +kernel
theorem dX5_deal_24 : decode cX5_deal 24 = .ok (.invokestatic 127, 3) := by decide +kernel
theorem dX5_deal_27 : decode cX5_deal 27 = .ok (.istore_n 2, 1) := by decide +kernel
theorem dX5_deal_28 : decode cX5_deal 28 = .ok (.iconst 0, 1) := by decide +kernel
theorem dX5_deal_29 : decode cX5_deal 29 = .ok (.istore_n 3, 1) := by decide +kernel
theorem dX5_deal_30 : decode cX5_deal 30 = .ok (.iload_n 3, 1) := by decide +kernel
theorem dX5_deal_31 : decode cX5_deal 31 = .ok (.iload_n 2, 1) := by decide +kernel
theorem dX5_deal_32 : decode cX5_deal 32 = .ok (.if_icmp .ge 16, 3) := by decide +kernel
theorem dX5_deal_35 : decode cX5_deal 35 = .ok (.aload_n 0, 1) := by decide +kernel
theorem dX5_deal_36 : decode cX5_deal 36 = .ok (.getfield 21, 3) := by decide +kernel
theorem dX5_deal_39 : decode cX5_deal 39 = .ok (.invokevirtual 132, 3) := by decide +kernel
theorem dX5_deal_42 : decode cX5_deal 42 = .ok (.iinc 3 1, 3) := by decide +kernel
theorem dX5_deal_45 : decode cX5_deal 45 = .ok (.goto (-15), 3) := by decide +kernel
theorem dX5_deal_48 : decode cX5_deal 48 = .ok (.iload_n 2, 1) := by decide +kernel
theorem dX5_deal_49 : decode cX5_deal 49 = .ok (.ireturn, 1) := by decide +kernel
theorem dX5_seed_0 : decode cX5_seed 0 = .ok (.aload_n 0, 1) := by decide +kernel
theorem dX5_seed_1 : decode cX5_seed 1 = .ok (.getfield 21, 3) := by decide +kernel
theorem dX5_seed_4 : decode cX5_seed 4 = .ok (.getfield 135, 3) := by decide +kernel
theorem dX5_seed_7 : decode cX5_seed 7 = .ok (.istore_n 2, 1) := by decide +kernel
theorem dX5_seed_8 : decode cX5_seed 8 = .ok (.aload_n 0, 1) := by decide +kernel
theorem dX5_seed_9 : decode cX5_seed 9 = .ok (.getfield 21, 3) := by decide +kernel
theorem dX5_seed_12 : decode cX5_seed 12 = .ok (.iload_n 1, 1) := by decide +kernel
theorem dX5_seed_13 : decode cX5_seed 13 = .ok (.putfield 135, 3) := by decide +kernel
theorem dX5_seed_16 : decode cX5_seed 16 = .ok (.iload_n 2, 1) := by decide +kernel
theorem dX5_seed_17 : decode cX5_seed 17 = .ok (.ireturn, 1) := by decide +kernel
theorem dX5_pot_0 : decode cX5_pot 0 = .ok (.iload_n 1, 1) := by decide +kernel
theorem dX5_pot_1 : decode cX5_pot 1 = .ok (.ifCond .ne 33, 3) := by decide +kernel
theorem dX5_pot_4 : decode cX5_pot 4 = .ok (.iload_n 2, 1) := by decide +kernel
theorem dX5_pot_5 : decode cX5_pot 5 = .ok (.iconst 1, 1) := by decide +kernel
theorem dX5_pot_6 : decode cX5_pot 6 = .ok (.sipush 999, 3) := by decide +kernel
theorem dX5_pot_9 : decode cX5_pot 9 = .ok (.invokestatic 67, 3) := by decide +kernel
theorem dX5_pot_12 : decode cX5_pot 12 = .ok (.ifCond .eq 22, 3) := by decide +kernel
theorem dX5_pot_15 : decode cX5_pot 15 = .ok (.aload_n 0, 1) := by decide +kernel
theorem dX5_pot_16 : decode cX5_pot 16 = .ok (.getfield 21, 3) := by decide +kernel
theorem dX5_pot_19 : decode cX5_pot 19 = .ok (.getfield 138, 3) := by decide +kernel
theorem dX5_pot_22 : decode cX5_pot 22 = .ok (.istore_n 3, 1) := by decide +kernel
theorem dX5_pot_23 : decode cX5_pot 23 = .ok (.aload_n 0, 1) := by decide +kernel
theorem dX5_pot_24 : decode cX5_pot 24 = .ok (.getfield 21, 3) := by decide +kernel
theorem dX5_pot_27 : decode cX5_pot 27 = .ok (.iload_n 2, 1) := by decide +kernel
theorem dX5_pot_28 : decode cX5_pot 28 = .ok (.putfield 138, 3) := by decide +kernel
theorem dX5_pot_31 : decode cX5_pot 31 = .ok (.goto 41, 3) := by decide +kernel
theorem dX5_pot_34 : decode cX5_pot 34 = .ok (.iload_n 1, 1) := by decide +kernel
theorem dX5_pot_35 : decode cX5_pot 35 = .ok (.iconst 1, 1) := by decide +kernel
theorem dX5_pot_36 : decode cX5_pot 36 = .ok (.if_icmp .ne 33, 3) := by decide +kernel
theorem dX5_pot_39 : decode cX5_pot 39 = .ok (.iload_n 2, 1) := by decide +kernel
theorem dX5_pot_40 : decode cX5_pot 40 = .ok (.iconst 0, 1) := by decide +kernel
theorem dX5_pot_41 : decode cX5_pot 41 = .ok (.sipush 999, 3) := by decide +kernel
theorem dX5_pot_44 : decode cX5_pot 44 = .ok (.invokestatic 67, 3) := by decide +kernel
theorem dX5_pot_47 : decode cX5_pot 47 = .ok (.ifCond .eq 22, 3) := by decide +kernel
theorem dX5_pot_50 : decode cX5_pot 50 = .ok (.aload_n 0, 1) := by decide +kernel
theorem dX5_pot_51 : decode cX5_pot 51 = .ok (.getfield 21, 3) := by decide +kernel
theorem dX5_pot_54 : decode cX5_pot 54 = .ok (.getfield 141, 3) := by decide +kernel
theorem dX5_pot_57 : decode cX5_pot 57 = .ok (.istore_n 3, 1) := by decide +kernel
theorem dX5_pot_58 : decode cX5_pot 58 = .ok (.aload_n 0, 1) := by decide +kernel
theorem dX5_pot_59 : decode cX5_pot 59 = .ok (.getfield 21, 3) := by decide +kernel
theorem dX5_pot_62 : decode cX5_pot 62 = .ok (.iload_n 2, 1) := by decide +kernel
theorem dX5_pot_63 : decode cX5_pot 63 = .ok (.putfield 141, 3) := by decide +kernel
theorem dX5_pot_66 : decode cX5_pot 66 = .ok (.goto 6, 3) := by decide +kernel
theorem dX5_pot_69 : decode cX5_pot 69 = .ok (.ldc 71, 2) := by decide +kernel
theorem dX5_pot_71 : decode cX5_pot 71 = .ok (.istore_n 3, 1) := by decide +kernel
theorem dX5_pot_72 : decode cX5_pot 72 = .ok (.iload_n 3, 1) := by decide +kernel
theorem dX5_pot_73 : decode cX5_pot 73 = .ok (.ireturn, 1) := by decide +kernel
theorem dX5_days_0 : decode cX5_days 0 = .ok (.iload_n 1, 1) := by decide +kernel
theorem dX5_days_1 : decode cX5_days 1 = .ok (.iconst 1, 1) := by decide +kernel
theorem dX5_days_2 : decode cX5_days 2 = .ok (.sipush 300, 3) := by decide +kernel
theorem dX5_days_5 : decode cX5_days 5 = .ok (.invokestatic 67, 3) := by decide +kernel
theorem dX5_days_8 : decode cX5_days 8 = .ok (.ifCond .ne 6, 3) := by decide +kernel
theorem dX5_days_11 : decode cX5_days 11 = .ok (.ldc 71, 2) := by decide +kernel
theorem dX5_days_13 : decode cX5_days 13 = .ok (.ireturn, 1) := by decide +kernel
theorem dX5_days_14 : decode cX5_days 14 = .ok (.aload_n 0, 1) := by decide +kernel
theorem dX5_days_15 : decode cX5_days 15 = .ok (.getfield 21, 3) := by decide +kernel
theorem dX5_days_18 : decode cX5_days 18 = .ok (.iload_n 1, 1) := by decide +kernel
theorem dX5_days_19 : decode cX5_days 19 = .ok (.sipush 9999, 3) := by decide +kernel
theorem dX5_days_22 : decode cX5_days 22 = .ok (.aload_n 0, 1) := by decide +kernel
theorem dX5_days_23 : decode cX5_days 23 = .ok (.getfield 21, 3) := by decide +kernel
theorem dX5_days_26 : decode cX5_days 26 = .ok (.getfield 144, 3) := by decide +kernel
theorem dX5_days_29 : decode cX5_days 29 = .ok (.isub, 1) := by decide +kernel
theorem dX5_days_30 : decode cX5_days 30 = .ok (.invokestatic 127, 3) := by decide +kernel
theorem dX5_days_33 : decode cX5_days 33 = .ok (.invokevirtual 147, 3) := by decide +kernel
theorem dX5_days_36 : decode cX5_days 36 = .ok (.aload_n 0, 1) := by decide +kernel
theorem dX5_days_37 : decode cX5_days 37 = .ok (.getfield 21, 3) := by decide +kernel
theorem dX5_days_40 : decode cX5_days 40 = .ok (.invokevirtual 151, 3) := by decide +kernel
theorem dX5_days_43 : decode cX5_days 43 = .ok (.ireturn, 1) := by decide +kernel
theorem dX5_taste_0 : decode cX5_taste 0 = .ok (.aload_n 0, 1) := by decide +kernel
theorem dX5_taste_1 : decode cX5_taste 1 = .ok (.getfield 21, 3) := by decide +kernel
theorem dX5_taste_4 : decode cX5_taste 4 = .ok (.invokevirtual 151, 3) := by decide +kernel
theorem dX5_taste_7 : decode cX5_taste 7 = .ok (.ireturn, 1) := by decide +kernel
theorem dX5_grams_0 : decode cX5_grams 0 = .ok (.iload_n 1, 1) := by decide +kernel
theorem dX5_grams_1 : decode cX5_grams 1 = .ok (.tableswitch 51 0 2 #[27, 35, 43], 27) := by decide +kernel
theorem dX5_grams_28 : decode cX5_grams 28 = .ok (.aload_n 0, 1) := by decide +kernel
theorem dX5_grams_29 : decode cX5_grams 29 = .ok (.getfield 21, 3) := by decide +kernel
theorem dX5_grams_32 : decode cX5_grams 32 = .ok (.getfield 155, 3) := by decide +kernel
theorem dX5_grams_35 : decode cX5_grams 35 = .ok (.ireturn, 1) := by decide +kernel
theorem dX5_grams_36 : decode cX5_grams 36 = .ok (.aload_n 0, 1) := by decide +kernel
theorem dX5_grams_37 : decode cX5_grams 37 = .ok (.getfield 21, 3) := by decide +kernel
theorem dX5_grams_40 : decode cX5_grams 40 = .ok (.getfield 158, 3) := by decide +kernel
theorem dX5_grams_43 : decode cX5_grams 43 = .ok (.ireturn, 1) := by decide +kernel
theorem dX5_grams_44 : decode cX5_grams 44 = .ok (.aload_n 0, 1) := by decide +kernel
theorem dX5_grams_45 : decode cX5_grams 45 = .ok (.getfield 21, 3) := by decide +kernel
theorem dX5_grams_48 : decode cX5_grams 48 = .ok (.invokevirtual 161, 3) := by decide +kernel
theorem dX5_grams_51 : decode cX5_grams 51 = .ok (.ireturn, 1) := by decide +kernel
theorem dX5_grams_52 : decode cX5_grams 52 = .ok (.ldc 71, 2) := by decide +kernel
theorem dX5_grams_54 : decode cX5_grams 54 = .ok (.ireturn, 1) := by decide +kernel
theorem dX5_lot_0 : decode cX5_lot 0 = .ok (.aload_n 0, 1) := by decide +kernel
theorem dX5_lot_1 : decode cX5_lot 1 = .ok (.getfield 21, 3) := by decide +kernel
theorem dX5_lot_4 : decode cX5_lot 4 = .ok (.getfield 164, 3) := by decide +kernel
theorem dX5_lot_7 : decode cX5_lot 7 = .ok (.iconst 2, 1) := by decide +kernel
theorem dX5_lot_8 : decode cX5_lot 8 = .ok (.iaload, 1) := by decide +kernel
theorem dX5_lot_9 : decode cX5_lot 9 = .ok (.istore_n 1, 1) := by decide +kernel
theorem dX5_lot_10 : decode cX5_lot 10 = .ok (.iload_n 1, 1) := by decide +kernel
theorem dX5_lot_11 : decode cX5_lot 11 = .ok (.ifCond .ge 7, 3) := by decide +kernel
theorem dX5_lot_14 : decode cX5_lot 14 = .ok (.iconst 0, 1) := by decide +kernel
theorem dX5_lot_15 : decode cX5_lot 15 = .ok (.goto 26, 3) := by decide +kernel
theorem dX5_lot_18 : decode cX5_lot 18 = .ok (.aload_n 0, 1) := by decide +kernel
theorem dX5_lot_19 : decode cX5_lot 19 = .ok (.getfield 10, 3) := by decide +kernel
theorem dX5_lot_22 : decode cX5_lot 22 = .ok (.iload_n 1, 1) := by decide +kernel
theorem dX5_lot_23 : decode cX5_lot 23 = .ok (.aload_n 0, 1) := by decide +kernel
theorem dX5_lot_24 : decode cX5_lot 24 = .ok (.getfield 21, 3) := by decide +kernel
theorem dX5_lot_27 : decode cX5_lot 27 = .ok (.getfield 144, 3) := by decide +kernel
theorem dX5_lot_30 : decode cX5_lot 30 = .ok (.aload_n 0, 1) := by decide +kernel
theorem dX5_lot_31 : decode cX5_lot 31 = .ok (.getfield 21, 3) := by decide +kernel
theorem dX5_lot_34 : decode cX5_lot 34 = .ok (.invokevirtual 151, 3) := by decide +kernel
theorem dX5_lot_37 : decode cX5_lot 37 = .ok (.iconst 0, 1) := by decide +kernel
theorem dX5_lot_38 : decode cX5_lot 38 = .ok (.invokevirtual 167, 3) := by decide +kernel
theorem dX5_lot_41 : decode cX5_lot 41 = .ok (.ireturn, 1) := by decide +kernel
theorem dX5_behind_0 : decode cX5_behind 0 = .ok (.aload_n 0, 1) := by decide +kernel
theorem dX5_behind_1 : decode cX5_behind 1 = .ok (.getfield 21, 3) := by decide +kernel
theorem dX5_behind_4 : decode cX5_behind 4 = .ok (.iload_n 1, 1) := by decide +kernel
theorem dX5_behind_5 : decode cX5_behind 5 = .ok (.invokevirtual 80, 3) := by decide +kernel
theorem dX5_behind_8 : decode cX5_behind 8 = .ok (.ifCond .eq 23, 3) := by decide +kernel
theorem dX5_behind_11 : decode cX5_behind 11 = .ok (.iload_n 2, 1) := by decide +kernel
theorem dX5_behind_12 : decode cX5_behind 12 = .ok (.iconst 0, 1) := by decide +kernel
theorem dX5_behind_13 : decode cX5_behind 13 = .ok (.sipush 300, 3) := by decide +kernel
theorem dX5_behind_16 : decode cX5_behind 16 = .ok (.invokestatic 67, 3) := by decide +kernel
theorem dX5_behind_19 : decode cX5_behind 19 = .ok (.ifCond .eq 12, 3) := by decide +kernel
theorem dX5_behind_22 : decode cX5_behind 22 = .ok (.iload_n 3, 1) := by decide +kernel
theorem dX5_behind_23 : decode cX5_behind 23 = .ok (.iconst 0, 1) := by decide +kernel
theorem dX5_behind_24 : decode cX5_behind 24 = .ok (.iconst 3, 1) := by decide +kernel
theorem dX5_behind_25 : decode cX5_behind 25 = .ok (.invokestatic 67, 3) := by decide +kernel
theorem dX5_behind_28 : decode cX5_behind 28 = .ok (.ifCond .ne 6, 3) := by decide +kernel
theorem dX5_behind_31 : decode cX5_behind 31 = .ok (.ldc 71, 2) := by decide +kernel
theorem dX5_behind_33 : decode cX5_behind 33 = .ok (.ireturn, 1) := by decide +kernel
theorem dX5_behind_34 : decode cX5_behind 34 = .ok (.aload_n 0, 1) := by decide +kernel
theorem dX5_behind_35 : decode cX5_behind 35 = .ok (.getfield 28, 3) := by decide +kernel
theorem dX5_behind_38 : decode cX5_behind 38 = .ok (.aload_n 0, 1) := by decide +kernel
theorem dX5_behind_39 : decode cX5_behind 39 = .ok (.getfield 21, 3) := by decide +kernel
theorem dX5_behind_42 : decode cX5_behind 42 = .ok (.invokevirtual 171, 3) := by decide +kernel
theorem dX5_behind_45 : decode cX5_behind 45 = .ok (.aload_n 0, 1) := by decide +kernel
theorem dX5_behind_46 : decode cX5_behind 46 = .ok (.getfield 28, 3) := by decide +kernel
theorem dX5_behind_49 : decode cX5_behind 49 = .ok (.iload_n 2, 1) := by decide +kernel
theorem dX5_behind_50 : decode cX5_behind 50 = .ok (.invokevirtual 147, 3) := by decide +kernel
theorem dX5_behind_53 : decode cX5_behind 53 = .ok (.iload_n 3, 1) := by decide +kernel
theorem dX5_behind_54 : decode cX5_behind 54 = .ok (.tableswitch 53 0 2 #[26, 36, 45], 26) := by decide +kernel
theorem dX5_behind_80 : decode cX5_behind 80 = .ok (.aload_n 0, 1) := by decide +kernel
theorem dX5_behind_81 : decode cX5_behind 81 = .ok (.getfield 28, 3) := by decide +kernel
theorem dX5_behind_84 : decode cX5_behind 84 = .ok (.getfield 88, 3) := by decide +kernel
theorem dX5_behind_87 : decode cX5_behind 87 = .ok (.iload_n 1, 1) := by decide +kernel
theorem dX5_behind_88 : decode cX5_behind 88 = .ok (.iaload, 1) := by decide +kernel
theorem dX5_behind_89 : decode cX5_behind 89 = .ok (.ireturn, 1) := by decide +kernel
theorem dX5_behind_90 : decode cX5_behind 90 = .ok (.aload_n 0, 1) := by decide +kernel
theorem dX5_behind_91 : decode cX5_behind 91 = .ok (.getfield 28, 3) := by decide +kernel
theorem dX5_behind_94 : decode cX5_behind 94 = .ok (.iload_n 1, 1) := by decide +kernel
theorem dX5_behind_95 : decode cX5_behind 95 = .ok (.invokevirtual 100, 3) := by decide +kernel
theorem dX5_behind_98 : decode cX5_behind 98 = .ok (.ireturn, 1) := by decide +kernel
theorem dX5_behind_99 : decode cX5_behind 99 = .ok (.aload_n 0, 1) := by decide +kernel
theorem dX5_behind_100 : decode cX5_behind 100 = .ok (.getfield 28, 3) := by decide +kernel
theorem dX5_behind_103 : decode cX5_behind 103 = .ok (.invokevirtual 151, 3) := by decide +kernel
theorem dX5_behind_106 : decode cX5_behind 106 = .ok (.ireturn, 1) := by decide +kernel
theorem dX5_behind_107 : decode cX5_behind 107 = .ok (.aload_n 0, 1) := by decide +kernel
theorem dX5_behind_108 : decode cX5_behind 108 = .ok (.getfield 28, 3) := by decide +kernel
theorem dX5_behind_111 : decode cX5_behind 111 = .ok (.getfield 155, 3) := by decide +kernel
theorem dX5_behind_114 : decode cX5_behind 114 = .ok (.ireturn, 1) := by decide +kernel
theorem dX5_tasted_0 : decode cX5_tasted 0 = .ok (.aload_n 0, 1) := by decide +kernel
theorem dX5_tasted_1 : decode cX5_tasted 1 = .ok (.getfield 21, 3) := by decide +kernel
theorem dX5_tasted_4 : decode cX5_tasted 4 = .ok (.iload_n 1, 1) := by decide +kernel
theorem dX5_tasted_5 : decode cX5_tasted 5 = .ok (.invokevirtual 80, 3) := by decide +kernel
theorem dX5_tasted_8 : decode cX5_tasted 8 = .ok (.ifCond .ne 6, 3) := by decide +kernel
theorem dX5_tasted_11 : decode cX5_tasted 11 = .ok (.ldc 71, 2) := by decide +kernel
theorem dX5_tasted_13 : decode cX5_tasted 13 = .ok (.ireturn, 1) := by decide +kernel
theorem dX5_tasted_14 : decode cX5_tasted 14 = .ok (.aload_n 0, 1) := by decide +kernel
theorem dX5_tasted_15 : decode cX5_tasted 15 = .ok (.getfield 28, 3) := by decide +kernel
theorem dX5_tasted_18 : decode cX5_tasted 18 = .ok (.aload_n 0, 1) := by decide +kernel
theorem dX5_tasted_19 : decode cX5_tasted 19 = .ok (.getfield 21, 3) := by decide +kernel
theorem dX5_tasted_22 : decode cX5_tasted 22 = .ok (.invokevirtual 171, 3) := by decide +kernel
theorem dX5_tasted_25 : decode cX5_tasted 25 = .ok (.iconst 0, 1) := by decide +kernel
theorem dX5_tasted_26 : decode cX5_tasted 26 = .ok (.istore_n 2, 1) := by decide +kernel
theorem dX5_tasted_27 : decode cX5_tasted 27 = .ok (.iload_n 2, 1) := by decide +kernel
theorem dX5_tasted_28 : decode cX5_tasted 28 = .ok (.sipush 300, 3) := by decide +kernel
theorem dX5_tasted_31 : decode cX5_tasted 31 = .ok (.if_icmp .gt 30, 3) := by decide +kernel
theorem dX5_tasted_34 : decode cX5_tasted 34 = .ok (.aload_n 0, 1) := by decide +kernel
theorem dX5_tasted_35 : decode cX5_tasted 35 = .ok (.getfield 28, 3) := by decide +kernel
theorem dX5_tasted_38 : decode cX5_tasted 38 = .ok (.iload_n 1, 1) := by decide +kernel
theorem dX5_tasted_39 : decode cX5_tasted 39 = .ok (.invokevirtual 100, 3) := by decide +kernel
theorem dX5_tasted_42 : decode cX5_tasted 42 = .ok (.ifCond .ne 5, 3) := by decide +kernel
theorem dX5_tasted_45 : decode cX5_tasted 45 = .ok (.iload_n 2, 1) := by decide +kernel
theorem dX5_tasted_46 : decode cX5_tasted 46 = .ok (.ireturn, 1) := by decide +kernel
theorem dX5_tasted_47 : decode cX5_tasted 47 = .ok (.aload_n 0, 1) := by decide +kernel
theorem dX5_tasted_48 : decode cX5_tasted 48 = .ok (.getfield 28, 3) := by decide +kernel
theorem dX5_tasted_51 : decode cX5_tasted 51 = .ok (.iload_n 1, 1) := by decide +kernel
theorem dX5_tasted_52 : decode cX5_tasted 52 = .ok (.invokevirtual 175, 3) := by decide +kernel
theorem dX5_tasted_55 : decode cX5_tasted 55 = .ok (.iinc 2 1, 3) := by decide +kernel
theorem dX5_tasted_58 : decode cX5_tasted 58 = .ok (.goto (-31), 3) := by decide +kernel
theorem dX5_tasted_61 : decode cX5_tasted 61 = .ok (.ldc 178, 2) := by decide +kernel
theorem dX5_tasted_63 : decode cX5_tasted 63 = .ok (.ireturn, 1) := by decide +kernel
theorem dX5_steer_0 : decode cX5_steer 0 = .ok (.iload_n 1, 1) := by decide +kernel
theorem dX5_steer_1 : decode cX5_steer 1 = .ok (.iconst 0, 1) := by decide +kernel
theorem dX5_steer_2 : decode cX5_steer 2 = .ok (.ldc 126, 2) := by decide +kernel
theorem dX5_steer_4 : decode cX5_steer 4 = .ok (.invokestatic 67, 3) := by decide +kernel
theorem dX5_steer_7 : decode cX5_steer 7 = .ok (.ifCond .eq 22, 3) := by decide +kernel
theorem dX5_steer_10 : decode cX5_steer 10 = .ok (.iload_n 2, 1) := by decide +kernel
theorem dX5_steer_11 : decode cX5_steer 11 = .ok (.iconst 0, 1) := by decide +kernel
theorem dX5_steer_12 : decode cX5_steer 12 = .ok (.bipush 30, 2) := by decide +kernel
theorem dX5_steer_14 : decode cX5_steer 14 = .ok (.invokestatic 67, 3) := by decide +kernel
theorem dX5_steer_17 : decode cX5_steer 17 = .ok (.ifCond .eq 12, 3) := by decide +kernel
theorem dX5_steer_20 : decode cX5_steer 20 = .ok (.iload_n 3, 1) := by decide +kernel
theorem dX5_steer_21 : decode cX5_steer 21 = .ok (.iconst 0, 1) := by decide +kernel
theorem dX5_steer_22 : decode cX5_steer 22 = .ok (.iconst 2, 1) := by decide +kernel
theorem dX5_steer_23 : decode cX5_steer 23 = .ok (.invokestatic 67, 3) := by decide +kernel
theorem dX5_steer_26 : decode cX5_steer 26 = .ok (.ifCond .ne 6, 3) := by decide +kernel
theorem dX5_steer_29 : decode cX5_steer 29 = .ok (.ldc 71, 2) := by decide +kernel
theorem dX5_steer_31 : decode cX5_steer 31 = .ok (.ireturn, 1) := by decide +kernel
theorem dX5_steer_32 : decode cX5_steer 32 = .ok (.aload_n 0, 1) := by decide +kernel
theorem dX5_steer_33 : decode cX5_steer 33 = .ok (.getfield 21, 3) := by decide +kernel
theorem dX5_steer_36 : decode cX5_steer 36 = .ok (.getfield 72, 3) := by decide +kernel
theorem dX5_steer_39 : decode cX5_steer 39 = .ok (.ifCond .ne 6, 3) := by decide +kernel
theorem dX5_steer_42 : decode cX5_steer 42 = .ok (.ldc 178, 2) := by decide +kernel
theorem dX5_steer_44 : decode cX5_steer 44 = .ok (.ireturn, 1) := by decide +kernel
theorem dX5_steer_45 : decode cX5_steer 45 = .ok (.aload_n 0, 1) := by decide +kernel
theorem dX5_steer_46 : decode cX5_steer 46 = .ok (.getfield 28, 3) := by decide +kernel
theorem dX5_steer_49 : decode cX5_steer 49 = .ok (.aload_n 0, 1) := by decide +kernel
theorem dX5_steer_50 : decode cX5_steer 50 = .ok (.getfield 21, 3) := by decide +kernel
theorem dX5_steer_53 : decode cX5_steer 53 = .ok (.invokevirtual 171, 3) := by decide +kernel
theorem dX5_steer_56 : decode cX5_steer 56 = .ok (.aload_n 0, 1) := by decide +kernel
theorem dX5_steer_57 : decode cX5_steer 57 = .ok (.getfield 28, 3) := by decide +kernel
theorem dX5_steer_60 : decode cX5_steer 60 = .ok (.iload_n 2, 1) := by decide +kernel
theorem dX5_steer_61 : decode cX5_steer 61 = .ok (.invokevirtual 147, 3) := by decide +kernel
theorem dX5_steer_64 : decode cX5_steer 64 = .ok (.aload_n 0, 1) := by decide +kernel
theorem dX5_steer_65 : decode cX5_steer 65 = .ok (.getfield 31, 3) := by decide +kernel
theorem dX5_steer_68 : decode cX5_steer 68 = .ok (.aload_n 0, 1) := by decide +kernel
theorem dX5_steer_69 : decode cX5_steer 69 = .ok (.getfield 21, 3) := by decide +kernel
theorem dX5_steer_72 : decode cX5_steer 72 = .ok (.invokevirtual 171, 3) := by decide +kernel
theorem dX5_steer_75 : decode cX5_steer 75 = .ok (.aload_n 0, 1) := by decide +kernel
theorem dX5_steer_76 : decode cX5_steer 76 = .ok (.getfield 28, 3) := by decide +kernel
theorem dX5_steer_79 : decode cX5_steer 79 = .ok (.invokevirtual 151, 3) := by decide +kernel
theorem dX5_steer_82 : decode cX5_steer 82 = .ok (.istore 4, 2) := by decide +kernel
theorem dX5_steer_84 : decode cX5_steer 84 = .ok (.iconst 0, 1) := by decide +kernel
theorem dX5_steer_85 : decode cX5_steer 85 = .ok (.istore 5, 2) := by decide +kernel
theorem dX5_steer_87 : decode cX5_steer 87 = .ok (.iconst 0, 1) := by decide +kernel
theorem dX5_steer_88 : decode cX5_steer 88 = .ok (.istore 6, 2) := by decide +kernel
theorem dX5_steer_90 : decode cX5_steer 90 = .ok (.iload 4, 2) := by decide +kernel
theorem dX5_steer_92 : decode cX5_steer 92 = .ok (.istore 7, 2) := by decide +kernel
theorem dX5_steer_94 : decode cX5_steer 94 = .ok (.iconst 0, 1) := by decide +kernel
theorem dX5_steer_95 : decode cX5_steer 95 = .ok (.istore 8, 2) := by decide +kernel
theorem dX5_steer_97 : decode cX5_steer 97 = .ok (.iload 8, 2) := by decide +kernel
theorem dX5_steer_99 : decode cX5_steer 99 = .ok (.aload_n 0, 1) := by decide +kernel
theorem dX5_steer_100 : decode cX5_steer 100 = .ok (.getfield 21, 3) := by decide +kernel
theorem dX5_steer_103 : decode cX5_steer 103 = .ok (.getfield 72, 3) := by decide +kernel
theorem dX5_steer_106 : decode cX5_steer 106 = .ok (.if_icmp .ge 83, 3) := by decide +kernel
theorem dX5_steer_109 : decode cX5_steer 109 = .ok (.iload 4, 2) := by decide +kernel
theorem dX5_steer_111 : decode cX5_steer 111 = .ok (.aload_n 0, 1) := by decide +kernel
theorem dX5_steer_112 : decode cX5_steer 112 = .ok (.getfield 28, 3) := by decide +kernel
theorem dX5_steer_115 : decode cX5_steer 115 = .ok (.iload 8, 2) := by decide +kernel
theorem dX5_steer_117 : decode cX5_steer 117 = .ok (.invokevirtual 100, 3) := by decide +kernel
theorem dX5_steer_120 : decode cX5_steer 120 = .ok (.isub, 1) := by decide +kernel
theorem dX5_steer_121 : decode cX5_steer 121 = .ok (.istore 9, 2) := by decide +kernel
theorem dX5_steer_123 : decode cX5_steer 123 = .ok (.iconst 0, 1) := by decide +kernel
theorem dX5_steer_124 : decode cX5_steer 124 = .ok (.istore 10, 2) := by decide +kernel
theorem dX5_steer_126 : decode cX5_steer 126 = .ok (.iload 10, 2) := by decide +kernel
theorem dX5_steer_128 : decode cX5_steer 128 = .ok (.sipush 1000, 3) := by decide +kernel
theorem dX5_steer_131 : decode cX5_steer 131 = .ok (.if_icmp .gt 52, 3) := by decide +kernel
theorem dX5_steer_134 : decode cX5_steer 134 = .ok (.iload 9, 2) := by decide +kernel
theorem dX5_steer_136 : decode cX5_steer 136 = .ok (.aload_n 0, 1) := by decide +kernel
theorem dX5_steer_137 : decode cX5_steer 137 = .ok (.iload 8, 2) := by decide +kernel
theorem dX5_steer_139 : decode cX5_steer 139 = .ok (.iload 10, 2) := by decide +kernel
theorem dX5_steer_141 : decode cX5_steer 141 = .ok (.iload_n 2, 1) := by decide +kernel
theorem dX5_steer_142 : decode cX5_steer 142 = .ok (.invokevirtual 179, 3) := by decide +kernel
theorem dX5_steer_145 : decode cX5_steer 145 = .ok (.iadd, 1) := by decide +kernel
theorem dX5_steer_146 : decode cX5_steer 146 = .ok (.istore 11, 2) := by decide +kernel
theorem dX5_steer_148 : decode cX5_steer 148 = .ok (.iload 11, 2) := by decide +kernel
theorem dX5_steer_150 : decode cX5_steer 150 = .ok (.iload_n 1, 1) := by decide +kernel
theorem dX5_steer_151 : decode cX5_steer 151 = .ok (.isub, 1) := by decide +kernel
theorem dX5_steer_152 : decode cX5_steer 152 = .ok (.invokestatic 182, 3) := by decide +kernel
theorem dX5_steer_155 : decode cX5_steer 155 = .ok (.iload 7, 2) := by decide +kernel
theorem dX5_steer_157 : decode cX5_steer 157 = .ok (.iload_n 1, 1) := by decide +kernel
theorem dX5_steer_158 : decode cX5_steer 158 = .ok (.isub, 1) := by decide +kernel
theorem dX5_steer_159 : decode cX5_steer 159 = .ok (.invokestatic 182, 3) := by decide +kernel
theorem dX5_steer_162 : decode cX5_steer 162 = .ok (.if_icmp .ge 15, 3) := by decide +kernel
theorem dX5_steer_165 : decode cX5_steer 165 = .ok (.iload 8, 2) := by decide +kernel
theorem dX5_steer_167 : decode cX5_steer 167 = .ok (.istore 5, 2) := by decide +kernel
theorem dX5_steer_169 : decode cX5_steer 169 = .ok (.iload 10, 2) := by decide +kernel
theorem dX5_steer_171 : decode cX5_steer 171 = .ok (.istore 6, 2) := by decide +kernel
theorem dX5_steer_173 : decode cX5_steer 173 = .ok (.iload 11, 2) := by decide +kernel
theorem dX5_steer_175 : decode cX5_steer 175 = .ok (.istore 7, 2) := by decide +kernel
theorem dX5_steer_177 : decode cX5_steer 177 = .ok (.iinc 10 50, 3) := by decide +kernel
theorem dX5_steer_180 : decode cX5_steer 180 = .ok (.goto (-54), 3) := by decide +kernel
theorem dX5_steer_183 : decode cX5_steer 183 = .ok (.iinc 8 1, 3) := by decide +kernel
theorem dX5_steer_186 : decode cX5_steer 186 = .ok (.goto (-89), 3) := by decide +kernel
theorem dX5_steer_189 : decode cX5_steer 189 = .ok (.iload_n 3, 1) := by decide +kernel
theorem dX5_steer_190 : decode cX5_steer 190 = .ok (.ifCond .ne 8, 3) := by decide +kernel
theorem dX5_steer_193 : decode cX5_steer 193 = .ok (.iload 5, 2) := by decide +kernel
theorem dX5_steer_195 : decode cX5_steer 195 = .ok (.goto 15, 3) := by decide +kernel
theorem dX5_steer_198 : decode cX5_steer 198 = .ok (.iload_n 3, 1) := by decide +kernel
theorem dX5_steer_199 : decode cX5_steer 199 = .ok (.iconst 1, 1) := by decide +kernel
theorem dX5_steer_200 : decode cX5_steer 200 = .ok (.if_icmp .ne 8, 3) := by decide +kernel
theorem dX5_steer_203 : decode cX5_steer 203 = .ok (.iload 6, 2) := by decide +kernel
theorem dX5_steer_205 : decode cX5_steer 205 = .ok (.goto 5, 3) := by decide +kernel
theorem dX5_steer_208 : decode cX5_steer 208 = .ok (.iload 7, 2) := by decide +kernel
theorem dX5_steer_210 : decode cX5_steer 210 = .ok (.ireturn, 1) := by decide +kernel
theorem dX5_tasteTried_0 : decode cX5_tasteTried 0 = .ok (.aload_n 0, 1) := by decide +kernel
theorem dX5_tasteTried_1 : decode cX5_tasteTried 1 = .ok (.getfield 31, 3) := by decide +kernel
theorem dX5_tasteTried_4 : decode cX5_tasteTried 4 = .ok (.aload_n 0, 1) := by decide +kernel
theorem dX5_tasteTried_5 : decode cX5_tasteTried 5 = .ok (.getfield 21, 3) := by decide +kernel
theorem dX5_tasteTried_8 : decode cX5_tasteTried 8 = .ok (.iload_n 1, 1) := by decide +kernel
theorem dX5_tasteTried_9 : decode cX5_tasteTried 9 = .ok (.invokevirtual 185, 3) := by decide +kernel
theorem dX5_tasteTried_12 : decode cX5_tasteTried 12 = .ok (.aload_n 0, 1) := by decide +kernel
theorem dX5_tasteTried_13 : decode cX5_tasteTried 13 = .ok (.getfield 31, 3) := by decide +kernel
theorem dX5_tasteTried_16 : decode cX5_tasteTried 16 = .ok (.iload_n 1, 1) := by decide +kernel
theorem dX5_tasteTried_17 : decode cX5_tasteTried 17 = .ok (.iload_n 2, 1) := by decide +kernel
theorem dX5_tasteTried_18 : decode cX5_tasteTried 18 = .ok (.invokevirtual 84, 3) := by decide +kernel
theorem dX5_tasteTried_21 : decode cX5_tasteTried 21 = .ok (.aload_n 0, 1) := by decide +kernel
theorem dX5_tasteTried_22 : decode cX5_tasteTried 22 = .ok (.getfield 31, 3) := by decide +kernel
theorem dX5_tasteTried_25 : decode cX5_tasteTried 25 = .ok (.iload_n 1, 1) := by decide +kernel
theorem dX5_tasteTried_26 : decode cX5_tasteTried 26 = .ok (.iload_n 3, 1) := by decide +kernel
theorem dX5_tasteTried_27 : decode cX5_tasteTried 27 = .ok (.invokevirtual 189, 3) := by decide +kernel
theorem dX5_tasteTried_30 : decode cX5_tasteTried 30 = .ok (.aload_n 0, 1) := by decide +kernel
theorem dX5_tasteTried_31 : decode cX5_tasteTried 31 = .ok (.getfield 31, 3) := by decide +kernel
theorem dX5_tasteTried_34 : decode cX5_tasteTried 34 = .ok (.iload_n 1, 1) := by decide +kernel
theorem dX5_tasteTried_35 : decode cX5_tasteTried 35 = .ok (.invokevirtual 100, 3) := by decide +kernel
theorem dX5_tasteTried_38 : decode cX5_tasteTried 38 = .ok (.ireturn, 1) := by decide +kernel
theorem dX5_leastPot_0 : decode cX5_leastPot 0 = .ok (.aload_n 0, 1) := by decide +kernel
theorem dX5_leastPot_1 : decode cX5_leastPot 1 = .ok (.getfield 21, 3) := by decide +kernel
theorem dX5_leastPot_4 : decode cX5_leastPot 4 = .ok (.iload_n 1, 1) := by decide +kernel
theorem dX5_leastPot_5 : decode cX5_leastPot 5 = .ok (.invokevirtual 80, 3) := by decide +kernel
theorem dX5_leastPot_8 : decode cX5_leastPot 8 = .ok (.ifCond .eq 23, 3) := by decide +kernel
theorem dX5_leastPot_11 : decode cX5_leastPot 11 = .ok (.iload_n 2, 1) := by decide +kernel
theorem dX5_leastPot_12 : decode cX5_leastPot 12 = .ok (.iconst 0, 1) := by decide +kernel
theorem dX5_leastPot_13 : decode cX5_leastPot 13 = .ok (.ldc 126, 2) := by decide +kernel
theorem dX5_leastPot_15 : decode cX5_leastPot 15 = .ok (.invokestatic 67, 3) := by decide +kernel
theorem dX5_leastPot_18 : decode cX5_leastPot 18 = .ok (.ifCond .eq 13, 3) := by decide +kernel
theorem dX5_leastPot_21 : decode cX5_leastPot 21 = .ok (.iload_n 3, 1) := by decide +kernel
theorem dX5_leastPot_22 : decode cX5_leastPot 22 = .ok (.iconst 0, 1) := by decide +kernel
theorem dX5_leastPot_23 : decode cX5_leastPot 23 = .ok (.bipush 60, 2) := by decide +kernel
theorem dX5_leastPot_25 : decode cX5_leastPot 25 = .ok (.invokestatic 67, 3) := by decide +kernel
theorem dX5_leastPot_28 : decode cX5_leastPot 28 = .ok (.ifCond .ne 6, 3) := by decide +kernel
theorem dX5_leastPot_31 : decode cX5_leastPot 31 = .ok (.ldc 71, 2) := by decide +kernel
theorem dX5_leastPot_33 : decode cX5_leastPot 33 = .ok (.ireturn, 1) := by decide +kernel
theorem dX5_leastPot_34 : decode cX5_leastPot 34 = .ok (.aload_n 0, 1) := by decide +kernel
theorem dX5_leastPot_35 : decode cX5_leastPot 35 = .ok (.getfield 28, 3) := by decide +kernel
theorem dX5_leastPot_38 : decode cX5_leastPot 38 = .ok (.aload_n 0, 1) := by decide +kernel
theorem dX5_leastPot_39 : decode cX5_leastPot 39 = .ok (.getfield 21, 3) := by decide +kernel
theorem dX5_leastPot_42 : decode cX5_leastPot 42 = .ok (.invokevirtual 171, 3) := by decide +kernel
theorem dX5_leastPot_45 : decode cX5_leastPot 45 = .ok (.bipush 10, 2) := by decide +kernel
theorem dX5_leastPot_47 : decode cX5_leastPot 47 = .ok (.istore 4, 2) := by decide +kernel
theorem dX5_leastPot_49 : decode cX5_leastPot 49 = .ok (.iload 4, 2) := by decide +kernel
theorem dX5_leastPot_51 : decode cX5_leastPot 51 = .ok (.sipush 990, 3) := by decide +kernel
theorem dX5_leastPot_54 : decode cX5_leastPot 54 = .ok (.if_icmp .gt 55, 3) := by decide +kernel
theorem dX5_leastPot_57 : decode cX5_leastPot 57 = .ok (.aload_n 0, 1) := by decide +kernel
theorem dX5_leastPot_58 : decode cX5_leastPot 58 = .ok (.getfield 28, 3) := by decide +kernel
theorem dX5_leastPot_61 : decode cX5_leastPot 61 = .ok (.aload_n 0, 1) := by decide +kernel
theorem dX5_leastPot_62 : decode cX5_leastPot 62 = .ok (.getfield 21, 3) := by decide +kernel
theorem dX5_leastPot_65 : decode cX5_leastPot 65 = .ok (.iload_n 1, 1) := by decide +kernel
theorem dX5_leastPot_66 : decode cX5_leastPot 66 = .ok (.invokevirtual 185, 3) := by decide +kernel
theorem dX5_leastPot_69 : decode cX5_leastPot 69 = .ok (.aload_n 0, 1) := by decide +kernel
theorem dX5_leastPot_70 : decode cX5_leastPot 70 = .ok (.getfield 28, 3) := by decide +kernel
theorem dX5_leastPot_73 : decode cX5_leastPot 73 = .ok (.iload 4, 2) := by decide +kernel
theorem dX5_leastPot_75 : decode cX5_leastPot 75 = .ok (.putfield 138, 3) := by decide +kernel
theorem dX5_leastPot_78 : decode cX5_leastPot 78 = .ok (.aload_n 0, 1) := by decide +kernel
theorem dX5_leastPot_79 : decode cX5_leastPot 79 = .ok (.getfield 28, 3) := by decide +kernel
theorem dX5_leastPot_82 : decode cX5_leastPot 82 = .ok (.iload_n 1, 1) := by decide +kernel
theorem dX5_leastPot_83 : decode cX5_leastPot 83 = .ok (.iload_n 3, 1) := by decide +kernel
theorem dX5_leastPot_84 : decode cX5_leastPot 84 = .ok (.invokevirtual 189, 3) := by decide +kernel
theorem dX5_leastPot_87 : decode cX5_leastPot 87 = .ok (.aload_n 0, 1) := by decide +kernel
theorem dX5_leastPot_88 : decode cX5_leastPot 88 = .ok (.getfield 28, 3) := by decide +kernel
theorem dX5_leastPot_91 : decode cX5_leastPot 91 = .ok (.getfield 88, 3) := by decide +kernel
theorem dX5_leastPot_94 : decode cX5_leastPot 94 = .ok (.iload_n 1, 1) := by decide +kernel
theorem dX5_leastPot_95 : decode cX5_leastPot 95 = .ok (.iaload, 1) := by decide +kernel
theorem dX5_leastPot_96 : decode cX5_leastPot 96 = .ok (.iload_n 2, 1) := by decide +kernel
theorem dX5_leastPot_97 : decode cX5_leastPot 97 = .ok (.if_icmp .lt 6, 3) := by decide +kernel
theorem dX5_leastPot_100 : decode cX5_leastPot 100 = .ok (.iload 4, 2) := by decide +kernel
theorem dX5_leastPot_102 : decode cX5_leastPot 102 = .ok (.ireturn, 1) := by decide +kernel
theorem dX5_leastPot_103 : decode cX5_leastPot 103 = .ok (.iinc 4 10, 3) := by decide +kernel
theorem dX5_leastPot_106 : decode cX5_leastPot 106 = .ok (.goto (-57), 3) := by decide +kernel
theorem dX5_leastPot_109 : decode cX5_leastPot 109 = .ok (.ldc 178, 2) := by decide +kernel
theorem dX5_leastPot_111 : decode cX5_leastPot 111 = .ok (.ireturn, 1) := by decide +kernel
theorem dX5_nearest_0 : decode cX5_nearest 0 = .ok (.iload_n 1, 1) := by decide +kernel
theorem dX5_nearest_1 : decode cX5_nearest 1 = .ok (.iconst 0, 1) := by decide +kernel
theorem dX5_nearest_2 : decode cX5_nearest 2 = .ok (.ldc 126, 2) := by decide +kernel
theorem dX5_nearest_4 : decode cX5_nearest 4 = .ok (.invokestatic 67, 3) := by decide +kernel
theorem dX5_nearest_7 : decode cX5_nearest 7 = .ok (.ifCond .ne 6, 3) := by decide +kernel
theorem dX5_nearest_10 : decode cX5_nearest 10 = .ok (.ldc 71, 2) := by decide +kernel
theorem dX5_nearest_12 : decode cX5_nearest 12 = .ok (.ireturn, 1) := by decide +kernel
theorem dX5_nearest_13 : decode cX5_nearest 13 = .ok (.aload_n 0, 1) := by decide +kernel
theorem dX5_nearest_14 : decode cX5_nearest 14 = .ok (.getfield 28, 3) := by decide +kernel
theorem dX5_nearest_17 : decode cX5_nearest 17 = .ok (.aload_n 0, 1) := by decide +kernel
theorem dX5_nearest_18 : decode cX5_nearest 18 = .ok (.getfield 21, 3) := by decide +kernel
theorem dX5_nearest_21 : decode cX5_nearest 21 = .ok (.invokevirtual 171, 3) := by decide +kernel
theorem dX5_nearest_24 : decode cX5_nearest 24 = .ok (.iconst 0, 1) := by decide +kernel
theorem dX5_nearest_25 : decode cX5_nearest 25 = .ok (.istore_n 2, 1) := by decide +kernel
theorem dX5_nearest_26 : decode cX5_nearest 26 = .ok (.aload_n 0, 1) := by decide +kernel
theorem dX5_nearest_27 : decode cX5_nearest 27 = .ok (.getfield 28, 3) := by decide +kernel
theorem dX5_nearest_30 : decode cX5_nearest 30 = .ok (.invokevirtual 151, 3) := by decide +kernel
theorem dX5_nearest_33 : decode cX5_nearest 33 = .ok (.iload_n 1, 1) := by decide +kernel
theorem dX5_nearest_34 : decode cX5_nearest 34 = .ok (.isub, 1) := by decide +kernel
theorem dX5_nearest_35 : decode cX5_nearest 35 = .ok (.invokestatic 182, 3) := by decide +kernel
theorem dX5_nearest_38 : decode cX5_nearest 38 = .ok (.istore_n 3, 1) := by decide +kernel
theorem dX5_nearest_39 : decode cX5_nearest 39 = .ok (.iconst 1, 1) := by decide +kernel
theorem dX5_nearest_40 : decode cX5_nearest 40 = .ok (.istore 4, 2) := by decide +kernel
theorem dX5_nearest_42 : decode cX5_nearest 42 = .ok (.iload 4, 2) := by decide +kernel
theorem dX5_nearest_44 : decode cX5_nearest 44 = .ok (.bipush 100, 2) := by decide +kernel
theorem dX5_nearest_46 : decode cX5_nearest 46 = .ok (.if_icmp .gt 42, 3) := by decide +kernel
theorem dX5_nearest_49 : decode cX5_nearest 49 = .ok (.aload_n 0, 1) := by decide +kernel
theorem dX5_nearest_50 : decode cX5_nearest 50 = .ok (.getfield 28, 3) := by decide +kernel
theorem dX5_nearest_53 : decode cX5_nearest 53 = .ok (.invokevirtual 192, 3) := by decide +kernel
theorem dX5_nearest_56 : decode cX5_nearest 56 = .ok (.aload_n 0, 1) := by decide +kernel
theorem dX5_nearest_57 : decode cX5_nearest 57 = .ok (.getfield 28, 3) := by decide +kernel
theorem dX5_nearest_60 : decode cX5_nearest 60 = .ok (.invokevirtual 151, 3) := by decide +kernel
theorem dX5_nearest_63 : decode cX5_nearest 63 = .ok (.iload_n 1, 1) := by decide +kernel
theorem dX5_nearest_64 : decode cX5_nearest 64 = .ok (.isub, 1) := by decide +kernel
theorem dX5_nearest_65 : decode cX5_nearest 65 = .ok (.invokestatic 182, 3) := by decide +kernel
theorem dX5_nearest_68 : decode cX5_nearest 68 = .ok (.istore 5, 2) := by decide +kernel
theorem dX5_nearest_70 : decode cX5_nearest 70 = .ok (.iload 5, 2) := by decide +kernel
theorem dX5_nearest_72 : decode cX5_nearest 72 = .ok (.iload_n 3, 1) := by decide +kernel
theorem dX5_nearest_73 : decode cX5_nearest 73 = .ok (.if_icmp .ge 9, 3) := by decide +kernel
theorem dX5_nearest_76 : decode cX5_nearest 76 = .ok (.iload 4, 2) := by decide +kernel
theorem dX5_nearest_78 : decode cX5_nearest 78 = .ok (.istore_n 2, 1) := by decide +kernel
theorem dX5_nearest_79 : decode cX5_nearest 79 = .ok (.iload 5, 2) := by decide +kernel
theorem dX5_nearest_81 : decode cX5_nearest 81 = .ok (.istore_n 3, 1) := by decide +kernel
theorem dX5_nearest_82 : decode cX5_nearest 82 = .ok (.iinc 4 1, 3) := by decide +kernel
theorem dX5_nearest_85 : decode cX5_nearest 85 = .ok (.goto (-43), 3) := by decide +kernel
theorem dX5_nearest_88 : decode cX5_nearest 88 = .ok (.iload_n 2, 1) := by decide +kernel
theorem dX5_nearest_89 : decode cX5_nearest 89 = .ok (.ireturn, 1) := by decide +kernel
theorem dX5_thrown_0 : decode cX5_thrown 0 = .ok (.iload_n 1, 1) := by decide +kernel
theorem dX5_thrown_1 : decode cX5_thrown 1 = .ok (.invokestatic 195, 3) := by decide +kernel
theorem dX5_thrown_4 : decode cX5_thrown 4 = .ok (.ifCond .eq 12, 3) := by decide +kernel
theorem dX5_thrown_7 : decode cX5_thrown 7 = .ok (.iload_n 2, 1) := by decide +kernel
theorem dX5_thrown_8 : decode cX5_thrown 8 = .ok (.iconst 0, 1) := by decide +kernel
theorem dX5_thrown_9 : decode cX5_thrown 9 = .ok (.iconst 1, 1) := by decide +kernel
theorem dX5_thrown_10 : decode cX5_thrown 10 = .ok (.invokestatic 67, 3) := by decide +kernel
theorem dX5_thrown_13 : decode cX5_thrown 13 = .ok (.ifCond .ne 6, 3) := by decide +kernel
theorem dX5_thrown_16 : decode cX5_thrown 16 = .ok (.ldc 71, 2) := by decide +kernel
theorem dX5_thrown_18 : decode cX5_thrown 18 = .ok (.ireturn, 1) := by decide +kernel
theorem dX5_thrown_19 : decode cX5_thrown 19 = .ok (.aload_n 0, 1) := by decide +kernel
theorem dX5_thrown_20 : decode cX5_thrown 20 = .ok (.getfield 43, 3) := by decide +kernel
theorem dX5_thrown_23 : decode cX5_thrown 23 = .ok (.iload_n 1, 1) := by decide +kernel
theorem dX5_thrown_24 : decode cX5_thrown 24 = .ok (.aaload, 1) := by decide +kernel
theorem dX5_thrown_25 : decode cX5_thrown 25 = .ok (.invokevirtual 198, 3) := by decide +kernel
theorem dX5_thrown_28 : decode cX5_thrown 28 = .ok (.ifCond .eq 6, 3) := by decide +kernel
theorem dX5_thrown_31 : decode cX5_thrown 31 = .ok (.ldc 202, 2) := by decide +kernel
theorem dX5_thrown_33 : decode cX5_thrown 33 = .ok (.ireturn, 1) := by decide +kernel
theorem dX5_thrown_34 : decode cX5_thrown 34 = .ok (.aload_n 0, 1) := by decide +kernel
theorem dX5_thrown_35 : decode cX5_thrown 35 = .ok (.getfield 21, 3) := by decide +kernel
theorem dX5_thrown_38 : decode cX5_thrown 38 = .ok (.getfield 72, 3) := by decide +kernel
theorem dX5_thrown_41 : decode cX5_thrown 41 = .ok (.ifCond .ne 6, 3) := by decide +kernel
theorem dX5_thrown_44 : decode cX5_thrown 44 = .ok (.ldc 178, 2) := by decide +kernel
theorem dX5_thrown_46 : decode cX5_thrown 46 = .ok (.ireturn, 1) := by decide +kernel
theorem dX5_thrown_47 : decode cX5_thrown 47 = .ok (.iconst 0, 1) := by decide +kernel
theorem dX5_thrown_48 : decode cX5_thrown 48 = .ok (.istore_n 3, 1) := by decide +kernel
theorem dX5_thrown_49 : decode cX5_thrown 49 = .ok (.aload_n 0, 1) := by decide +kernel
theorem dX5_thrown_50 : decode cX5_thrown 50 = .ok (.aload_n 0, 1) := by decide +kernel
theorem dX5_thrown_51 : decode cX5_thrown 51 = .ok (.getfield 43, 3) := by decide +kernel
theorem dX5_thrown_54 : decode cX5_thrown 54 = .ok (.iload_n 1, 1) := by decide +kernel
theorem dX5_thrown_55 : decode cX5_thrown 55 = .ok (.aaload, 1) := by decide +kernel
theorem dX5_thrown_56 : decode cX5_thrown 56 = .ok (.iconst 0, 1) := by decide +kernel
theorem dX5_thrown_57 : decode cX5_thrown 57 = .ok (.invokevirtual 203, 3) := by decide +kernel
theorem dX5_thrown_60 : decode cX5_thrown 60 = .ok (.istore 4, 2) := by decide +kernel
theorem dX5_thrown_62 : decode cX5_thrown 62 = .ok (.iconst 1, 1) := by decide +kernel
theorem dX5_thrown_63 : decode cX5_thrown 63 = .ok (.istore 5, 2) := by decide +kernel
theorem dX5_thrown_65 : decode cX5_thrown 65 = .ok (.iload 5, 2) := by decide +kernel
theorem dX5_thrown_67 : decode cX5_thrown 67 = .ok (.aload_n 0, 1) := by decide +kernel
theorem dX5_thrown_68 : decode cX5_thrown 68 = .ok (.getfield 21, 3) := by decide +kernel
theorem dX5_thrown_71 : decode cX5_thrown 71 = .ok (.getfield 72, 3) := by decide +kernel
theorem dX5_thrown_74 : decode cX5_thrown 74 = .ok (.if_icmp .ge 37, 3) := by decide +kernel
theorem dX5_thrown_77 : decode cX5_thrown 77 = .ok (.aload_n 0, 1) := by decide +kernel
theorem dX5_thrown_78 : decode cX5_thrown 78 = .ok (.aload_n 0, 1) := by decide +kernel
theorem dX5_thrown_79 : decode cX5_thrown 79 = .ok (.getfield 43, 3) := by decide +kernel
theorem dX5_thrown_82 : decode cX5_thrown 82 = .ok (.iload_n 1, 1) := by decide +kernel
theorem dX5_thrown_83 : decode cX5_thrown 83 = .ok (.aaload, 1) := by decide +kernel
theorem dX5_thrown_84 : decode cX5_thrown 84 = .ok (.iload 5, 2) := by decide +kernel
theorem dX5_thrown_86 : decode cX5_thrown 86 = .ok (.invokevirtual 203, 3) := by decide +kernel
theorem dX5_thrown_89 : decode cX5_thrown 89 = .ok (.istore 6, 2) := by decide +kernel
theorem dX5_thrown_91 : decode cX5_thrown 91 = .ok (.iload 6, 2) := by decide +kernel
theorem dX5_thrown_93 : decode cX5_thrown 93 = .ok (.iload 4, 2) := by decide +kernel
theorem dX5_thrown_95 : decode cX5_thrown 95 = .ok (.if_icmp .ge 10, 3) := by decide +kernel
theorem dX5_thrown_98 : decode cX5_thrown 98 = .ok (.iload 5, 2) := by decide +kernel
theorem dX5_thrown_100 : decode cX5_thrown 100 = .ok (.istore_n 3, 1) := by decide +kernel
theorem dX5_thrown_101 : decode cX5_thrown 101 = .ok (.iload 6, 2) := by decide +kernel
theorem dX5_thrown_103 : decode cX5_thrown 103 = .ok (.istore 4, 2) := by decide +kernel
theorem dX5_thrown_105 : decode cX5_thrown 105 = .ok (.iinc 5 1, 3) := by decide +kernel
theorem dX5_thrown_108 : decode cX5_thrown 108 = .ok (.goto (-43), 3) := by decide +kernel
theorem dX5_thrown_111 : decode cX5_thrown 111 = .ok (.iload_n 2, 1) := by decide +kernel
theorem dX5_thrown_112 : decode cX5_thrown 112 = .ok (.ifCond .ne 7, 3) := by decide +kernel
theorem dX5_thrown_115 : decode cX5_thrown 115 = .ok (.iload_n 3, 1) := by decide +kernel
theorem dX5_thrown_116 : decode cX5_thrown 116 = .ok (.goto 5, 3) := by decide +kernel
theorem dX5_thrown_119 : decode cX5_thrown 119 = .ok (.iload 4, 2) := by decide +kernel
theorem dX5_thrown_121 : decode cX5_thrown 121 = .ok (.ireturn, 1) := by decide +kernel
theorem dX5_gapIfThrown_0 : decode cX5_gapIfThrown 0 = .ok (.aload_n 0, 1) := by decide +kernel
theorem dX5_gapIfThrown_1 : decode cX5_gapIfThrown 1 = .ok (.getfield 28, 3) := by decide +kernel
theorem dX5_gapIfThrown_4 : decode cX5_gapIfThrown 4 = .ok (.aload_n 0, 1) := by decide +kernel
theorem dX5_gapIfThrown_5 : decode cX5_gapIfThrown 5 = .ok (.getfield 21, 3) := by decide +kernel
theorem dX5_gapIfThrown_8 : decode cX5_gapIfThrown 8 = .ok (.invokevirtual 171, 3) := by decide +kernel
theorem dX5_gapIfThrown_11 : decode cX5_gapIfThrown 11 = .ok (.aload_n 0, 1) := by decide +kernel
theorem dX5_gapIfThrown_12 : decode cX5_gapIfThrown 12 = .ok (.getfield 28, 3) := by decide +kernel
theorem dX5_gapIfThrown_15 : decode cX5_gapIfThrown 15 = .ok (.iload_n 2, 1) := by decide +kernel
theorem dX5_gapIfThrown_16 : decode cX5_gapIfThrown 16 = .ok (.sipush 500, 3) := by decide +kernel
theorem dX5_gapIfThrown_19 : decode cX5_gapIfThrown 19 = .ok (.invokevirtual 84, 3) := by decide +kernel
theorem dX5_gapIfThrown_22 : decode cX5_gapIfThrown 22 = .ok (.iconst 0, 1) := by decide +kernel
theorem dX5_gapIfThrown_23 : decode cX5_gapIfThrown 23 = .ok (.istore_n 3, 1) := by decide +kernel
theorem dX5_gapIfThrown_24 : decode cX5_gapIfThrown 24 = .ok (.iconst 0, 1) := by decide +kernel
theorem dX5_gapIfThrown_25 : decode cX5_gapIfThrown 25 = .ok (.istore 4, 2) := by decide +kernel
theorem dX5_gapIfThrown_27 : decode cX5_gapIfThrown 27 = .ok (.iload 4, 2) := by decide +kernel
theorem dX5_gapIfThrown_29 : decode cX5_gapIfThrown 29 = .ok (.aload_n 1, 1) := by decide +kernel
theorem dX5_gapIfThrown_30 : decode cX5_gapIfThrown 30 = .ok (.getfield 207, 3) := by decide +kernel
theorem dX5_gapIfThrown_33 : decode cX5_gapIfThrown 33 = .ok (.if_icmp .ge 46, 3) := by decide +kernel
theorem dX5_gapIfThrown_36 : decode cX5_gapIfThrown 36 = .ok (.aload_n 1, 1) := by decide +kernel
theorem dX5_gapIfThrown_37 : decode cX5_gapIfThrown 37 = .ok (.iload 4, 2) := by decide +kernel
theorem dX5_gapIfThrown_39 : decode cX5_gapIfThrown 39 = .ok (.invokevirtual 210, 3) := by decide +kernel
theorem dX5_gapIfThrown_42 : decode cX5_gapIfThrown 42 = .ok (.ifCond .eq 24, 3) := by decide +kernel
theorem dX5_gapIfThrown_45 : decode cX5_gapIfThrown 45 = .ok (.iload_n 3, 1) := by decide +kernel
theorem dX5_gapIfThrown_46 : decode cX5_gapIfThrown 46 = .ok (.aload_n 0, 1) := by decide +kernel
theorem dX5_gapIfThrown_47 : decode cX5_gapIfThrown 47 = .ok (.getfield 28, 3) := by decide +kernel
theorem dX5_gapIfThrown_50 : decode cX5_gapIfThrown 50 = .ok (.invokevirtual 151, 3) := by decide +kernel
theorem dX5_gapIfThrown_53 : decode cX5_gapIfThrown 53 = .ok (.aload_n 1, 1) := by decide +kernel
theorem dX5_gapIfThrown_54 : decode cX5_gapIfThrown 54 = .ok (.getfield 213, 3) := by decide +kernel
theorem dX5_gapIfThrown_57 : decode cX5_gapIfThrown 57 = .ok (.iload 4, 2) := by decide +kernel
theorem dX5_gapIfThrown_59 : decode cX5_gapIfThrown 59 = .ok (.iaload, 1) := by decide +kernel
theorem dX5_gapIfThrown_60 : decode cX5_gapIfThrown 60 = .ok (.isub, 1) := by decide +kernel
theorem dX5_gapIfThrown_61 : decode cX5_gapIfThrown 61 = .ok (.invokestatic 182, 3) := by decide +kernel
theorem dX5_gapIfThrown_64 : decode cX5_gapIfThrown 64 = .ok (.iadd, 1) := by decide +kernel
theorem dX5_gapIfThrown_65 : decode cX5_gapIfThrown 65 = .ok (.istore_n 3, 1) := by decide +kernel
theorem dX5_gapIfThrown_66 : decode cX5_gapIfThrown 66 = .ok (.aload_n 0, 1) := by decide +kernel
theorem dX5_gapIfThrown_67 : decode cX5_gapIfThrown 67 = .ok (.getfield 28, 3) := by decide +kernel
theorem dX5_gapIfThrown_70 : decode cX5_gapIfThrown 70 = .ok (.invokevirtual 192, 3) := by decide +kernel
theorem dX5_gapIfThrown_73 : decode cX5_gapIfThrown 73 = .ok (.iinc 4 1, 3) := by decide +kernel
theorem dX5_gapIfThrown_76 : decode cX5_gapIfThrown 76 = .ok (.goto (-49), 3) := by decide +kernel
theorem dX5_gapIfThrown_79 : decode cX5_gapIfThrown 79 = .ok (.iload_n 3, 1) := by decide +kernel
theorem dX5_gapIfThrown_80 : decode cX5_gapIfThrown 80 = .ok (.ireturn, 1) := by decide +kernel
theorem dX5_halved_0 : decode cX5_halved 0 = .ok (.aload_n 0, 1) := by decide +kernel
theorem dX5_halved_1 : decode cX5_halved 1 = .ok (.getfield 28, 3) := by decide +kernel
theorem dX5_halved_4 : decode cX5_halved 4 = .ok (.aload_n 0, 1) := by decide +kernel
theorem dX5_halved_5 : decode cX5_halved 5 = .ok (.getfield 21, 3) := by decide +kernel
theorem dX5_halved_8 : decode cX5_halved 8 = .ok (.invokevirtual 171, 3) := by decide +kernel
theorem dX5_halved_11 : decode cX5_halved 11 = .ok (.aload_n 0, 1) := by decide +kernel
theorem dX5_halved_12 : decode cX5_halved 12 = .ok (.getfield 31, 3) := by decide +kernel
theorem dX5_halved_15 : decode cX5_halved 15 = .ok (.aload_n 0, 1) := by decide +kernel
theorem dX5_halved_16 : decode cX5_halved 16 = .ok (.getfield 21, 3) := by decide +kernel
theorem dX5_halved_19 : decode cX5_halved 19 = .ok (.invokevirtual 171, 3) := by decide +kernel
theorem dX5_halved_22 : decode cX5_halved 22 = .ok (.aload_n 0, 1) := by decide +kernel
theorem dX5_halved_23 : decode cX5_halved 23 = .ok (.getfield 31, 3) := by decide +kernel
theorem dX5_halved_26 : decode cX5_halved 26 = .ok (.invokevirtual 216, 3) := by decide +kernel
theorem dX5_halved_29 : decode cX5_halved 29 = .ok (.iconst 0, 1) := by decide +kernel
theorem dX5_halved_30 : decode cX5_halved 30 = .ok (.istore_n 1, 1) := by decide +kernel
theorem dX5_halved_31 : decode cX5_halved 31 = .ok (.iload_n 1, 1) := by decide +kernel
theorem dX5_halved_32 : decode cX5_halved 32 = .ok (.sipush 200, 3) := by decide +kernel
theorem dX5_halved_35 : decode cX5_halved 35 = .ok (.if_icmp .gt 42, 3) := by decide +kernel
theorem dX5_halved_38 : decode cX5_halved 38 = .ok (.aload_n 0, 1) := by decide +kernel
theorem dX5_halved_39 : decode cX5_halved 39 = .ok (.getfield 28, 3) := by decide +kernel
theorem dX5_halved_42 : decode cX5_halved 42 = .ok (.invokevirtual 151, 3) := by decide +kernel
theorem dX5_halved_45 : decode cX5_halved 45 = .ok (.aload_n 0, 1) := by decide +kernel
theorem dX5_halved_46 : decode cX5_halved 46 = .ok (.getfield 31, 3) := by decide +kernel
theorem dX5_halved_49 : decode cX5_halved 49 = .ok (.invokevirtual 151, 3) := by decide +kernel
theorem dX5_halved_52 : decode cX5_halved 52 = .ok (.if_icmp .ne 5, 3) := by decide +kernel
theorem dX5_halved_55 : decode cX5_halved 55 = .ok (.iload_n 1, 1) := by decide +kernel
theorem dX5_halved_56 : decode cX5_halved 56 = .ok (.ireturn, 1) := by decide +kernel
theorem dX5_halved_57 : decode cX5_halved 57 = .ok (.aload_n 0, 1) := by decide +kernel
theorem dX5_halved_58 : decode cX5_halved 58 = .ok (.getfield 28, 3) := by decide +kernel
theorem dX5_halved_61 : decode cX5_halved 61 = .ok (.invokevirtual 192, 3) := by decide +kernel
theorem dX5_halved_64 : decode cX5_halved 64 = .ok (.aload_n 0, 1) := by decide +kernel
theorem dX5_halved_65 : decode cX5_halved 65 = .ok (.getfield 31, 3) := by decide +kernel
theorem dX5_halved_68 : decode cX5_halved 68 = .ok (.invokevirtual 192, 3) := by decide +kernel
theorem dX5_halved_71 : decode cX5_halved 71 = .ok (.iinc 1 1, 3) := by decide +kernel
theorem dX5_halved_74 : decode cX5_halved 74 = .ok (.goto (-43), 3) := by decide +kernel
theorem dX5_halved_77 : decode cX5_halved 77 = .ok (.ldc 178, 2) := by decide +kernel
theorem dX5_halved_79 : decode cX5_halved 79 = .ok (.ireturn, 1) := by decide +kernel
theorem dX5_differs_0 : decode cX5_differs 0 = .ok (.aload_n 0, 1) := by decide +kernel
theorem dX5_differs_1 : decode cX5_differs 1 = .ok (.getfield 61, 3) := by decide +kernel
theorem dX5_differs_4 : decode cX5_differs 4 = .ok (.ifCond .eq 21, 3) := by decide +kernel
theorem dX5_differs_7 : decode cX5_differs 7 = .ok (.aload_n 0, 1) := by decide +kernel
theorem dX5_differs_8 : decode cX5_differs 8 = .ok (.getfield 21, 3) := by decide +kernel
theorem dX5_differs_11 : decode cX5_differs 11 = .ok (.invokevirtual 151, 3) := by decide +kernel
theorem dX5_differs_14 : decode cX5_differs 14 = .ok (.aload_n 0, 1) := by decide +kernel
theorem dX5_differs_15 : decode cX5_differs 15 = .ok (.getfield 25, 3) := by decide +kernel
theorem dX5_differs_18 : decode cX5_differs 18 = .ok (.invokevirtual 151, 3) := by decide +kernel
theorem dX5_differs_21 : decode cX5_differs 21 = .ok (.isub, 1) := by decide +kernel
theorem dX5_differs_22 : decode cX5_differs 22 = .ok (.goto 5, 3) := by decide +kernel
theorem dX5_differs_25 : decode cX5_differs 25 = .ok (.ldc 219, 2) := by decide +kernel
theorem dX5_differs_27 : decode cX5_differs 27 = .ok (.ireturn, 1) := by decide +kernel
theorem dX5_feed_0 : decode cX5_feed 0 = .ok (.aload_n 0, 1) := by decide +kernel
theorem dX5_feed_1 : decode cX5_feed 1 = .ok (.getfield 37, 3) := by decide +kernel
theorem dX5_feed_4 : decode cX5_feed 4 = .ok (.getfield 220, 3) := by decide +kernel
theorem dX5_feed_7 : decode cX5_feed 7 = .ok (.bipush 84, 2) := by decide +kernel
theorem dX5_feed_9 : decode cX5_feed 9 = .ok (.if_icmp .le 6, 3) := by decide +kernel
theorem dX5_feed_12 : decode cX5_feed 12 = .ok (.ldc 79, 2) := by decide +kernel
theorem dX5_feed_14 : decode cX5_feed 14 = .ok (.ireturn, 1) := by decide +kernel
theorem dX5_feed_15 : decode cX5_feed 15 = .ok (.aload_n 0, 1) := by decide +kernel
theorem dX5_feed_16 : decode cX5_feed 16 = .ok (.getfield 37, 3) := by decide +kernel
theorem dX5_feed_19 : decode cX5_feed 19 = .ok (.iload_n 1, 1) := by decide +kernel
theorem dX5_feed_20 : decode cX5_feed 20 = .ok (.invokevirtual 223, 3) := by decide +kernel
theorem dX5_feed_23 : decode cX5_feed 23 = .ok (.aload_n 0, 1) := by decide +kernel
theorem dX5_feed_24 : decode cX5_feed 24 = .ok (.getfield 37, 3) := by decide +kernel
theorem dX5_feed_27 : decode cX5_feed 27 = .ok (.iload_n 2, 1) := by decide +kernel
theorem dX5_feed_28 : decode cX5_feed 28 = .ok (.invokevirtual 223, 3) := by decide +kernel
theorem dX5_feed_31 : decode cX5_feed 31 = .ok (.aload_n 0, 1) := by decide +kernel
theorem dX5_feed_32 : decode cX5_feed 32 = .ok (.getfield 37, 3) := by decide +kernel
theorem dX5_feed_35 : decode cX5_feed 35 = .ok (.iload_n 3, 1) := by decide +kernel
theorem dX5_feed_36 : decode cX5_feed 36 = .ok (.invokevirtual 223, 3) := by decide +kernel
theorem dX5_feed_39 : decode cX5_feed 39 = .ok (.aload_n 0, 1) := by decide +kernel
theorem dX5_feed_40 : decode cX5_feed 40 = .ok (.getfield 37, 3) := by decide +kernel
theorem dX5_feed_43 : decode cX5_feed 43 = .ok (.getfield 220, 3) := by decide +kernel
theorem dX5_feed_46 : decode cX5_feed 46 = .ok (.ireturn, 1) := by decide +kernel
theorem dX5_trim_0 : decode cX5_trim 0 = .ok (.iload_n 1, 1) := by decide +kernel
theorem dX5_trim_1 : decode cX5_trim 1 = .ok (.iconst 0, 1) := by decide +kernel
theorem dX5_trim_2 : decode cX5_trim 2 = .ok (.aload_n 0, 1) := by decide +kernel
theorem dX5_trim_3 : decode cX5_trim 3 = .ok (.getfield 37, 3) := by decide +kernel
theorem dX5_trim_6 : decode cX5_trim 6 = .ok (.getfield 220, 3) := by decide +kernel
theorem dX5_trim_9 : decode cX5_trim 9 = .ok (.invokestatic 67, 3) := by decide +kernel
theorem dX5_trim_12 : decode cX5_trim 12 = .ok (.ifCond .ne 6, 3) := by decide +kernel
theorem dX5_trim_15 : decode cX5_trim 15 = .ok (.ldc 71, 2) := by decide +kernel
theorem dX5_trim_17 : decode cX5_trim 17 = .ok (.ireturn, 1) := by decide +kernel
theorem dX5_trim_18 : decode cX5_trim 18 = .ok (.aload_n 0, 1) := by decide +kernel
theorem dX5_trim_19 : decode cX5_trim 19 = .ok (.getfield 37, 3) := by decide +kernel
theorem dX5_trim_22 : decode cX5_trim 22 = .ok (.iload_n 1, 1) := by decide +kernel
theorem dX5_trim_23 : decode cX5_trim 23 = .ok (.putfield 220, 3) := by decide +kernel
theorem dX5_trim_26 : decode cX5_trim 26 = .ok (.iload_n 1, 1) := by decide +kernel
theorem dX5_trim_27 : decode cX5_trim 27 = .ok (.ireturn, 1) := by decide +kernel
theorem dX5_text_0 : decode cX5_text 0 = .ok (.aload_n 0, 1) := by decide +kernel
theorem dX5_text_1 : decode cX5_text 1 = .ok (.getfield 37, 3) := by decide +kernel
theorem dX5_text_4 : decode cX5_text 4 = .ok (.invokevirtual 226, 3) := by decide +kernel
theorem dX5_text_7 : decode cX5_text 7 = .ok (.istore_n 1, 1) := by decide +kernel
theorem dX5_text_8 : decode cX5_text 8 = .ok (.aload_n 0, 1) := by decide +kernel
theorem dX5_text_9 : decode cX5_text 9 = .ok (.getfield 37, 3) := by decide +kernel
theorem dX5_text_12 : decode cX5_text 12 = .ok (.getfield 229, 3) := by decide +kernel
theorem dX5_text_15 : decode cX5_text 15 = .ok (.istore_n 2, 1) := by decide +kernel
theorem dX5_text_16 : decode cX5_text 16 = .ok (.aload_n 0, 1) := by decide +kernel
theorem dX5_text_17 : decode cX5_text 17 = .ok (.getfield 37, 3) := by decide +kernel
theorem dX5_text_20 : decode cX5_text 20 = .ok (.iconst 0, 1) := by decide +kernel
theorem dX5_text_21 : decode cX5_text 21 = .ok (.putfield 220, 3) := by decide +kernel
theorem dX5_text_24 : decode cX5_text 24 = .ok (.iload_n 1, 1) := by decide +kernel
theorem dX5_text_25 : decode cX5_text 25 = .ok (.ifCond .ne 8, 3) := by decide +kernel
theorem dX5_text_28 : decode cX5_text 28 = .ok (.bipush (-100), 2) := by decide +kernel
theorem dX5_text_30 : decode cX5_text 30 = .ok (.iload_n 2, 1) := by decide +kernel
theorem dX5_text_31 : decode cX5_text 31 = .ok (.isub, 1) := by decide +kernel
theorem dX5_text_32 : decode cX5_text 32 = .ok (.ireturn, 1) := by decide +kernel
theorem dX5_text_33 : decode cX5_text 33 = .ok (.aload_n 0, 1) := by decide +kernel
theorem dX5_text_34 : decode cX5_text 34 = .ok (.getfield 21, 3) := by decide +kernel
theorem dX5_text_37 : decode cX5_text 37 = .ok (.getfield 232, 3) := by decide +kernel
theorem dX5_text_40 : decode cX5_text 40 = .ok (.bipush 14, 2) := by decide +kernel
theorem dX5_text_42 : decode cX5_text 42 = .ok (.if_icmp .lt 6, 3) := by decide +kernel
theorem dX5_text_45 : decode cX5_text 45 = .ok (.ldc 79, 2) := by decide +kernel
theorem dX5_text_47 : decode cX5_text 47 = .ok (.ireturn, 1) := by decide +kernel
theorem dX5_text_48 : decode cX5_text 48 = .ok (.aload_n 0, 1) := by decide +kernel
theorem dX5_text_49 : decode cX5_text 49 = .ok (.getfield 21, 3) := by decide +kernel
theorem dX5_text_52 : decode cX5_text 52 = .ok (.getfield 232, 3) := by decide +kernel
theorem dX5_text_55 : decode cX5_text 55 = .ok (.istore_n 3, 1) := by decide +kernel
theorem dX5_text_56 : decode cX5_text 56 = .ok (.aload_n 0, 1) := by decide +kernel
theorem dX5_text_57 : decode cX5_text 57 = .ok (.getfield 10, 3) := by decide +kernel
theorem dX5_text_60 : decode cX5_text 60 = .ok (.iload_n 3, 1) := by decide +kernel
theorem dX5_text_61 : decode cX5_text 61 = .ok (.aload_n 0, 1) := by decide +kernel
theorem dX5_text_62 : decode cX5_text 62 = .ok (.getfield 37, 3) := by decide +kernel
theorem dX5_text_65 : decode cX5_text 65 = .ok (.invokevirtual 235, 3) := by decide +kernel
theorem dX5_text_68 : decode cX5_text 68 = .ok (.aload_n 0, 1) := by decide +kernel
theorem dX5_text_69 : decode cX5_text 69 = .ok (.getfield 21, 3) := by decide +kernel
theorem dX5_text_72 : decode cX5_text 72 = .ok (.getfield 164, 3) := by decide +kernel
theorem dX5_text_75 : decode cX5_text 75 = .ok (.aload_n 0, 1) := by decide +kernel
theorem dX5_text_76 : decode cX5_text 76 = .ok (.getfield 37, 3) := by decide +kernel
theorem dX5_text_79 : decode cX5_text 79 = .ok (.getfield 239, 3) := by decide +kernel
theorem dX5_text_82 : decode cX5_text 82 = .ok (.iload_n 3, 1) := by decide +kernel
theorem dX5_text_83 : decode cX5_text 83 = .ok (.iastore, 1) := by decide +kernel
theorem dX5_text_84 : decode cX5_text 84 = .ok (.aload_n 0, 1) := by decide +kernel
theorem dX5_text_85 : decode cX5_text 85 = .ok (.getfield 21, 3) := by decide +kernel
theorem dX5_text_88 : decode cX5_text 88 = .ok (.dup, 1) := by decide +kernel
theorem dX5_text_89 : decode cX5_text 89 = .ok (.getfield 232, 3) := by decide +kernel
theorem dX5_text_92 : decode cX5_text 92 = .ok (.iconst 1, 1) := by decide +kernel
theorem dX5_text_93 : decode cX5_text 93 = .ok (.iadd, 1) := by decide +kernel
theorem dX5_text_94 : decode cX5_text 94 = .ok (.putfield 232, 3) := by decide +kernel
theorem dX5_text_97 : decode cX5_text 97 = .ok (.iload_n 3, 1) := by decide +kernel
theorem dX5_text_98 : decode cX5_text 98 = .ok (.ireturn, 1) := by decide +kernel
theorem dX5_textTold_0 : decode cX5_textTold 0 = .ok (.iload_n 1, 1) := by decide +kernel
theorem dX5_textTold_1 : decode cX5_textTold 1 = .ok (.iconst 0, 1) := by decide +kernel
theorem dX5_textTold_2 : decode cX5_textTold 2 = .ok (.aload_n 0, 1) := by decide +kernel
theorem dX5_textTold_3 : decode cX5_textTold 3 = .ok (.getfield 21, 3) := by decide +kernel
theorem dX5_textTold_6 : decode cX5_textTold 6 = .ok (.getfield 232, 3) := by decide +kernel
theorem dX5_textTold_9 : decode cX5_textTold 9 = .ok (.iconst 1, 1) := by decide +kernel
theorem dX5_textTold_10 : decode cX5_textTold 10 = .ok (.isub, 1) := by decide +kernel
theorem dX5_textTold_11 : decode cX5_textTold 11 = .ok (.invokestatic 67, 3) := by decide +kernel
theorem dX5_textTold_14 : decode cX5_textTold 14 = .ok (.ifCond .eq 12, 3) := by decide +kernel
theorem dX5_textTold_17 : decode cX5_textTold 17 = .ok (.iload_n 2, 1) := by decide +kernel
theorem dX5_textTold_18 : decode cX5_textTold 18 = .ok (.iconst 0, 1) := by decide +kernel
theorem dX5_textTold_19 : decode cX5_textTold 19 = .ok (.iconst 1, 1) := by decide +kernel
theorem dX5_textTold_20 : decode cX5_textTold 20 = .ok (.invokestatic 67, 3) := by decide +kernel
theorem dX5_textTold_23 : decode cX5_textTold 23 = .ok (.ifCond .ne 6, 3) := by decide +kernel
theorem dX5_textTold_26 : decode cX5_textTold 26 = .ok (.ldc 71, 2) := by decide +kernel
theorem dX5_textTold_28 : decode cX5_textTold 28 = .ok (.ireturn, 1) := by decide +kernel
theorem dX5_textTold_29 : decode cX5_textTold 29 = .ok (.iload_n 2, 1) := by decide +kernel
theorem dX5_textTold_30 : decode cX5_textTold 30 = .ok (.ifCond .ne 15, 3) := by decide +kernel
theorem dX5_textTold_33 : decode cX5_textTold 33 = .ok (.aload_n 0, 1) := by decide +kernel
theorem dX5_textTold_34 : decode cX5_textTold 34 = .ok (.getfield 10, 3) := by decide +kernel
theorem dX5_textTold_37 : decode cX5_textTold 37 = .ok (.getfield 242, 3) := by decide +kernel
theorem dX5_textTold_40 : decode cX5_textTold 40 = .ok (.iload_n 1, 1) := by decide +kernel
theorem dX5_textTold_41 : decode cX5_textTold 41 = .ok (.iaload, 1) := by decide +kernel
theorem dX5_textTold_42 : decode cX5_textTold 42 = .ok (.goto 12, 3) := by decide +kernel
theorem dX5_textTold_45 : decode cX5_textTold 45 = .ok (.aload_n 0, 1) := by decide +kernel
theorem dX5_textTold_46 : decode cX5_textTold 46 = .ok (.getfield 10, 3) := by decide +kernel
theorem dX5_textTold_49 : decode cX5_textTold 49 = .ok (.getfield 245, 3) := by decide +kernel
theorem dX5_textTold_52 : decode cX5_textTold 52 = .ok (.iload_n 1, 1) := by decide +kernel
theorem dX5_textTold_53 : decode cX5_textTold 53 = .ok (.iaload, 1) := by decide +kernel
theorem dX5_textTold_54 : decode cX5_textTold 54 = .ok (.ireturn, 1) := by decide +kernel
theorem dX5_why_0 : decode cX5_why 0 = .ok (.iload_n 1, 1) := by decide +kernel
theorem dX5_why_1 : decode cX5_why 1 = .ok (.iconst 0, 1) := by decide +kernel
theorem dX5_why_2 : decode cX5_why 2 = .ok (.iconst 2, 1) := by decide +kernel
theorem dX5_why_3 : decode cX5_why 3 = .ok (.invokestatic 67, 3) := by decide +kernel
theorem dX5_why_6 : decode cX5_why 6 = .ok (.ifCond .ne 6, 3) := by decide +kernel
theorem dX5_why_9 : decode cX5_why 9 = .ok (.ldc 71, 2) := by decide +kernel
theorem dX5_why_11 : decode cX5_why 11 = .ok (.ireturn, 1) := by decide +kernel
theorem dX5_why_12 : decode cX5_why 12 = .ok (.aload_n 0, 1) := by decide +kernel
theorem dX5_why_13 : decode cX5_why 13 = .ok (.getfield 21, 3) := by decide +kernel
theorem dX5_why_16 : decode cX5_why 16 = .ok (.getfield 164, 3) := by decide +kernel
theorem dX5_why_19 : decode cX5_why 19 = .ok (.iload_n 1, 1) := by decide +kernel
theorem dX5_why_20 : decode cX5_why 20 = .ok (.iaload, 1) := by decide +kernel
theorem dX5_why_21 : decode cX5_why 21 = .ok (.ifCond .ge 8, 3) := by decide +kernel
theorem dX5_why_24 : decode cX5_why 24 = .ok (.ldc 178, 2) := by decide +kernel
theorem dX5_why_26 : decode cX5_why 26 = .ok (.goto 12, 3) := by decide +kernel
theorem dX5_why_29 : decode cX5_why 29 = .ok (.aload_n 0, 1) := by decide +kernel
theorem dX5_why_30 : decode cX5_why 30 = .ok (.getfield 21, 3) := by decide +kernel
theorem dX5_why_33 : decode cX5_why 33 = .ok (.getfield 164, 3) := by decide +kernel
theorem dX5_why_36 : decode cX5_why 36 = .ok (.iload_n 1, 1) := by decide +kernel
theorem dX5_why_37 : decode cX5_why 37 = .ok (.iaload, 1) := by decide +kernel
theorem dX5_why_38 : decode cX5_why 38 = .ok (.ireturn, 1) := by decide +kernel
theorem dX5_sheet_0 : decode cX5_sheet 0 = .ok (.iload_n 1, 1) := by decide +kernel
theorem dX5_sheet_1 : decode cX5_sheet 1 = .ok (.invokestatic 195, 3) := by decide +kernel
theorem dX5_sheet_4 : decode cX5_sheet 4 = .ok (.ifCond .eq 12, 3) := by decide +kernel
theorem dX5_sheet_7 : decode cX5_sheet 7 = .ok (.iload_n 2, 1) := by decide +kernel
theorem dX5_sheet_8 : decode cX5_sheet 8 = .ok (.iconst (-1), 1) := by decide +kernel
theorem dX5_sheet_9 : decode cX5_sheet 9 = .ok (.iconst 1, 1) := by decide +kernel
theorem dX5_sheet_10 : decode cX5_sheet 10 = .ok (.invokestatic 67, 3) := by decide +kernel
theorem dX5_sheet_13 : decode cX5_sheet 13 = .ok (.ifCond .ne 6, 3) := by decide +kernel
theorem dX5_sheet_16 : decode cX5_sheet 16 = .ok (.ldc 71, 2) := by decide +kernel
theorem dX5_sheet_18 : decode cX5_sheet 18 = .ok (.ireturn, 1) := by decide +kernel
theorem dX5_sheet_19 : decode cX5_sheet 19 = .ok (.iload_n 2, 1) := by decide +kernel
theorem dX5_sheet_20 : decode cX5_sheet 20 = .ok (.iconst (-1), 1) := by decide +kernel
theorem dX5_sheet_21 : decode cX5_sheet 21 = .ok (.if_icmp .ne 16, 3) := by decide +kernel
theorem dX5_sheet_24 : decode cX5_sheet 24 = .ok (.aload_n 0, 1) := by decide +kernel
theorem dX5_sheet_25 : decode cX5_sheet 25 = .ok (.getfield 43, 3) := by decide +kernel
theorem dX5_sheet_28 : decode cX5_sheet 28 = .ok (.iload_n 1, 1) := by decide +kernel
theorem dX5_sheet_29 : decode cX5_sheet 29 = .ok (.aaload, 1) := by decide +kernel
theorem dX5_sheet_30 : decode cX5_sheet 30 = .ok (.iconst (-1), 1) := by decide +kernel
theorem dX5_sheet_31 : decode cX5_sheet 31 = .ok (.iconst 0, 1) := by decide +kernel
theorem dX5_sheet_32 : decode cX5_sheet 32 = .ok (.invokevirtual 248, 3) := by decide +kernel
theorem dX5_sheet_35 : decode cX5_sheet 35 = .ok (.iconst 0, 1) := by decide +kernel
theorem dX5_sheet_36 : decode cX5_sheet 36 = .ok (.ireturn, 1) := by decide +kernel
theorem dX5_sheet_37 : decode cX5_sheet 37 = .ok (.iload_n 3, 1) := by decide +kernel
theorem dX5_sheet_38 : decode cX5_sheet 38 = .ok (.bipush 24, 2) := by decide +kernel
theorem dX5_sheet_40 : decode cX5_sheet 40 = .ok (.if_icmp .le 6, 3) := by decide +kernel
theorem dX5_sheet_43 : decode cX5_sheet 43 = .ok (.ldc 71, 2) := by decide +kernel
theorem dX5_sheet_45 : decode cX5_sheet 45 = .ok (.ireturn, 1) := by decide +kernel
theorem dX5_sheet_46 : decode cX5_sheet 46 = .ok (.iload_n 3, 1) := by decide +kernel
theorem dX5_sheet_47 : decode cX5_sheet 47 = .ok (.ifCond .ge 6, 3) := by decide +kernel
theorem dX5_sheet_50 : decode cX5_sheet 50 = .ok (.ldc 251, 2) := by decide +kernel
theorem dX5_sheet_52 : decode cX5_sheet 52 = .ok (.ireturn, 1) := by decide +kernel
theorem dX5_sheet_53 : decode cX5_sheet 53 = .ok (.aload_n 0, 1) := by decide +kernel
theorem dX5_sheet_54 : decode cX5_sheet 54 = .ok (.getfield 43, 3) := by decide +kernel
theorem dX5_sheet_57 : decode cX5_sheet 57 = .ok (.iload_n 1, 1) := by decide +kernel
theorem dX5_sheet_58 : decode cX5_sheet 58 = .ok (.aaload, 1) := by decide +kernel
theorem dX5_sheet_59 : decode cX5_sheet 59 = .ok (.iload_n 2, 1) := by decide +kernel
theorem dX5_sheet_60 : decode cX5_sheet 60 = .ok (.iload_n 3, 1) := by decide +kernel
theorem dX5_sheet_61 : decode cX5_sheet 61 = .ok (.invokevirtual 248, 3) := by decide +kernel
theorem dX5_sheet_64 : decode cX5_sheet 64 = .ok (.iload_n 3, 1) := by decide +kernel
theorem dX5_sheet_65 : decode cX5_sheet 65 = .ok (.ireturn, 1) := by decide +kernel
theorem dX5_mark_0 : decode cX5_mark 0 = .ok (.iload_n 1, 1) := by decide +kernel
theorem dX5_mark_1 : decode cX5_mark 1 = .ok (.invokestatic 195, 3) := by decide +kernel
theorem dX5_mark_4 : decode cX5_mark 4 = .ok (.ifCond .ne 6, 3) := by decide +kernel
theorem dX5_mark_7 : decode cX5_mark 7 = .ok (.ldc 71, 2) := by decide +kernel
theorem dX5_mark_9 : decode cX5_mark 9 = .ok (.ireturn, 1) := by decide +kernel
theorem dX5_mark_10 : decode cX5_mark 10 = .ok (.aload_n 0, 1) := by decide +kernel
theorem dX5_mark_11 : decode cX5_mark 11 = .ok (.getfield 43, 3) := by decide +kernel
theorem dX5_mark_14 : decode cX5_mark 14 = .ok (.iload_n 1, 1) := by decide +kernel
theorem dX5_mark_15 : decode cX5_mark 15 = .ok (.aaload, 1) := by decide +kernel
theorem dX5_mark_16 : decode cX5_mark 16 = .ok (.astore 4, 2) := by decide +kernel
theorem dX5_mark_18 : decode cX5_mark 18 = .ok (.aload 4, 2) := by decide +kernel
theorem dX5_mark_20 : decode cX5_mark 20 = .ok (.invokevirtual 198, 3) := by decide +kernel
theorem dX5_mark_23 : decode cX5_mark 23 = .ok (.ifCond .eq 6, 3) := by decide +kernel
theorem dX5_mark_26 : decode cX5_mark 26 = .ok (.ldc 202, 2) := by decide +kernel
theorem dX5_mark_28 : decode cX5_mark 28 = .ok (.ireturn, 1) := by decide +kernel
theorem dX5_mark_29 : decode cX5_mark 29 = .ok (.aload 4, 2) := by decide +kernel
theorem dX5_mark_31 : decode cX5_mark 31 = .ok (.iload_n 2, 1) := by decide +kernel
theorem dX5_mark_32 : decode cX5_mark 32 = .ok (.invokevirtual 252, 3) := by decide +kernel
theorem dX5_mark_35 : decode cX5_mark 35 = .ok (.ifCond .ne 6, 3) := by decide +kernel
theorem dX5_mark_38 : decode cX5_mark 38 = .ok (.ldc 255, 2) := by decide +kernel
theorem dX5_mark_40 : decode cX5_mark 40 = .ok (.ireturn, 1) := by decide +kernel
theorem dX5_mark_41 : decode cX5_mark 41 = .ok (.aload 4, 2) := by decide +kernel
theorem dX5_mark_43 : decode cX5_mark 43 = .ok (.getfield 256, 3) := by decide +kernel
theorem dX5_mark_46 : decode cX5_mark 46 = .ok (.ifCond .ne 12, 3) := by decide +kernel
theorem dX5_mark_49 : decode cX5_mark 49 = .ok (.iload_n 3, 1) := by decide +kernel
theorem dX5_mark_50 : decode cX5_mark 50 = .ok (.ldc 178, 2) := by decide +kernel
theorem dX5_mark_52 : decode cX5_mark 52 = .ok (.if_icmp .ne 6, 3) := by decide +kernel
theorem dX5_mark_55 : decode cX5_mark 55 = .ok (.ldc 121, 2) := by decide +kernel
theorem dX5_mark_57 : decode cX5_mark 57 = .ok (.ireturn, 1) := by decide +kernel
theorem dX5_mark_58 : decode cX5_mark 58 = .ok (.aload 4, 2) := by decide +kernel
theorem dX5_mark_60 : decode cX5_mark 60 = .ok (.getfield 256, 3) := by decide +kernel
theorem dX5_mark_63 : decode cX5_mark 63 = .ok (.iconst 1, 1) := by decide +kernel
theorem dX5_mark_64 : decode cX5_mark 64 = .ok (.if_icmp .ne 24, 3) := by decide +kernel
theorem dX5_mark_67 : decode cX5_mark 67 = .ok (.iload_n 3, 1) := by decide +kernel
theorem dX5_mark_68 : decode cX5_mark 68 = .ok (.ldc 178, 2) := by decide +kernel
theorem dX5_mark_70 : decode cX5_mark 70 = .ok (.if_icmp .eq 18, 3) := by decide +kernel
theorem dX5_mark_73 : decode cX5_mark 73 = .ok (.iload_n 3, 1) := by decide +kernel
theorem dX5_mark_74 : decode cX5_mark 74 = .ok (.ldc_w 259, 3) := by decide +kernel
theorem dX5_mark_77 : decode cX5_mark 77 = .ok (.ldc 126, 2) := by decide +kernel
theorem dX5_mark_79 : decode cX5_mark 79 = .ok (.invokestatic 67, 3) := by decide +kernel
theorem dX5_mark_82 : decode cX5_mark 82 = .ok (.ifCond .ne 6, 3) := by decide +kernel
theorem dX5_mark_85 : decode cX5_mark 85 = .ok (.ldc 71, 2) := by decide +kernel
theorem dX5_mark_87 : decode cX5_mark 87 = .ok (.ireturn, 1) := by decide +kernel
theorem dX5_mark_88 : decode cX5_mark 88 = .ok (.aload 4, 2) := by decide +kernel
theorem dX5_mark_90 : decode cX5_mark 90 = .ok (.getfield 213, 3) := by decide +kernel
theorem dX5_mark_93 : decode cX5_mark 93 = .ok (.iload_n 2, 1) := by decide +kernel
theorem dX5_mark_94 : decode cX5_mark 94 = .ok (.aload 4, 2) := by decide +kernel
theorem dX5_mark_96 : decode cX5_mark 96 = .ok (.getfield 256, 3) := by decide +kernel
theorem dX5_mark_99 : decode cX5_mark 99 = .ok (.ifCond .ne 8, 3) := by decide +kernel
theorem dX5_mark_102 : decode cX5_mark 102 = .ok (.iload_n 3, 1) := by decide +kernel
theorem dX5_mark_103 : decode cX5_mark 103 = .ok (.i2s, 1) := by decide +kernel
theorem dX5_mark_104 : decode cX5_mark 104 = .ok (.goto 4, 3) := by decide +kernel
theorem dX5_mark_107 : decode cX5_mark 107 = .ok (.iload_n 3, 1) := by decide +kernel
theorem dX5_mark_108 : decode cX5_mark 108 = .ok (.iastore, 1) := by decide +kernel
theorem dX5_mark_109 : decode cX5_mark 109 = .ok (.iconst 1, 1) := by decide +kernel
theorem dX5_mark_110 : decode cX5_mark 110 = .ok (.ireturn, 1) := by decide +kernel
theorem dX5_pour_0 : decode cX5_pour 0 = .ok (.iload_n 1, 1) := by decide +kernel
theorem dX5_pour_1 : decode cX5_pour 1 = .ok (.invokestatic 195, 3) := by decide +kernel
theorem dX5_pour_4 : decode cX5_pour 4 = .ok (.ifCond .ne 6, 3) := by decide +kernel
theorem dX5_pour_7 : decode cX5_pour 7 = .ok (.ldc 71, 2) := by decide +kernel
theorem dX5_pour_9 : decode cX5_pour 9 = .ok (.ireturn, 1) := by decide +kernel
theorem dX5_pour_10 : decode cX5_pour 10 = .ok (.aload_n 0, 1) := by decide +kernel
theorem dX5_pour_11 : decode cX5_pour 11 = .ok (.getfield 43, 3) := by decide +kernel
theorem dX5_pour_14 : decode cX5_pour 14 = .ok (.iload_n 1, 1) := by decide +kernel
theorem dX5_pour_15 : decode cX5_pour 15 = .ok (.aaload, 1) := by decide +kernel
theorem dX5_pour_16 : decode cX5_pour 16 = .ok (.astore_n 2, 1) := by decide +kernel
theorem dX5_pour_17 : decode cX5_pour 17 = .ok (.aload_n 2, 1) := by decide +kernel
theorem dX5_pour_18 : decode cX5_pour 18 = .ok (.invokevirtual 198, 3) := by decide +kernel
theorem dX5_pour_21 : decode cX5_pour 21 = .ok (.ifCond .eq 6, 3) := by decide +kernel
theorem dX5_pour_24 : decode cX5_pour 24 = .ok (.ldc 202, 2) := by decide +kernel
theorem dX5_pour_26 : decode cX5_pour 26 = .ok (.ireturn, 1) := by decide +kernel
theorem dX5_pour_27 : decode cX5_pour 27 = .ok (.iconst 0, 1) := by decide +kernel
theorem dX5_pour_28 : decode cX5_pour 28 = .ok (.istore_n 3, 1) := by decide +kernel
theorem dX5_pour_29 : decode cX5_pour 29 = .ok (.iconst 0, 1) := by decide +kernel
theorem dX5_pour_30 : decode cX5_pour 30 = .ok (.istore 4, 2) := by decide +kernel
theorem dX5_pour_32 : decode cX5_pour 32 = .ok (.iload 4, 2) := by decide +kernel
theorem dX5_pour_34 : decode cX5_pour 34 = .ok (.aload_n 0, 1) := by decide +kernel
theorem dX5_pour_35 : decode cX5_pour 35 = .ok (.getfield 21, 3) := by decide +kernel
theorem dX5_pour_38 : decode cX5_pour 38 = .ok (.getfield 72, 3) := by decide +kernel
theorem dX5_pour_41 : decode cX5_pour 41 = .ok (.if_icmp .ge 76, 3) := by decide +kernel
theorem dX5_pour_44 : decode cX5_pour 44 = .ok (.iload 4, 2) := by decide +kernel
theorem dX5_pour_46 : decode cX5_pour 46 = .ok (.aload_n 2, 1) := by decide +kernel
theorem dX5_pour_47 : decode cX5_pour 47 = .ok (.getfield 207, 3) := by decide +kernel
theorem dX5_pour_50 : decode cX5_pour 50 = .ok (.if_icmp .ge 67, 3) := by decide +kernel
theorem dX5_pour_53 : decode cX5_pour 53 = .ok (.aload_n 2, 1) := by decide +kernel
theorem dX5_pour_54 : decode cX5_pour 54 = .ok (.iload 4, 2) := by decide +kernel
theorem dX5_pour_56 : decode cX5_pour 56 = .ok (.invokevirtual 210, 3) := by decide +kernel
theorem dX5_pour_59 : decode cX5_pour 59 = .ok (.ifCond .eq 52, 3) := by decide +kernel
theorem dX5_pour_62 : decode cX5_pour 62 = .ok (.aload_n 2, 1) := by decide +kernel
theorem dX5_pour_63 : decode cX5_pour 63 = .ok (.getfield 213, 3) := by decide +kernel
theorem dX5_pour_66 : decode cX5_pour 66 = .ok (.iload 4, 2) := by decide +kernel
end
section
theorem dX5_pour_68 : decode cX5_pour 68 = .ok (.iaload, 1) := by decide +kernel
theorem dX5_pour_69 : decode cX5_pour 69 = .ok (.ldc 126, 2) := by decide +kernel
theorem dX5_pour_71 : decode cX5_pour 71 = .ok (.invokestatic 260, 3) := by decide +kernel
theorem dX5_pour_74 : decode cX5_pour 74 = .ok (.istore 5, 2) := by decide +kernel
theorem dX5_pour_76 : decode cX5_pour 76 = .ok (.iload_n 3, 1) := by decide +kernel
theorem dX5_pour_77 : decode cX5_pour 77 = .ok (.aload_n 0, 1) := by decide +kernel
theorem dX5_pour_78 : decode cX5_pour 78 = .ok (.getfield 21, 3) := by decide +kernel
theorem dX5_pour_81 : decode cX5_pour 81 = .ok (.getfield 88, 3) := by decide +kernel
theorem dX5_pour_84 : decode cX5_pour 84 = .ok (.iload 4, 2) := by decide +kernel
theorem dX5_pour_86 : decode cX5_pour 86 = .ok (.iaload, 1) := by decide +kernel
theorem dX5_pour_87 : decode cX5_pour 87 = .ok (.iload 5, 2) := by decide +kernel
theorem dX5_pour_89 : decode cX5_pour 89 = .ok (.if_icmp .ne 7, 3) := by decide +kernel
theorem dX5_pour_92 : decode cX5_pour 92 = .ok (.iconst 0, 1) := by decide +kernel
theorem dX5_pour_93 : decode cX5_pour 93 = .ok (.goto 4, 3) := by decide +kernel
theorem dX5_pour_96 : decode cX5_pour 96 = .ok (.iconst 1, 1) := by decide +kernel
theorem dX5_pour_97 : decode cX5_pour 97 = .ok (.iadd, 1) := by decide +kernel
theorem dX5_pour_98 : decode cX5_pour 98 = .ok (.istore_n 3, 1) := by decide +kernel
theorem dX5_pour_99 : decode cX5_pour 99 = .ok (.aload_n 0, 1) := by decide +kernel
theorem dX5_pour_100 : decode cX5_pour 100 = .ok (.getfield 21, 3) := by decide +kernel
theorem dX5_pour_103 : decode cX5_pour 103 = .ok (.getfield 88, 3) := by decide +kernel
theorem dX5_pour_106 : decode cX5_pour 106 = .ok (.iload 4, 2) := by decide +kernel
theorem dX5_pour_108 : decode cX5_pour 108 = .ok (.iload 5, 2) := by decide +kernel
theorem dX5_pour_110 : decode cX5_pour 110 = .ok (.iastore, 1) := by decide +kernel
theorem dX5_pour_111 : decode cX5_pour 111 = .ok (.iinc 4 1, 3) := by decide +kernel
theorem dX5_pour_114 : decode cX5_pour 114 = .ok (.goto (-82), 3) := by decide +kernel
theorem dX5_pour_117 : decode cX5_pour 117 = .ok (.iload_n 3, 1) := by decide +kernel
theorem dX5_pour_118 : decode cX5_pour 118 = .ok (.ireturn, 1) := by decide +kernel
theorem dX5_reads_0 : decode cX5_reads 0 = .ok (.iload_n 1, 1) := by decide +kernel
theorem dX5_reads_1 : decode cX5_reads 1 = .ok (.invokestatic 195, 3) := by decide +kernel
theorem dX5_reads_4 : decode cX5_reads 4 = .ok (.ifCond .ne 6, 3) := by decide +kernel
theorem dX5_reads_7 : decode cX5_reads 7 = .ok (.ldc 71, 2) := by decide +kernel
theorem dX5_reads_9 : decode cX5_reads 9 = .ok (.ireturn, 1) := by decide +kernel
theorem dX5_reads_10 : decode cX5_reads 10 = .ok (.aload_n 0, 1) := by decide +kernel
theorem dX5_reads_11 : decode cX5_reads 11 = .ok (.getfield 43, 3) := by decide +kernel
theorem dX5_reads_14 : decode cX5_reads 14 = .ok (.iload_n 1, 1) := by decide +kernel
theorem dX5_reads_15 : decode cX5_reads 15 = .ok (.aaload, 1) := by decide +kernel
theorem dX5_reads_16 : decode cX5_reads 16 = .ok (.astore_n 2, 1) := by decide +kernel
theorem dX5_reads_17 : decode cX5_reads 17 = .ok (.aload_n 2, 1) := by decide +kernel
theorem dX5_reads_18 : decode cX5_reads 18 = .ok (.invokevirtual 198, 3) := by decide +kernel
theorem dX5_reads_21 : decode cX5_reads 21 = .ok (.ifCond .eq 6, 3) := by decide +kernel
theorem dX5_reads_24 : decode cX5_reads 24 = .ok (.ldc 202, 2) := by decide +kernel
theorem dX5_reads_26 : decode cX5_reads 26 = .ok (.ireturn, 1) := by decide +kernel
theorem dX5_reads_27 : decode cX5_reads 27 = .ok (.aload_n 0, 1) := by decide +kernel
theorem dX5_reads_28 : decode cX5_reads 28 = .ok (.getfield 28, 3) := by decide +kernel
theorem dX5_reads_31 : decode cX5_reads 31 = .ok (.aload_n 0, 1) := by decide +kernel
theorem dX5_reads_32 : decode cX5_reads 32 = .ok (.getfield 21, 3) := by decide +kernel
theorem dX5_reads_35 : decode cX5_reads 35 = .ok (.invokevirtual 171, 3) := by decide +kernel
theorem dX5_reads_38 : decode cX5_reads 38 = .ok (.iconst 0, 1) := by decide +kernel
theorem dX5_reads_39 : decode cX5_reads 39 = .ok (.istore_n 3, 1) := by decide +kernel
theorem dX5_reads_40 : decode cX5_reads 40 = .ok (.iload_n 3, 1) := by decide +kernel
theorem dX5_reads_41 : decode cX5_reads 41 = .ok (.aload_n 2, 1) := by decide +kernel
theorem dX5_reads_42 : decode cX5_reads 42 = .ok (.getfield 207, 3) := by decide +kernel
theorem dX5_reads_45 : decode cX5_reads 45 = .ok (.if_icmp .ge 42, 3) := by decide +kernel
theorem dX5_reads_48 : decode cX5_reads 48 = .ok (.aload_n 2, 1) := by decide +kernel
theorem dX5_reads_49 : decode cX5_reads 49 = .ok (.iload_n 3, 1) := by decide +kernel
theorem dX5_reads_50 : decode cX5_reads 50 = .ok (.invokevirtual 210, 3) := by decide +kernel
theorem dX5_reads_53 : decode cX5_reads 53 = .ok (.ifCond .eq 21, 3) := by decide +kernel
theorem dX5_reads_56 : decode cX5_reads 56 = .ok (.aload_n 2, 1) := by decide +kernel
theorem dX5_reads_57 : decode cX5_reads 57 = .ok (.getfield 213, 3) := by decide +kernel
theorem dX5_reads_60 : decode cX5_reads 60 = .ok (.iload_n 3, 1) := by decide +kernel
theorem dX5_reads_61 : decode cX5_reads 61 = .ok (.iaload, 1) := by decide +kernel
theorem dX5_reads_62 : decode cX5_reads 62 = .ok (.aload_n 0, 1) := by decide +kernel
theorem dX5_reads_63 : decode cX5_reads 63 = .ok (.getfield 28, 3) := by decide +kernel
theorem dX5_reads_66 : decode cX5_reads 66 = .ok (.invokevirtual 151, 3) := by decide +kernel
theorem dX5_reads_69 : decode cX5_reads 69 = .ok (.if_icmp .eq 5, 3) := by decide +kernel
theorem dX5_reads_72 : decode cX5_reads 72 = .ok (.iload_n 3, 1) := by decide +kernel
theorem dX5_reads_73 : decode cX5_reads 73 = .ok (.ireturn, 1) := by decide +kernel
theorem dX5_reads_74 : decode cX5_reads 74 = .ok (.aload_n 0, 1) := by decide +kernel
theorem dX5_reads_75 : decode cX5_reads 75 = .ok (.getfield 28, 3) := by decide +kernel
theorem dX5_reads_78 : decode cX5_reads 78 = .ok (.invokevirtual 192, 3) := by decide +kernel
theorem dX5_reads_81 : decode cX5_reads 81 = .ok (.iinc 3 1, 3) := by decide +kernel
theorem dX5_reads_84 : decode cX5_reads 84 = .ok (.goto (-44), 3) := by decide +kernel
theorem dX5_reads_87 : decode cX5_reads 87 = .ok (.ldc 178, 2) := by decide +kernel
theorem dX5_reads_89 : decode cX5_reads 89 = .ok (.ireturn, 1) := by decide +kernel
theorem dX5_copy_0 : decode cX5_copy 0 = .ok (.iload_n 1, 1) := by decide +kernel
theorem dX5_copy_1 : decode cX5_copy 1 = .ok (.invokestatic 195, 3) := by decide +kernel
theorem dX5_copy_4 : decode cX5_copy 4 = .ok (.ifCond .eq 10, 3) := by decide +kernel
theorem dX5_copy_7 : decode cX5_copy 7 = .ok (.iload_n 3, 1) := by decide +kernel
theorem dX5_copy_8 : decode cX5_copy 8 = .ok (.invokestatic 195, 3) := by decide +kernel
theorem dX5_copy_11 : decode cX5_copy 11 = .ok (.ifCond .ne 6, 3) := by decide +kernel
theorem dX5_copy_14 : decode cX5_copy 14 = .ok (.ldc 71, 2) := by decide +kernel
theorem dX5_copy_16 : decode cX5_copy 16 = .ok (.ireturn, 1) := by decide +kernel
theorem dX5_copy_17 : decode cX5_copy 17 = .ok (.aload_n 0, 1) := by decide +kernel
theorem dX5_copy_18 : decode cX5_copy 18 = .ok (.getfield 43, 3) := by decide +kernel
theorem dX5_copy_21 : decode cX5_copy 21 = .ok (.iload_n 1, 1) := by decide +kernel
theorem dX5_copy_22 : decode cX5_copy 22 = .ok (.aaload, 1) := by decide +kernel
theorem dX5_copy_23 : decode cX5_copy 23 = .ok (.astore 6, 2) := by decide +kernel
theorem dX5_copy_25 : decode cX5_copy 25 = .ok (.aload_n 0, 1) := by decide +kernel
theorem dX5_copy_26 : decode cX5_copy 26 = .ok (.getfield 43, 3) := by decide +kernel
theorem dX5_copy_29 : decode cX5_copy 29 = .ok (.iload_n 3, 1) := by decide +kernel
theorem dX5_copy_30 : decode cX5_copy 30 = .ok (.aaload, 1) := by decide +kernel
theorem dX5_copy_31 : decode cX5_copy 31 = .ok (.astore 7, 2) := by decide +kernel
theorem dX5_copy_33 : decode cX5_copy 33 = .ok (.aload 6, 2) := by decide +kernel
theorem dX5_copy_35 : decode cX5_copy 35 = .ok (.invokevirtual 198, 3) := by decide +kernel
theorem dX5_copy_38 : decode cX5_copy 38 = .ok (.ifCond .ne 11, 3) := by decide +kernel
theorem dX5_copy_41 : decode cX5_copy 41 = .ok (.aload 7, 2) := by decide +kernel
theorem dX5_copy_43 : decode cX5_copy 43 = .ok (.invokevirtual 198, 3) := by decide +kernel
theorem dX5_copy_46 : decode cX5_copy 46 = .ok (.ifCond .eq 6, 3) := by decide +kernel
theorem dX5_copy_49 : decode cX5_copy 49 = .ok (.ldc 202, 2) := by decide +kernel
theorem dX5_copy_51 : decode cX5_copy 51 = .ok (.ireturn, 1) := by decide +kernel
theorem dX5_copy_52 : decode cX5_copy 52 = .ok (.aload 6, 2) := by decide +kernel
theorem dX5_copy_54 : decode cX5_copy 54 = .ok (.getfield 256, 3) := by decide +kernel
theorem dX5_copy_57 : decode cX5_copy 57 = .ok (.aload 7, 2) := by decide +kernel
theorem dX5_copy_59 : decode cX5_copy 59 = .ok (.getfield 256, 3) := by decide +kernel
theorem dX5_copy_62 : decode cX5_copy 62 = .ok (.if_icmp .eq 6, 3) := by decide +kernel
theorem dX5_copy_65 : decode cX5_copy 65 = .ok (.ldc 121, 2) := by decide +kernel
theorem dX5_copy_67 : decode cX5_copy 67 = .ok (.ireturn, 1) := by decide +kernel
theorem dX5_copy_68 : decode cX5_copy 68 = .ok (.aload 6, 2) := by decide +kernel
theorem dX5_copy_70 : decode cX5_copy 70 = .ok (.iload_n 2, 1) := by decide +kernel
theorem dX5_copy_71 : decode cX5_copy 71 = .ok (.iload 5, 2) := by decide +kernel
theorem dX5_copy_73 : decode cX5_copy 73 = .ok (.invokevirtual 263, 3) := by decide +kernel
theorem dX5_copy_76 : decode cX5_copy 76 = .ok (.ifCond .eq 15, 3) := by decide +kernel
theorem dX5_copy_79 : decode cX5_copy 79 = .ok (.aload 7, 2) := by decide +kernel
theorem dX5_copy_81 : decode cX5_copy 81 = .ok (.iload 4, 2) := by decide +kernel
theorem dX5_copy_83 : decode cX5_copy 83 = .ok (.iload 5, 2) := by decide +kernel
theorem dX5_copy_85 : decode cX5_copy 85 = .ok (.invokevirtual 263, 3) := by decide +kernel
theorem dX5_copy_88 : decode cX5_copy 88 = .ok (.ifCond .ne 6, 3) := by decide +kernel
theorem dX5_copy_91 : decode cX5_copy 91 = .ok (.ldc 255, 2) := by decide +kernel
theorem dX5_copy_93 : decode cX5_copy 93 = .ok (.ireturn, 1) := by decide +kernel
theorem dX5_copy_94 : decode cX5_copy 94 = .ok (.aload 6, 2) := by decide +kernel
theorem dX5_copy_96 : decode cX5_copy 96 = .ok (.getfield 213, 3) := by decide +kernel
theorem dX5_copy_99 : decode cX5_copy 99 = .ok (.iload_n 2, 1) := by decide +kernel
theorem dX5_copy_100 : decode cX5_copy 100 = .ok (.aload 7, 2) := by decide +kernel
theorem dX5_copy_102 : decode cX5_copy 102 = .ok (.getfield 213, 3) := by decide +kernel
theorem dX5_copy_105 : decode cX5_copy 105 = .ok (.iload 4, 2) := by decide +kernel
theorem dX5_copy_107 : decode cX5_copy 107 = .ok (.iload 5, 2) := by decide +kernel
theorem dX5_copy_109 : decode cX5_copy 109 = .ok (.invokestatic 266, 3) := by decide +kernel
theorem dX5_copy_112 : decode cX5_copy 112 = .ok (.iload 5, 2) := by decide +kernel
theorem dX5_copy_114 : decode cX5_copy 114 = .ok (.ireturn, 1) := by decide +kernel
theorem dX5_lay_0 : decode cX5_lay 0 = .ok (.iload_n 1, 1) := by decide +kernel
theorem dX5_lay_1 : decode cX5_lay 1 = .ok (.invokestatic 272, 3) := by decide +kernel
theorem dX5_lay_4 : decode cX5_lay 4 = .ok (.ifCond .eq 12, 3) := by decide +kernel
theorem dX5_lay_7 : decode cX5_lay 7 = .ok (.iload_n 2, 1) := by decide +kernel
theorem dX5_lay_8 : decode cX5_lay 8 = .ok (.iconst 0, 1) := by decide +kernel
theorem dX5_lay_9 : decode cX5_lay 9 = .ok (.iconst 3, 1) := by decide +kernel
theorem dX5_lay_10 : decode cX5_lay 10 = .ok (.invokestatic 67, 3) := by decide +kernel
theorem dX5_lay_13 : decode cX5_lay 13 = .ok (.ifCond .ne 6, 3) := by decide +kernel
theorem dX5_lay_16 : decode cX5_lay 16 = .ok (.ldc 71, 2) := by decide +kernel
theorem dX5_lay_18 : decode cX5_lay 18 = .ok (.ireturn, 1) := by decide +kernel
theorem dX5_lay_19 : decode cX5_lay 19 = .ok (.iload_n 2, 1) := by decide +kernel
theorem dX5_lay_20 : decode cX5_lay 20 = .ok (.iconst 1, 1) := by decide +kernel
theorem dX5_lay_21 : decode cX5_lay 21 = .ok (.if_icmp .ne 14, 3) := by decide +kernel
theorem dX5_lay_24 : decode cX5_lay 24 = .ok (.aload_n 0, 1) := by decide +kernel
theorem dX5_lay_25 : decode cX5_lay 25 = .ok (.getfield 21, 3) := by decide +kernel
theorem dX5_lay_28 : decode cX5_lay 28 = .ok (.iload_n 3, 1) := by decide +kernel
theorem dX5_lay_29 : decode cX5_lay 29 = .ok (.invokevirtual 80, 3) := by decide +kernel
theorem dX5_lay_32 : decode cX5_lay 32 = .ok (.ifCond .eq 15, 3) := by decide +kernel
theorem dX5_lay_35 : decode cX5_lay 35 = .ok (.iload_n 2, 1) := by decide +kernel
theorem dX5_lay_36 : decode cX5_lay 36 = .ok (.iconst 2, 1) := by decide +kernel
theorem dX5_lay_37 : decode cX5_lay 37 = .ok (.if_icmp .ne 13, 3) := by decide +kernel
theorem dX5_lay_40 : decode cX5_lay 40 = .ok (.iload_n 3, 1) := by decide +kernel
theorem dX5_lay_41 : decode cX5_lay 41 = .ok (.invokestatic 195, 3) := by decide +kernel
theorem dX5_lay_44 : decode cX5_lay 44 = .ok (.ifCond .ne 6, 3) := by decide +kernel
theorem dX5_lay_47 : decode cX5_lay 47 = .ok (.ldc 71, 2) := by decide +kernel
theorem dX5_lay_49 : decode cX5_lay 49 = .ok (.ireturn, 1) := by decide +kernel
theorem dX5_lay_50 : decode cX5_lay 50 = .ok (.iload_n 2, 1) := by decide +kernel
theorem dX5_lay_51 : decode cX5_lay 51 = .ok (.iconst 2, 1) := by decide +kernel
theorem dX5_lay_52 : decode cX5_lay 52 = .ok (.if_icmp .ne 18, 3) := by decide +kernel
theorem dX5_lay_55 : decode cX5_lay 55 = .ok (.aload_n 0, 1) := by decide +kernel
theorem dX5_lay_56 : decode cX5_lay 56 = .ok (.getfield 43, 3) := by decide +kernel
theorem dX5_lay_59 : decode cX5_lay 59 = .ok (.iload_n 3, 1) := by decide +kernel
theorem dX5_lay_60 : decode cX5_lay 60 = .ok (.aaload, 1) := by decide +kernel
theorem dX5_lay_61 : decode cX5_lay 61 = .ok (.invokevirtual 198, 3) := by decide +kernel
theorem dX5_lay_64 : decode cX5_lay 64 = .ok (.ifCond .eq 6, 3) := by decide +kernel
theorem dX5_lay_67 : decode cX5_lay 67 = .ok (.ldc 202, 2) := by decide +kernel
theorem dX5_lay_69 : decode cX5_lay 69 = .ok (.ireturn, 1) := by decide +kernel
theorem dX5_lay_70 : decode cX5_lay 70 = .ok (.aload_n 0, 1) := by decide +kernel
theorem dX5_lay_71 : decode cX5_lay 71 = .ok (.getfield 49, 3) := by decide +kernel
theorem dX5_lay_74 : decode cX5_lay 74 = .ok (.iload_n 1, 1) := by decide +kernel
theorem dX5_lay_75 : decode cX5_lay 75 = .ok (.aaload, 1) := by decide +kernel
theorem dX5_lay_76 : decode cX5_lay 76 = .ok (.astore 4, 2) := by decide +kernel
theorem dX5_lay_78 : decode cX5_lay 78 = .ok (.aload 4, 2) := by decide +kernel
theorem dX5_lay_80 : decode cX5_lay 80 = .ok (.getfield 275, 3) := by decide +kernel
theorem dX5_lay_83 : decode cX5_lay 83 = .ok (.istore 5, 2) := by decide +kernel
theorem dX5_lay_85 : decode cX5_lay 85 = .ok (.aload 4, 2) := by decide +kernel
theorem dX5_lay_87 : decode cX5_lay 87 = .ok (.iload_n 2, 1) := by decide +kernel
theorem dX5_lay_88 : decode cX5_lay 88 = .ok (.putfield 275, 3) := by decide +kernel
theorem dX5_lay_91 : decode cX5_lay 91 = .ok (.iload_n 2, 1) := by decide +kernel
theorem dX5_lay_92 : decode cX5_lay 92 = .ok (.iconst 1, 1) := by decide +kernel
theorem dX5_lay_93 : decode cX5_lay 93 = .ok (.if_icmp .ne 34, 3) := by decide +kernel
theorem dX5_lay_96 : decode cX5_lay 96 = .ok (.aload 4, 2) := by decide +kernel
theorem dX5_lay_98 : decode cX5_lay 98 = .ok (.aload_n 0, 1) := by decide +kernel
theorem dX5_lay_99 : decode cX5_lay 99 = .ok (.getfield 21, 3) := by decide +kernel
theorem dX5_lay_102 : decode cX5_lay 102 = .ok (.getfield 91, 3) := by decide +kernel
theorem dX5_lay_105 : decode cX5_lay 105 = .ok (.iload_n 3, 1) := by decide +kernel
theorem dX5_lay_106 : decode cX5_lay 106 = .ok (.iaload, 1) := by decide +kernel
theorem dX5_lay_107 : decode cX5_lay 107 = .ok (.putfield 278, 3) := by decide +kernel
theorem dX5_lay_110 : decode cX5_lay 110 = .ok (.aload 4, 2) := by decide +kernel
theorem dX5_lay_112 : decode cX5_lay 112 = .ok (.aload_n 0, 1) := by decide +kernel
theorem dX5_lay_113 : decode cX5_lay 113 = .ok (.getfield 21, 3) := by decide +kernel
theorem dX5_lay_116 : decode cX5_lay 116 = .ok (.getfield 94, 3) := by decide +kernel
theorem dX5_lay_119 : decode cX5_lay 119 = .ok (.iload_n 3, 1) := by decide +kernel
theorem dX5_lay_120 : decode cX5_lay 120 = .ok (.iaload, 1) := by decide +kernel
theorem dX5_lay_121 : decode cX5_lay 121 = .ok (.putfield 281, 3) := by decide +kernel
theorem dX5_lay_124 : decode cX5_lay 124 = .ok (.goto 36, 3) := by decide +kernel
theorem dX5_lay_127 : decode cX5_lay 127 = .ok (.iload_n 2, 1) := by decide +kernel
theorem dX5_lay_128 : decode cX5_lay 128 = .ok (.iconst 2, 1) := by decide +kernel
theorem dX5_lay_129 : decode cX5_lay 129 = .ok (.if_icmp .ne 20, 3) := by decide +kernel
theorem dX5_lay_132 : decode cX5_lay 132 = .ok (.aload 4, 2) := by decide +kernel
theorem dX5_lay_134 : decode cX5_lay 134 = .ok (.getfield 284, 3) := by decide +kernel
theorem dX5_lay_137 : decode cX5_lay 137 = .ok (.aload_n 0, 1) := by decide +kernel
theorem dX5_lay_138 : decode cX5_lay 138 = .ok (.getfield 43, 3) := by decide +kernel
theorem dX5_lay_141 : decode cX5_lay 141 = .ok (.iload_n 3, 1) := by decide +kernel
theorem dX5_lay_142 : decode cX5_lay 142 = .ok (.aaload, 1) := by decide +kernel
theorem dX5_lay_143 : decode cX5_lay 143 = .ok (.invokevirtual 288, 3) := by decide +kernel
theorem dX5_lay_146 : decode cX5_lay 146 = .ok (.goto 14, 3) := by decide +kernel
theorem dX5_lay_149 : decode cX5_lay 149 = .ok (.iload_n 2, 1) := by decide +kernel
theorem dX5_lay_150 : decode cX5_lay 150 = .ok (.iconst 3, 1) := by decide +kernel
theorem dX5_lay_151 : decode cX5_lay 151 = .ok (.if_icmp .ne 9, 3) := by decide +kernel
theorem dX5_lay_154 : decode cX5_lay 154 = .ok (.aload 4, 2) := by decide +kernel
theorem dX5_lay_156 : decode cX5_lay 156 = .ok (.iload_n 3, 1) := by decide +kernel
theorem dX5_lay_157 : decode cX5_lay 157 = .ok (.putfield 291, 3) := by decide +kernel
theorem dX5_lay_160 : decode cX5_lay 160 = .ok (.iload 5, 2) := by decide +kernel
theorem dX5_lay_162 : decode cX5_lay 162 = .ok (.ireturn, 1) := by decide +kernel
theorem dX5_ask_0 : decode cX5_ask 0 = .ok (.iload_n 1, 1) := by decide +kernel
theorem dX5_ask_1 : decode cX5_ask 1 = .ok (.invokestatic 272, 3) := by decide +kernel
theorem dX5_ask_4 : decode cX5_ask 4 = .ok (.ifCond .eq 12, 3) := by decide +kernel
theorem dX5_ask_7 : decode cX5_ask 7 = .ok (.iload_n 2, 1) := by decide +kernel
theorem dX5_ask_8 : decode cX5_ask 8 = .ok (.iconst 0, 1) := by decide +kernel
theorem dX5_ask_9 : decode cX5_ask 9 = .ok (.iconst 5, 1) := by decide +kernel
theorem dX5_ask_10 : decode cX5_ask 10 = .ok (.invokestatic 67, 3) := by decide +kernel
theorem dX5_ask_13 : decode cX5_ask 13 = .ok (.ifCond .ne 6, 3) := by decide +kernel
theorem dX5_ask_16 : decode cX5_ask 16 = .ok (.ldc 71, 2) := by decide +kernel
theorem dX5_ask_18 : decode cX5_ask 18 = .ok (.ireturn, 1) := by decide +kernel
theorem dX5_ask_19 : decode cX5_ask 19 = .ok (.aload_n 0, 1) := by decide +kernel
theorem dX5_ask_20 : decode cX5_ask 20 = .ok (.getfield 49, 3) := by decide +kernel
theorem dX5_ask_23 : decode cX5_ask 23 = .ok (.iload_n 1, 1) := by decide +kernel
theorem dX5_ask_24 : decode cX5_ask 24 = .ok (.aaload, 1) := by decide +kernel
theorem dX5_ask_25 : decode cX5_ask 25 = .ok (.astore_n 3, 1) := by decide +kernel
theorem dX5_ask_26 : decode cX5_ask 26 = .ok (.aload_n 3, 1) := by decide +kernel
theorem dX5_ask_27 : decode cX5_ask 27 = .ok (.getfield 275, 3) := by decide +kernel
theorem dX5_ask_30 : decode cX5_ask 30 = .ok (.ifCond .ne 6, 3) := by decide +kernel
theorem dX5_ask_33 : decode cX5_ask 33 = .ok (.ldc 202, 2) := by decide +kernel
theorem dX5_ask_35 : decode cX5_ask 35 = .ok (.ireturn, 1) := by decide +kernel
theorem dX5_ask_36 : decode cX5_ask 36 = .ok (.aload_n 3, 1) := by decide +kernel
theorem dX5_ask_37 : decode cX5_ask 37 = .ok (.getfield 275, 3) := by decide +kernel
theorem dX5_ask_40 : decode cX5_ask 40 = .ok (.iconst 1, 1) := by decide +kernel
theorem dX5_ask_41 : decode cX5_ask 41 = .ok (.if_icmp .ne 14, 3) := by decide +kernel
theorem dX5_ask_44 : decode cX5_ask 44 = .ok (.aload_n 3, 1) := by decide +kernel
theorem dX5_ask_45 : decode cX5_ask 45 = .ok (.getfield 278, 3) := by decide +kernel
theorem dX5_ask_48 : decode cX5_ask 48 = .ok (.iload_n 2, 1) := by decide +kernel
theorem dX5_ask_49 : decode cX5_ask 49 = .ok (.invokestatic 117, 3) := by decide +kernel
theorem dX5_ask_52 : decode cX5_ask 52 = .ok (.ifCond .ne 6, 3) := by decide +kernel
theorem dX5_ask_55 : decode cX5_ask 55 = .ok (.ldc 121, 2) := by decide +kernel
theorem dX5_ask_57 : decode cX5_ask 57 = .ok (.ireturn, 1) := by decide +kernel
theorem dX5_ask_58 : decode cX5_ask 58 = .ok (.aload_n 3, 1) := by decide +kernel
theorem dX5_ask_59 : decode cX5_ask 59 = .ok (.getfield 278, 3) := by decide +kernel
theorem dX5_ask_62 : decode cX5_ask 62 = .ok (.aload_n 3, 1) := by decide +kernel
theorem dX5_ask_63 : decode cX5_ask 63 = .ok (.getfield 281, 3) := by decide +kernel
theorem dX5_ask_66 : decode cX5_ask 66 = .ok (.invokestatic 107, 3) := by decide +kernel
theorem dX5_ask_69 : decode cX5_ask 69 = .ok (.ireturn, 1) := by decide +kernel
theorem dX5_item_0 : decode cX5_item 0 = .ok (.iload_n 1, 1) := by decide +kernel
theorem dX5_item_1 : decode cX5_item 1 = .ok (.invokestatic 272, 3) := by decide +kernel
theorem dX5_item_4 : decode cX5_item 4 = .ok (.ifCond .ne 6, 3) := by decide +kernel
theorem dX5_item_7 : decode cX5_item 7 = .ok (.ldc 71, 2) := by decide +kernel
theorem dX5_item_9 : decode cX5_item 9 = .ok (.ireturn, 1) := by decide +kernel
theorem dX5_item_10 : decode cX5_item 10 = .ok (.aload_n 0, 1) := by decide +kernel
theorem dX5_item_11 : decode cX5_item 11 = .ok (.getfield 49, 3) := by decide +kernel
theorem dX5_item_14 : decode cX5_item 14 = .ok (.iload_n 1, 1) := by decide +kernel
theorem dX5_item_15 : decode cX5_item 15 = .ok (.aaload, 1) := by decide +kernel
theorem dX5_item_16 : decode cX5_item 16 = .ok (.astore_n 3, 1) := by decide +kernel
theorem dX5_item_17 : decode cX5_item 17 = .ok (.aload_n 3, 1) := by decide +kernel
theorem dX5_item_18 : decode cX5_item 18 = .ok (.getfield 275, 3) := by decide +kernel
theorem dX5_item_21 : decode cX5_item 21 = .ok (.ifCond .ne 6, 3) := by decide +kernel
theorem dX5_item_24 : decode cX5_item 24 = .ok (.ldc 202, 2) := by decide +kernel
theorem dX5_item_26 : decode cX5_item 26 = .ok (.ireturn, 1) := by decide +kernel
theorem dX5_item_27 : decode cX5_item 27 = .ok (.aload_n 3, 1) := by decide +kernel
theorem dX5_item_28 : decode cX5_item 28 = .ok (.getfield 275, 3) := by decide +kernel
theorem dX5_item_31 : decode cX5_item 31 = .ok (.iconst 2, 1) := by decide +kernel
theorem dX5_item_32 : decode cX5_item 32 = .ok (.if_icmp .eq 6, 3) := by decide +kernel
theorem dX5_item_35 : decode cX5_item 35 = .ok (.ldc 121, 2) := by decide +kernel
theorem dX5_item_37 : decode cX5_item 37 = .ok (.ireturn, 1) := by decide +kernel
theorem dX5_item_38 : decode cX5_item 38 = .ok (.aload_n 3, 1) := by decide +kernel
theorem dX5_item_39 : decode cX5_item 39 = .ok (.getfield 284, 3) := by decide +kernel
theorem dX5_item_42 : decode cX5_item 42 = .ok (.iload_n 2, 1) := by decide +kernel
theorem dX5_item_43 : decode cX5_item 43 = .ok (.invokevirtual 252, 3) := by decide +kernel
theorem dX5_item_46 : decode cX5_item 46 = .ok (.ifCond .ne 6, 3) := by decide +kernel
theorem dX5_item_49 : decode cX5_item 49 = .ok (.ldc 255, 2) := by decide +kernel
theorem dX5_item_51 : decode cX5_item 51 = .ok (.ireturn, 1) := by decide +kernel
theorem dX5_item_52 : decode cX5_item 52 = .ok (.aload_n 3, 1) := by decide +kernel
theorem dX5_item_53 : decode cX5_item 53 = .ok (.getfield 284, 3) := by decide +kernel
theorem dX5_item_56 : decode cX5_item 56 = .ok (.iload_n 2, 1) := by decide +kernel
theorem dX5_item_57 : decode cX5_item 57 = .ok (.invokevirtual 210, 3) := by decide +kernel
theorem dX5_item_60 : decode cX5_item 60 = .ok (.ifCond .eq 15, 3) := by decide +kernel
theorem dX5_item_63 : decode cX5_item 63 = .ok (.aload_n 3, 1) := by decide +kernel
theorem dX5_item_64 : decode cX5_item 64 = .ok (.getfield 284, 3) := by decide +kernel
theorem dX5_item_67 : decode cX5_item 67 = .ok (.getfield 213, 3) := by decide +kernel
theorem dX5_item_70 : decode cX5_item 70 = .ok (.iload_n 2, 1) := by decide +kernel
theorem dX5_item_71 : decode cX5_item 71 = .ok (.iaload, 1) := by decide +kernel
theorem dX5_item_72 : decode cX5_item 72 = .ok (.goto 5, 3) := by decide +kernel
theorem dX5_item_75 : decode cX5_item 75 = .ok (.ldc 121, 2) := by decide +kernel
theorem dX5_item_77 : decode cX5_item 77 = .ok (.ireturn, 1) := by decide +kernel
theorem dX5_rest_0 : decode cX5_rest 0 = .ok (.iload_n 1, 1) := by decide +kernel
theorem dX5_rest_1 : decode cX5_rest 1 = .ok (.invokestatic 272, 3) := by decide +kernel
theorem dX5_rest_4 : decode cX5_rest 4 = .ok (.ifCond .ne 6, 3) := by decide +kernel
theorem dX5_rest_7 : decode cX5_rest 7 = .ok (.ldc 71, 2) := by decide +kernel
theorem dX5_rest_9 : decode cX5_rest 9 = .ok (.ireturn, 1) := by decide +kernel
theorem dX5_rest_10 : decode cX5_rest 10 = .ok (.aload_n 0, 1) := by decide +kernel
theorem dX5_rest_11 : decode cX5_rest 11 = .ok (.getfield 49, 3) := by decide +kernel
theorem dX5_rest_14 : decode cX5_rest 14 = .ok (.iload_n 1, 1) := by decide +kernel
theorem dX5_rest_15 : decode cX5_rest 15 = .ok (.aaload, 1) := by decide +kernel
theorem dX5_rest_16 : decode cX5_rest 16 = .ok (.astore_n 3, 1) := by decide +kernel
theorem dX5_rest_17 : decode cX5_rest 17 = .ok (.aload_n 3, 1) := by decide +kernel
theorem dX5_rest_18 : decode cX5_rest 18 = .ok (.getfield 275, 3) := by decide +kernel
theorem dX5_rest_21 : decode cX5_rest 21 = .ok (.ifCond .ne 6, 3) := by decide +kernel
theorem dX5_rest_24 : decode cX5_rest 24 = .ok (.ldc 202, 2) := by decide +kernel
theorem dX5_rest_26 : decode cX5_rest 26 = .ok (.ireturn, 1) := by decide +kernel
theorem dX5_rest_27 : decode cX5_rest 27 = .ok (.aload_n 3, 1) := by decide +kernel
theorem dX5_rest_28 : decode cX5_rest 28 = .ok (.getfield 275, 3) := by decide +kernel
theorem dX5_rest_31 : decode cX5_rest 31 = .ok (.iconst 3, 1) := by decide +kernel
theorem dX5_rest_32 : decode cX5_rest 32 = .ok (.if_icmp .eq 6, 3) := by decide +kernel
theorem dX5_rest_35 : decode cX5_rest 35 = .ok (.ldc 121, 2) := by decide +kernel
theorem dX5_rest_37 : decode cX5_rest 37 = .ok (.ireturn, 1) := by decide +kernel
theorem dX5_rest_38 : decode cX5_rest 38 = .ok (.iload_n 2, 1) := by decide +kernel
theorem dX5_rest_39 : decode cX5_rest 39 = .ok (.ifCond .ne 8, 3) := by decide +kernel
theorem dX5_rest_42 : decode cX5_rest 42 = .ok (.ldc 219, 2) := by decide +kernel
theorem dX5_rest_44 : decode cX5_rest 44 = .ok (.goto 9, 3) := by decide +kernel
theorem dX5_rest_47 : decode cX5_rest 47 = .ok (.aload_n 3, 1) := by decide +kernel
theorem dX5_rest_48 : decode cX5_rest 48 = .ok (.getfield 291, 3) := by decide +kernel
theorem dX5_rest_51 : decode cX5_rest 51 = .ok (.iload_n 2, 1) := by decide +kernel
theorem dX5_rest_52 : decode cX5_rest 52 = .ok (.irem, 1) := by decide +kernel
theorem dX5_rest_53 : decode cX5_rest 53 = .ok (.ireturn, 1) := by decide +kernel
theorem dX5_tell_0 : decode cX5_tell 0 = .ok (.aload_n 0, 1) := by decide +kernel
theorem dX5_tell_1 : decode cX5_tell 1 = .ok (.getfield 57, 3) := by decide +kernel
theorem dX5_tell_4 : decode cX5_tell 4 = .ok (.bipush 60, 2) := by decide +kernel
theorem dX5_tell_6 : decode cX5_tell 6 = .ok (.if_icmp .lt 6, 3) := by decide +kernel
theorem dX5_tell_9 : decode cX5_tell 9 = .ok (.ldc 79, 2) := by decide +kernel
theorem dX5_tell_11 : decode cX5_tell 11 = .ok (.ireturn, 1) := by decide +kernel
theorem dX5_tell_12 : decode cX5_tell 12 = .ok (.aload_n 0, 1) := by decide +kernel
theorem dX5_tell_13 : decode cX5_tell 13 = .ok (.getfield 53, 3) := by decide +kernel
theorem dX5_tell_16 : decode cX5_tell 16 = .ok (.aload_n 0, 1) := by decide +kernel
theorem dX5_tell_17 : decode cX5_tell 17 = .ok (.getfield 57, 3) := by decide +kernel
theorem dX5_tell_20 : decode cX5_tell 20 = .ok (.iload_n 1, 1) := by decide +kernel
theorem dX5_tell_21 : decode cX5_tell 21 = .ok (.iastore, 1) := by decide +kernel
theorem dX5_tell_22 : decode cX5_tell 22 = .ok (.aload_n 0, 1) := by decide +kernel
theorem dX5_tell_23 : decode cX5_tell 23 = .ok (.dup, 1) := by decide +kernel
theorem dX5_tell_24 : decode cX5_tell 24 = .ok (.getfield 57, 3) := by decide +kernel
theorem dX5_tell_27 : decode cX5_tell 27 = .ok (.iconst 1, 1) := by decide +kernel
theorem dX5_tell_28 : decode cX5_tell 28 = .ok (.iadd, 1) := by decide +kernel
theorem dX5_tell_29 : decode cX5_tell 29 = .ok (.putfield 57, 3) := by decide +kernel
theorem dX5_tell_32 : decode cX5_tell 32 = .ok (.aload_n 0, 1) := by decide +kernel
theorem dX5_tell_33 : decode cX5_tell 33 = .ok (.getfield 57, 3) := by decide +kernel
theorem dX5_tell_36 : decode cX5_tell 36 = .ok (.ireturn, 1) := by decide +kernel
theorem dX5_check_0 : decode cX5_check 0 = .ok (.iload_n 1, 1) := by decide +kernel
theorem dX5_check_1 : decode cX5_check 1 = .ok (.iconst 1, 1) := by decide +kernel
theorem dX5_check_2 : decode cX5_check 2 = .ok (.bipush 30, 2) := by decide +kernel
theorem dX5_check_4 : decode cX5_check 4 = .ok (.invokestatic 67, 3) := by decide +kernel
theorem dX5_check_7 : decode cX5_check 7 = .ok (.ifCond .ne 9, 3) := by decide +kernel
theorem dX5_check_10 : decode cX5_check 10 = .ok (.ldc 71, 2) := by decide +kernel
theorem dX5_check_12 : decode cX5_check 12 = .ok (.istore_n 2, 1) := by decide +kernel
theorem dX5_check_13 : decode cX5_check 13 = .ok (.goto 36, 3) := by decide +kernel
theorem dX5_check_16 : decode cX5_check 16 = .ok (.aload_n 0, 1) := by decide +kernel
theorem dX5_check_17 : decode cX5_check 17 = .ok (.getfield 61, 3) := by decide +kernel
theorem dX5_check_20 : decode cX5_check 20 = .ok (.ifCond .ne 9, 3) := by decide +kernel
theorem dX5_check_23 : decode cX5_check 23 = .ok (.ldc 219, 2) := by decide +kernel
theorem dX5_check_25 : decode cX5_check 25 = .ok (.istore_n 2, 1) := by decide +kernel
theorem dX5_check_26 : decode cX5_check 26 = .ok (.goto 23, 3) := by decide +kernel
theorem dX5_check_29 : decode cX5_check 29 = .ok (.aload_n 0, 1) := by decide +kernel
theorem dX5_check_30 : decode cX5_check 30 = .ok (.iload_n 1, 1) := by decide +kernel
theorem dX5_check_31 : decode cX5_check 31 = .ok (.sipush 9999, 3) := by decide +kernel
theorem dX5_check_34 : decode cX5_check 34 = .ok (.aload_n 0, 1) := by decide +kernel
theorem dX5_check_35 : decode cX5_check 35 = .ok (.getfield 25, 3) := by decide +kernel
theorem dX5_check_38 : decode cX5_check 38 = .ok (.getfield 144, 3) := by decide +kernel
theorem dX5_check_41 : decode cX5_check 41 = .ok (.isub, 1) := by decide +kernel
theorem dX5_check_42 : decode cX5_check 42 = .ok (.invokestatic 127, 3) := by decide +kernel
theorem dX5_check_45 : decode cX5_check 45 = .ok (.invokevirtual 294, 3) := by decide +kernel
theorem dX5_check_48 : decode cX5_check 48 = .ok (.istore_n 2, 1) := by decide +kernel
theorem dX5_check_49 : decode cX5_check 49 = .ok (.aload_n 0, 1) := by decide +kernel
theorem dX5_check_50 : decode cX5_check 50 = .ok (.iconst 0, 1) := by decide +kernel
theorem dX5_check_51 : decode cX5_check 51 = .ok (.putfield 57, 3) := by decide +kernel
theorem dX5_check_54 : decode cX5_check 54 = .ok (.iload_n 2, 1) := by decide +kernel
theorem dX5_check_55 : decode cX5_check 55 = .ok (.ireturn, 1) := by decide +kernel
theorem dX5_firstUntrue_0 : decode cX5_firstUntrue 0 = .ok (.aload_n 0, 1) := by decide +kernel
theorem dX5_firstUntrue_1 : decode cX5_firstUntrue 1 = .ok (.getfield 28, 3) := by decide +kernel
theorem dX5_firstUntrue_4 : decode cX5_firstUntrue 4 = .ok (.aload_n 0, 1) := by decide +kernel
theorem dX5_firstUntrue_5 : decode cX5_firstUntrue 5 = .ok (.getfield 25, 3) := by decide +kernel
theorem dX5_firstUntrue_8 : decode cX5_firstUntrue 8 = .ok (.invokevirtual 171, 3) := by decide +kernel
theorem dX5_firstUntrue_11 : decode cX5_firstUntrue 11 = .ok (.iconst 0, 1) := by decide +kernel
theorem dX5_firstUntrue_12 : decode cX5_firstUntrue 12 = .ok (.istore_n 2, 1) := by decide +kernel
theorem dX5_firstUntrue_13 : decode cX5_firstUntrue 13 = .ok (.iconst 0, 1) := by decide +kernel
theorem dX5_firstUntrue_14 : decode cX5_firstUntrue 14 = .ok (.istore_n 3, 1) := by decide +kernel
theorem dX5_firstUntrue_15 : decode cX5_firstUntrue 15 = .ok (.iload_n 3, 1) := by decide +kernel
theorem dX5_firstUntrue_16 : decode cX5_firstUntrue 16 = .ok (.iload_n 1, 1) := by decide +kernel
theorem dX5_firstUntrue_17 : decode cX5_firstUntrue 17 = .ok (.if_icmp .ge 59, 3) := by decide +kernel
theorem dX5_firstUntrue_20 : decode cX5_firstUntrue 20 = .ok (.aload_n 0, 1) := by decide +kernel
theorem dX5_firstUntrue_21 : decode cX5_firstUntrue 21 = .ok (.getfield 28, 3) := by decide +kernel
theorem dX5_firstUntrue_24 : decode cX5_firstUntrue 24 = .ok (.invokevirtual 192, 3) := by decide +kernel
theorem dX5_firstUntrue_27 : decode cX5_firstUntrue 27 = .ok (.aload_n 0, 1) := by decide +kernel
theorem dX5_firstUntrue_28 : decode cX5_firstUntrue 28 = .ok (.iload_n 2, 1) := by decide +kernel
theorem dX5_firstUntrue_29 : decode cX5_firstUntrue 29 = .ok (.aload_n 0, 1) := by decide +kernel
theorem dX5_firstUntrue_30 : decode cX5_firstUntrue 30 = .ok (.getfield 28, 3) := by decide +kernel
theorem dX5_firstUntrue_33 : decode cX5_firstUntrue 33 = .ok (.invokevirtual 151, 3) := by decide +kernel
theorem dX5_firstUntrue_36 : decode cX5_firstUntrue 36 = .ok (.invokevirtual 297, 3) := by decide +kernel
theorem dX5_firstUntrue_39 : decode cX5_firstUntrue 39 = .ok (.ifCond .ne 7, 3) := by decide +kernel
theorem dX5_firstUntrue_42 : decode cX5_firstUntrue 42 = .ok (.iconst 1, 1) := by decide +kernel
theorem dX5_firstUntrue_43 : decode cX5_firstUntrue 43 = .ok (.iload_n 2, 1) := by decide +kernel
theorem dX5_firstUntrue_44 : decode cX5_firstUntrue 44 = .ok (.iadd, 1) := by decide +kernel
theorem dX5_firstUntrue_45 : decode cX5_firstUntrue 45 = .ok (.ireturn, 1) := by decide +kernel
theorem dX5_firstUntrue_46 : decode cX5_firstUntrue 46 = .ok (.aload_n 0, 1) := by decide +kernel
theorem dX5_firstUntrue_47 : decode cX5_firstUntrue 47 = .ok (.iload_n 2, 1) := by decide +kernel
theorem dX5_firstUntrue_48 : decode cX5_firstUntrue 48 = .ok (.iconst 1, 1) := by decide +kernel
theorem dX5_firstUntrue_49 : decode cX5_firstUntrue 49 = .ok (.iadd, 1) := by decide +kernel
theorem dX5_firstUntrue_50 : decode cX5_firstUntrue 50 = .ok (.aload_n 0, 1) := by decide +kernel
theorem dX5_firstUntrue_51 : decode cX5_firstUntrue 51 = .ok (.getfield 28, 3) := by decide +kernel
theorem dX5_firstUntrue_54 : decode cX5_firstUntrue 54 = .ok (.invokevirtual 161, 3) := by decide +kernel
theorem dX5_firstUntrue_57 : decode cX5_firstUntrue 57 = .ok (.invokevirtual 297, 3) := by decide +kernel
theorem dX5_firstUntrue_60 : decode cX5_firstUntrue 60 = .ok (.ifCond .ne 7, 3) := by decide +kernel
theorem dX5_firstUntrue_63 : decode cX5_firstUntrue 63 = .ok (.iconst 2, 1) := by decide +kernel
theorem dX5_firstUntrue_64 : decode cX5_firstUntrue 64 = .ok (.iload_n 2, 1) := by decide +kernel
theorem dX5_firstUntrue_65 : decode cX5_firstUntrue 65 = .ok (.iadd, 1) := by decide +kernel
theorem dX5_firstUntrue_66 : decode cX5_firstUntrue 66 = .ok (.ireturn, 1) := by decide +kernel
theorem dX5_firstUntrue_67 : decode cX5_firstUntrue 67 = .ok (.iinc 2 2, 3) := by decide +kernel
theorem dX5_firstUntrue_70 : decode cX5_firstUntrue 70 = .ok (.iinc 3 1, 3) := by decide +kernel
theorem dX5_firstUntrue_73 : decode cX5_firstUntrue 73 = .ok (.goto (-58), 3) := by decide +kernel
theorem dX5_firstUntrue_76 : decode cX5_firstUntrue 76 = .ok (.iload_n 2, 1) := by decide +kernel
theorem dX5_firstUntrue_77 : decode cX5_firstUntrue 77 = .ok (.aload_n 0, 1) := by decide +kernel
theorem dX5_firstUntrue_78 : decode cX5_firstUntrue 78 = .ok (.getfield 57, 3) := by decide +kernel
theorem dX5_firstUntrue_81 : decode cX5_firstUntrue 81 = .ok (.if_icmp .ne 7, 3) := by decide +kernel
theorem dX5_firstUntrue_84 : decode cX5_firstUntrue 84 = .ok (.iconst 0, 1) := by decide +kernel
theorem dX5_firstUntrue_85 : decode cX5_firstUntrue 85 = .ok (.goto 6, 3) := by decide +kernel
theorem dX5_firstUntrue_88 : decode cX5_firstUntrue 88 = .ok (.iconst 1, 1) := by decide +kernel
theorem dX5_firstUntrue_89 : decode cX5_firstUntrue 89 = .ok (.iload_n 2, 1) := by decide +kernel
theorem dX5_firstUntrue_90 : decode cX5_firstUntrue 90 = .ok (.iadd, 1) := by decide +kernel
theorem dX5_firstUntrue_91 : decode cX5_firstUntrue 91 = .ok (.ireturn, 1) := by decide +kernel
theorem dX5_waitsAt_0 : decode cX5_waitsAt 0 = .ok (.iload_n 1, 1) := by decide +kernel
theorem dX5_waitsAt_1 : decode cX5_waitsAt 1 = .ok (.aload_n 0, 1) := by decide +kernel
theorem dX5_waitsAt_2 : decode cX5_waitsAt 2 = .ok (.getfield 57, 3) := by decide +kernel
theorem dX5_waitsAt_5 : decode cX5_waitsAt 5 = .ok (.if_icmp .ge 17, 3) := by decide +kernel
theorem dX5_waitsAt_8 : decode cX5_waitsAt 8 = .ok (.aload_n 0, 1) := by decide +kernel
theorem dX5_waitsAt_9 : decode cX5_waitsAt 9 = .ok (.getfield 53, 3) := by decide +kernel
theorem dX5_waitsAt_12 : decode cX5_waitsAt 12 = .ok (.iload_n 1, 1) := by decide +kernel
theorem dX5_waitsAt_13 : decode cX5_waitsAt 13 = .ok (.iaload, 1) := by decide +kernel
theorem dX5_waitsAt_14 : decode cX5_waitsAt 14 = .ok (.iload_n 2, 1) := by decide +kernel
theorem dX5_waitsAt_15 : decode cX5_waitsAt 15 = .ok (.if_icmp .ne 7, 3) := by decide +kernel
theorem dX5_waitsAt_18 : decode cX5_waitsAt 18 = .ok (.iconst 1, 1) := by decide +kernel
theorem dX5_waitsAt_19 : decode cX5_waitsAt 19 = .ok (.goto 4, 3) := by decide +kernel
theorem dX5_waitsAt_22 : decode cX5_waitsAt 22 = .ok (.iconst 0, 1) := by decide +kernel
theorem dX5_waitsAt_23 : decode cX5_waitsAt 23 = .ok (.ireturn, 1) := by decide +kernel
theorem dX5_keep_0 : decode cX5_keep 0 = .ok (.aload_n 0, 1) := by decide +kernel
theorem dX5_keep_1 : decode cX5_keep 1 = .ok (.getfield 25, 3) := by decide +kernel
theorem dX5_keep_4 : decode cX5_keep 4 = .ok (.aload_n 0, 1) := by decide +kernel
theorem dX5_keep_5 : decode cX5_keep 5 = .ok (.getfield 21, 3) := by decide +kernel
theorem dX5_keep_8 : decode cX5_keep 8 = .ok (.invokevirtual 171, 3) := by decide +kernel
theorem dX5_keep_11 : decode cX5_keep 11 = .ok (.aload_n 0, 1) := by decide +kernel
theorem dX5_keep_12 : decode cX5_keep 12 = .ok (.iconst 1, 1) := by decide +kernel
theorem dX5_keep_13 : decode cX5_keep 13 = .ok (.putfield 61, 3) := by decide +kernel
theorem dX5_keep_16 : decode cX5_keep 16 = .ok (.aload_n 0, 1) := by decide +kernel
theorem dX5_keep_17 : decode cX5_keep 17 = .ok (.getfield 21, 3) := by decide +kernel
theorem dX5_keep_20 : decode cX5_keep 20 = .ok (.getfield 72, 3) := by decide +kernel
theorem dX5_keep_23 : decode cX5_keep 23 = .ok (.ireturn, 1) := by decide +kernel
theorem dX5_back_0 : decode cX5_back 0 = .ok (.aload_n 0, 1) := by decide +kernel
theorem dX5_back_1 : decode cX5_back 1 = .ok (.getfield 61, 3) := by decide +kernel
theorem dX5_back_4 : decode cX5_back 4 = .ok (.ifCond .ne 6, 3) := by decide +kernel
theorem dX5_back_7 : decode cX5_back 7 = .ok (.ldc 219, 2) := by decide +kernel
theorem dX5_back_9 : decode cX5_back 9 = .ok (.ireturn, 1) := by decide +kernel
theorem dX5_back_10 : decode cX5_back 10 = .ok (.aload_n 0, 1) := by decide +kernel
theorem dX5_back_11 : decode cX5_back 11 = .ok (.getfield 21, 3) := by decide +kernel
theorem dX5_back_14 : decode cX5_back 14 = .ok (.aload_n 0, 1) := by decide +kernel
theorem dX5_back_15 : decode cX5_back 15 = .ok (.getfield 25, 3) := by decide +kernel
theorem dX5_back_18 : decode cX5_back 18 = .ok (.invokevirtual 171, 3) := by decide +kernel
theorem dX5_back_21 : decode cX5_back 21 = .ok (.aload_n 0, 1) := by decide +kernel
theorem dX5_back_22 : decode cX5_back 22 = .ok (.getfield 21, 3) := by decide +kernel
theorem dX5_back_25 : decode cX5_back 25 = .ok (.getfield 72, 3) := by decide +kernel
theorem dX5_back_28 : decode cX5_back 28 = .ok (.ireturn, 1) := by decide +kernel
theorem dX5_count_0 : decode cX5_count 0 = .ok (.iload_n 1, 1) := by decide +kernel
theorem dX5_count_1 : decode cX5_count 1 = .ok (.tableswitch 108 0 7 #[47, 55, 63, 71, 79, 87, 92, 100], 47) := by decide +kernel
theorem dX5_count_48 : decode cX5_count 48 = .ok (.aload_n 0, 1) := by decide +kernel
theorem dX5_count_49 : decode cX5_count 49 = .ok (.getfield 21, 3) := by decide +kernel
theorem dX5_count_52 : decode cX5_count 52 = .ok (.getfield 72, 3) := by decide +kernel
theorem dX5_count_55 : decode cX5_count 55 = .ok (.ireturn, 1) := by decide +kernel
theorem dX5_count_56 : decode cX5_count 56 = .ok (.aload_n 0, 1) := by decide +kernel
theorem dX5_count_57 : decode cX5_count 57 = .ok (.getfield 21, 3) := by decide +kernel
theorem dX5_count_60 : decode cX5_count 60 = .ok (.getfield 144, 3) := by decide +kernel
theorem dX5_count_63 : decode cX5_count 63 = .ok (.ireturn, 1) := by decide +kernel
theorem dX5_count_64 : decode cX5_count 64 = .ok (.aload_n 0, 1) := by decide +kernel
theorem dX5_count_65 : decode cX5_count 65 = .ok (.getfield 21, 3) := by decide +kernel
theorem dX5_count_68 : decode cX5_count 68 = .ok (.getfield 138, 3) := by decide +kernel
theorem dX5_count_71 : decode cX5_count 71 = .ok (.ireturn, 1) := by decide +kernel
theorem dX5_count_72 : decode cX5_count 72 = .ok (.aload_n 0, 1) := by decide +kernel
theorem dX5_count_73 : decode cX5_count 73 = .ok (.getfield 21, 3) := by decide +kernel
theorem dX5_count_76 : decode cX5_count 76 = .ok (.getfield 141, 3) := by decide +kernel
theorem dX5_count_79 : decode cX5_count 79 = .ok (.ireturn, 1) := by decide +kernel
theorem dX5_count_80 : decode cX5_count 80 = .ok (.aload_n 0, 1) := by decide +kernel
theorem dX5_count_81 : decode cX5_count 81 = .ok (.getfield 21, 3) := by decide +kernel
theorem dX5_count_84 : decode cX5_count 84 = .ok (.getfield 232, 3) := by decide +kernel
theorem dX5_count_87 : decode cX5_count 87 = .ok (.ireturn, 1) := by decide +kernel
theorem dX5_count_88 : decode cX5_count 88 = .ok (.aload_n 0, 1) := by decide +kernel
theorem dX5_count_89 : decode cX5_count 89 = .ok (.getfield 57, 3) := by decide +kernel
theorem dX5_count_92 : decode cX5_count 92 = .ok (.ireturn, 1) := by decide +kernel
theorem dX5_count_93 : decode cX5_count 93 = .ok (.aload_n 0, 1) := by decide +kernel
theorem dX5_count_94 : decode cX5_count 94 = .ok (.getfield 37, 3) := by decide +kernel
theorem dX5_count_97 : decode cX5_count 97 = .ok (.getfield 220, 3) := by decide +kernel
theorem dX5_count_100 : decode cX5_count 100 = .ok (.ireturn, 1) := by decide +kernel
theorem dX5_count_101 : decode cX5_count 101 = .ok (.aload_n 0, 1) := by decide +kernel
theorem dX5_count_102 : decode cX5_count 102 = .ok (.getfield 21, 3) := by decide +kernel
theorem dX5_count_105 : decode cX5_count 105 = .ok (.getfield 135, 3) := by decide +kernel
theorem dX5_count_108 : decode cX5_count 108 = .ok (.ireturn, 1) := by decide +kernel
theorem dX5_count_109 : decode cX5_count 109 = .ok (.ldc 71, 2) := by decide +kernel
theorem dX5_count_111 : decode cX5_count 111 = .ok (.ireturn, 1) := by decide +kernel
theorem dX5_within_0 : decode cX5_within 0 = .ok (.iload_n 0, 1) := by decide +kernel
theorem dX5_within_1 : decode cX5_within 1 = .ok (.iload_n 1, 1) := by decide +kernel
theorem dX5_within_2 : decode cX5_within 2 = .ok (.if_icmp .lt 12, 3) := by decide +kernel
theorem dX5_within_5 : decode cX5_within 5 = .ok (.iload_n 0, 1) := by decide +kernel
theorem dX5_within_6 : decode cX5_within 6 = .ok (.iload_n 2, 1) := by decide +kernel
theorem dX5_within_7 : decode cX5_within 7 = .ok (.if_icmp .gt 7, 3) := by decide +kernel
theorem dX5_within_10 : decode cX5_within 10 = .ok (.iconst 1, 1) := by decide +kernel
theorem dX5_within_11 : decode cX5_within 11 = .ok (.goto 4, 3) := by decide +kernel
theorem dX5_within_14 : decode cX5_within 14 = .ok (.iconst 0, 1) := by decide +kernel
theorem dX5_within_15 : decode cX5_within 15 = .ok (.ireturn, 1) := by decide +kernel
theorem dX5_held_0 : decode cX5_held 0 = .ok (.iconst 0, 1) := by decide +kernel
theorem dX5_held_1 : decode cX5_held 1 = .ok (.iload_n 0, 1) := by decide +kernel
theorem dX5_held_2 : decode cX5_held 2 = .ok (.iload_n 1, 1) := by decide +kernel
theorem dX5_held_3 : decode cX5_held 3 = .ok (.invokestatic 127, 3) := by decide +kernel
theorem dX5_held_6 : decode cX5_held 6 = .ok (.invokestatic 300, 3) := by decide +kernel
theorem dX5_held_9 : decode cX5_held 9 = .ok (.ireturn, 1) := by decide +kernel
theorem dX5_isSheet_0 : decode cX5_isSheet 0 = .ok (.iload_n 0, 1) := by decide +kernel
theorem dX5_isSheet_1 : decode cX5_isSheet 1 = .ok (.iconst 0, 1) := by decide +kernel
theorem dX5_isSheet_2 : decode cX5_isSheet 2 = .ok (.iconst 3, 1) := by decide +kernel
theorem dX5_isSheet_3 : decode cX5_isSheet 3 = .ok (.invokestatic 67, 3) := by decide +kernel
theorem dX5_isSheet_6 : decode cX5_isSheet 6 = .ok (.ireturn, 1) := by decide +kernel
theorem dX5_isSlot_0 : decode cX5_isSlot 0 = .ok (.iload_n 0, 1) := by decide +kernel
theorem dX5_isSlot_1 : decode cX5_isSlot 1 = .ok (.iconst 0, 1) := by decide +kernel
theorem dX5_isSlot_2 : decode cX5_isSlot 2 = .ok (.iconst 4, 1) := by decide +kernel
theorem dX5_isSlot_3 : decode cX5_isSlot 3 = .ok (.invokestatic 67, 3) := by decide +kernel
theorem dX5_isSlot_6 : decode cX5_isSlot 6 = .ok (.ireturn, 1) := by decide +kernel
theorem dX5_exchange_0 : decode cX5_exchange 0 = .ok (.aload_n 0, 1) := by decide +kernel
theorem dX5_exchange_1 : decode cX5_exchange 1 = .ok (.iload_n 1, 1) := by decide +kernel
theorem dX5_exchange_2 : decode cX5_exchange 2 = .ok (.iaload, 1) := by decide +kernel
theorem dX5_exchange_3 : decode cX5_exchange 3 = .ok (.istore_n 3, 1) := by decide +kernel
theorem dX5_exchange_4 : decode cX5_exchange 4 = .ok (.aload_n 0, 1) := by decide +kernel
theorem dX5_exchange_5 : decode cX5_exchange 5 = .ok (.iload_n 1, 1) := by decide +kernel
theorem dX5_exchange_6 : decode cX5_exchange 6 = .ok (.iload_n 2, 1) := by decide +kernel
theorem dX5_exchange_7 : decode cX5_exchange 7 = .ok (.iastore, 1) := by decide +kernel
theorem dX5_exchange_8 : decode cX5_exchange 8 = .ok (.iload_n 3, 1) := by decide +kernel
theorem dX5_exchange_9 : decode cX5_exchange 9 = .ok (.ireturn, 1) := by decide +kernel
theorem dX5_isOfKind_0 : decode cX5_isOfKind 0 = .ok (.iload_n 0, 1) := by decide +kernel
theorem dX5_isOfKind_1 : decode cX5_isOfKind 1 = .ok (.istore_n 2, 1) := by decide +kernel
theorem dX5_isOfKind_2 : decode cX5_isOfKind 2 = .ok (.iconst 0, 1) := by decide +kernel
theorem dX5_isOfKind_3 : decode cX5_isOfKind 3 = .ok (.istore_n 3, 1) := by decide +kernel
theorem dX5_isOfKind_4 : decode cX5_isOfKind 4 = .ok (.iload_n 3, 1) := by decide +kernel
theorem dX5_isOfKind_5 : decode cX5_isOfKind 5 = .ok (.bipush 6, 2) := by decide +kernel
theorem dX5_isOfKind_7 : decode cX5_isOfKind 7 = .ok (.if_icmp .ge 31, 3) := by decide +kernel
theorem dX5_isOfKind_10 : decode cX5_isOfKind 10 = .ok (.iload_n 2, 1) := by decide +kernel
theorem dX5_isOfKind_11 : decode cX5_isOfKind 11 = .ok (.iconst 0, 1) := by decide +kernel
theorem dX5_isOfKind_12 : decode cX5_isOfKind 12 = .ok (.iconst 5, 1) := by decide +kernel
theorem dX5_isOfKind_13 : decode cX5_isOfKind 13 = .ok (.invokestatic 67, 3) := by decide +kernel
theorem dX5_isOfKind_16 : decode cX5_isOfKind 16 = .ok (.ifCond .eq 22, 3) := by decide +kernel
theorem dX5_isOfKind_19 : decode cX5_isOfKind 19 = .ok (.iload_n 2, 1) := by decide +kernel
theorem dX5_isOfKind_20 : decode cX5_isOfKind 20 = .ok (.iload_n 1, 1) := by decide +kernel
theorem dX5_isOfKind_21 : decode cX5_isOfKind 21 = .ok (.if_icmp .ne 5, 3) := by decide +kernel
theorem dX5_isOfKind_24 : decode cX5_isOfKind 24 = .ok (.iconst 1, 1) := by decide +kernel
theorem dX5_isOfKind_25 : decode cX5_isOfKind 25 = .ok (.ireturn, 1) := by decide +kernel
theorem dX5_isOfKind_26 : decode cX5_isOfKind 26 = .ok (.getstatic 303, 3) := by decide +kernel
theorem dX5_isOfKind_29 : decode cX5_isOfKind 29 = .ok (.iload_n 2, 1) := by decide +kernel
theorem dX5_isOfKind_30 : decode cX5_isOfKind 30 = .ok (.iaload, 1) := by decide +kernel
theorem dX5_isOfKind_31 : decode cX5_isOfKind 31 = .ok (.istore_n 2, 1) := by decide +kernel
theorem dX5_isOfKind_32 : decode cX5_isOfKind 32 = .ok (.iinc 3 1, 3) := by decide +kernel
theorem dX5_isOfKind_35 : decode cX5_isOfKind 35 = .ok (.goto (-31), 3) := by decide +kernel
theorem dX5_isOfKind_38 : decode cX5_isOfKind 38 = .ok (.iconst 0, 1) := by decide +kernel
theorem dX5_isOfKind_39 : decode cX5_isOfKind 39 = .ok (.ireturn, 1) := by decide +kernel
theorem dX5_worthOf_0 : decode cX5_worthOf 0 = .ok (.iload_n 0, 1) := by decide +kernel
theorem dX5_worthOf_1 : decode cX5_worthOf 1 = .ok (.tableswitch 62 1 5 #[35, 47, 40, 52, 59], 35) := by decide +kernel
theorem dX5_worthOf_36 : decode cX5_worthOf 36 = .ok (.iload_n 1, 1) := by decide +kernel
theorem dX5_worthOf_37 : decode cX5_worthOf 37 = .ok (.bipush 9, 2) := by decide +kernel
theorem dX5_worthOf_39 : decode cX5_worthOf 39 = .ok (.iadd, 1) := by decide +kernel
theorem dX5_worthOf_40 : decode cX5_worthOf 40 = .ok (.ireturn, 1) := by decide +kernel
theorem dX5_worthOf_41 : decode cX5_worthOf 41 = .ok (.iconst 2, 1) := by decide +kernel
theorem dX5_worthOf_42 : decode cX5_worthOf 42 = .ok (.iload_n 1, 1) := by decide +kernel
theorem dX5_worthOf_43 : decode cX5_worthOf 43 = .ok (.bipush 9, 2) := by decide +kernel
theorem dX5_worthOf_45 : decode cX5_worthOf 45 = .ok (.iadd, 1) := by decide +kernel
theorem dX5_worthOf_46 : decode cX5_worthOf 46 = .ok (.imul, 1) := by decide +kernel
theorem dX5_worthOf_47 : decode cX5_worthOf 47 = .ok (.ireturn, 1) := by decide +kernel
theorem dX5_worthOf_48 : decode cX5_worthOf 48 = .ok (.bipush 40, 2) := by decide +kernel
theorem dX5_worthOf_50 : decode cX5_worthOf 50 = .ok (.iload_n 1, 1) := by decide +kernel
theorem dX5_worthOf_51 : decode cX5_worthOf 51 = .ok (.isub, 1) := by decide +kernel
theorem dX5_worthOf_52 : decode cX5_worthOf 52 = .ok (.ireturn, 1) := by decide +kernel
theorem dX5_worthOf_53 : decode cX5_worthOf 53 = .ok (.bipush 40, 2) := by decide +kernel
theorem dX5_worthOf_55 : decode cX5_worthOf 55 = .ok (.iload_n 1, 1) := by decide +kernel
theorem dX5_worthOf_56 : decode cX5_worthOf 56 = .ok (.isub, 1) := by decide +kernel
theorem dX5_worthOf_57 : decode cX5_worthOf 57 = .ok (.iconst 3, 1) := by decide +kernel
theorem dX5_worthOf_58 : decode cX5_worthOf 58 = .ok (.isub, 1) := by decide +kernel
theorem dX5_worthOf_59 : decode cX5_worthOf 59 = .ok (.ireturn, 1) := by decide +kernel
theorem dX5_worthOf_60 : decode cX5_worthOf 60 = .ok (.bipush 60, 2) := by decide +kernel
theorem dX5_worthOf_62 : decode cX5_worthOf 62 = .ok (.ireturn, 1) := by decide +kernel
theorem dX5_worthOf_63 : decode cX5_worthOf 63 = .ok (.iload_n 1, 1) := by decide +kernel
theorem dX5_worthOf_64 : decode cX5_worthOf 64 = .ok (.ireturn, 1) := by decide +kernel
theorem dX6_init_0 : decode cX6_init 0 = .ok (.aload_n 0, 1) := by decide +kernel
theorem dX6_init_1 : decode cX6_init 1 = .ok (.invokespecial 1, 3) := by decide +kernel
theorem dX6_init_4 : decode cX6_init 4 = .ok (.aload_n 0, 1) := by decide +kernel
theorem dX6_init_5 : decode cX6_init 5 = .ok (.sipush 1412, 3) := by decide +kernel
theorem dX6_init_8 : decode cX6_init 8 = .ok (.newarray .int, 2) := by decide +kernel
theorem dX6_init_10 : decode cX6_init 10 = .ok (.putfield 9, 3) := by decide +kernel
theorem dX6_init_13 : decode cX6_init 13 = .ok (.aload_n 0, 1) := by decide +kernel
theorem dX6_init_14 : decode cX6_init 14 = .ok (.sipush 1412, 3) := by decide +kernel
theorem dX6_init_17 : decode cX6_init 17 = .ok (.newarray .int, 2) := by decide +kernel
theorem dX6_init_19 : decode cX6_init 19 = .ok (.putfield 13, 3) := by decide +kernel
theorem dX6_init_22 : decode cX6_init 22 = .ok (.aload_n 0, 1) := by decide +kernel
theorem dX6_init_23 : decode cX6_init 23 = .ok (.sipush 1412, 3) := by decide +kernel
theorem dX6_init_26 : decode cX6_init 26 = .ok (.newarray .int, 2) := by decide +kernel
theorem dX6_init_28 : decode cX6_init 28 = .ok (.putfield 16, 3) := by decide +kernel
theorem dX6_init_31 : decode cX6_init 31 = .ok (.aload_n 0, 1) := by decide +kernel
theorem dX6_init_32 : decode cX6_init 32 = .ok (.bipush 40, 2) := by decide +kernel
theorem dX6_init_34 : decode cX6_init 34 = .ok (.newarray .int, 2) := by decide +kernel
theorem dX6_init_36 : decode cX6_init 36 = .ok (.putfield 19, 3) := by decide +kernel
theorem dX6_init_39 : decode cX6_init 39 = .ok (.aload_n 0, 1) := by decide +kernel
theorem dX6_init_40 : decode cX6_init 40 = .ok (.iconst 3, 1) := by decide +kernel
theorem dX6_init_41 : decode cX6_init 41 = .ok (.newarray .int, 2) := by decide +kernel
theorem dX6_init_43 : decode cX6_init 43 = .ok (.putfield 22, 3) := by decide +kernel
theorem dX6_init_46 : decode cX6_init 46 = .ok (.aload_n 0, 1) := by decide +kernel
theorem dX6_init_47 : decode cX6_init 47 = .ok (.sipush 201, 3) := by decide +kernel
theorem dX6_init_50 : decode cX6_init 50 = .ok (.newarray .int, 2) := by decide +kernel
theorem dX6_init_52 : decode cX6_init 52 = .ok (.putfield 25, 3) := by decide +kernel
theorem dX6_init_55 : decode cX6_init 55 = .ok (.aload_n 0, 1) := by decide +kernel
theorem dX6_init_56 : decode cX6_init 56 = .ok (.bipush 96, 2) := by decide +kernel
theorem dX6_init_58 : decode cX6_init 58 = .ok (.newarray .int, 2) := by decide +kernel
theorem dX6_init_60 : decode cX6_init 60 = .ok (.putfield 28, 3) := by decide +kernel
theorem dX6_init_63 : decode cX6_init 63 = .ok (.aload_n 0, 1) := by decide +kernel
theorem dX6_init_64 : decode cX6_init 64 = .ok (.bipush 11, 2) := by decide +kernel
theorem dX6_init_66 : decode cX6_init 66 = .ok (.newarray .char, 2) := by decide +kernel
theorem dX6_init_68 : decode cX6_init 68 = .ok (.dup, 1) := by decide +kernel
theorem dX6_init_69 : decode cX6_init 69 = .ok (.iconst 0, 1) := by decide +kernel
theorem dX6_init_70 : decode cX6_init 70 = .ok (.bipush 102, 2) := by decide +kernel
theorem dX6_init_72 : decode cX6_init 72 = .ok (.castore, 1) := by decide +kernel
theorem dX6_init_73 : decode cX6_init 73 = .ok (.dup, 1) := by decide +kernel
theorem dX6_init_74 : decode cX6_init 74 = .ok (.iconst 1, 1) := by decide +kernel
theorem dX6_init_75 : decode cX6_init 75 = .ok (.bipush 97, 2) := by decide +kernel
theorem dX6_init_77 : decode cX6_init 77 = .ok (.castore, 1) := by decide +kernel
theorem dX6_init_78 : decode cX6_init 78 = .ok (.dup, 1) := by decide +kernel
theorem dX6_init_79 : decode cX6_init 79 = .ok (.iconst 2, 1) := by decide +kernel
theorem dX6_init_80 : decode cX6_init 80 = .ok (.bipush 100, 2) := by decide +kernel
theorem dX6_init_82 : decode cX6_init 82 = .ok (.castore, 1) := by decide +kernel
theorem dX6_init_83 : decode cX6_init 83 = .ok (.dup, 1) := by decide +kernel
theorem dX6_init_84 : decode cX6_init 84 = .ok (.iconst 3, 1) := by decide +kernel
theorem dX6_init_85 : decode cX6_init 85 = .ok (.bipush 101, 2) := by decide +kernel
theorem dX6_init_87 : decode cX6_init 87 = .ok (.castore, 1) := by decide +kernel
theorem dX6_init_88 : decode cX6_init 88 = .ok (.dup, 1) := by decide +kernel
theorem dX6_init_89 : decode cX6_init 89 = .ok (.iconst 4, 1) := by decide +kernel
theorem dX6_init_90 : decode cX6_init 90 = .ok (.bipush 98, 2) := by decide +kernel
theorem dX6_init_92 : decode cX6_init 92 = .ok (.castore, 1) := by decide +kernel
theorem dX6_init_93 : decode cX6_init 93 = .ok (.dup, 1) := by decide +kernel
theorem dX6_init_94 : decode cX6_init 94 = .ok (.iconst 5, 1) := by decide +kernel
theorem dX6_init_95 : decode cX6_init 95 = .ok (.bipush 105, 2) := by decide +kernel
theorem dX6_init_97 : decode cX6_init 97 = .ok (.castore, 1) := by decide +kernel
theorem dX6_init_98 : decode cX6_init 98 = .ok (.dup, 1) := by decide +kernel
theorem dX6_init_99 : decode cX6_init 99 = .ok (.bipush 6, 2) := by decide +kernel
theorem dX6_init_101 : decode cX6_init 101 = .ok (.bipush 108, 2) := by decide +kernel
theorem dX6_init_103 : decode cX6_init 103 = .ok (.castore, 1) := by decide +kernel
theorem dX6_init_104 : decode cX6_init 104 = .ok (.dup, 1) := by decide +kernel
theorem dX6_init_105 : decode cX6_init 105 = .ok (.bipush 7, 2) := by decide +kernel
theorem dX6_init_107 : decode cX6_init 107 = .ok (.bipush 108, 2) := by decide +kernel
theorem dX6_init_109 : decode cX6_init 109 = .ok (.castore, 1) := by decide +kernel
theorem dX6_init_110 : decode cX6_init 110 = .ok (.dup, 1) := by decide +kernel
theorem dX6_init_111 : decode cX6_init 111 = .ok (.bipush 8, 2) := by decide +kernel
theorem dX6_init_113 : decode cX6_init 113 = .ok (.bipush 108, 2) := by decide +kernel
theorem dX6_init_115 : decode cX6_init 115 = .ok (.castore, 1) := by decide +kernel
theorem dX6_init_116 : decode cX6_init 116 = .ok (.dup, 1) := by decide +kernel
theorem dX6_init_117 : decode cX6_init 117 = .ok (.bipush 9, 2) := by decide +kernel
theorem dX6_init_119 : decode cX6_init 119 = .ok (.bipush 111, 2) := by decide +kernel
theorem dX6_init_121 : decode cX6_init 121 = .ok (.castore, 1) := by decide +kernel
theorem dX6_init_122 : decode cX6_init 122 = .ok (.dup, 1) := by decide +kernel
theorem dX6_init_123 : decode cX6_init 123 = .ok (.bipush 10, 2) := by decide +kernel
theorem dX6_init_125 : decode cX6_init 125 = .ok (.bipush 116, 2) := by decide +kernel
theorem dX6_init_127 : decode cX6_init 127 = .ok (.castore, 1) := by decide +kernel
theorem dX6_init_128 : decode cX6_init 128 = .ok (.putfield 31, 3) := by decide +kernel
theorem dX6_init_131 : decode cX6_init 131 = .ok (.aload_n 0, 1) := by decide +kernel
theorem dX6_init_132 : decode cX6_init 132 = .ok (.iconst 4, 1) := by decide +kernel
theorem dX6_init_133 : decode cX6_init 133 = .ok (.newarray .int, 2) := by decide +kernel
theorem dX6_init_135 : decode cX6_init 135 = .ok (.dup, 1) := by decide +kernel
theorem dX6_init_136 : decode cX6_init 136 = .ok (.iconst 0, 1) := by decide +kernel
theorem dX6_init_137 : decode cX6_init 137 = .ok (.iconst 0, 1) := by decide +kernel
theorem dX6_init_138 : decode cX6_init 138 = .ok (.iastore, 1) := by decide +kernel
theorem dX6_init_139 : decode cX6_init 139 = .ok (.dup, 1) := by decide +kernel
theorem dX6_init_140 : decode cX6_init 140 = .ok (.iconst 1, 1) := by decide +kernel
theorem dX6_init_141 : decode cX6_init 141 = .ok (.iconst 4, 1) := by decide +kernel
theorem dX6_init_142 : decode cX6_init 142 = .ok (.iastore, 1) := by decide +kernel
theorem dX6_init_143 : decode cX6_init 143 = .ok (.dup, 1) := by decide +kernel
theorem dX6_init_144 : decode cX6_init 144 = .ok (.iconst 2, 1) := by decide +kernel
theorem dX6_init_145 : decode cX6_init 145 = .ok (.bipush 8, 2) := by decide +kernel
theorem dX6_init_147 : decode cX6_init 147 = .ok (.iastore, 1) := by decide +kernel
theorem dX6_init_148 : decode cX6_init 148 = .ok (.dup, 1) := by decide +kernel
theorem dX6_init_149 : decode cX6_init 149 = .ok (.iconst 3, 1) := by decide +kernel
theorem dX6_init_150 : decode cX6_init 150 = .ok (.bipush 11, 2) := by decide +kernel
theorem dX6_init_152 : decode cX6_init 152 = .ok (.iastore, 1) := by decide +kernel
theorem dX6_init_153 : decode cX6_init 153 = .ok (.putfield 35, 3) := by decide +kernel
theorem dX6_init_156 : decode cX6_init 156 = .ok (.aload_n 0, 1) := by decide +kernel
theorem dX6_init_157 : decode cX6_init 157 = .ok (.bipush 96, 2) := by decide +kernel
theorem dX6_init_159 : decode cX6_init 159 = .ok (.newarray .int, 2) := by decide +kernel
theorem dX6_init_161 : decode cX6_init 161 = .ok (.putfield 38, 3) := by decide +kernel
theorem dX6_init_164 : decode cX6_init 164 = .ok (.aload_n 0, 1) := by decide +kernel
theorem dX6_init_165 : decode cX6_init 165 = .ok (.bipush 96, 2) := by decide +kernel
theorem dX6_init_167 : decode cX6_init 167 = .ok (.newarray .int, 2) := by decide +kernel
theorem dX6_init_169 : decode cX6_init 169 = .ok (.putfield 41, 3) := by decide +kernel
theorem dX6_init_172 : decode cX6_init 172 = .ok (.aload_n 0, 1) := by decide +kernel
theorem dX6_init_173 : decode cX6_init 173 = .ok (.bipush 10, 2) := by decide +kernel
theorem dX6_init_175 : decode cX6_init 175 = .ok (.newarray .boolean, 2) := by decide +kernel
theorem dX6_init_177 : decode cX6_init 177 = .ok (.putfield 44, 3) := by decide +kernel
theorem dX6_init_180 : decode cX6_init 180 = .ok (.aload_n 0, 1) := by decide +kernel
theorem dX6_init_181 : decode cX6_init 181 = .ok (.bipush 96, 2) := by decide +kernel
theorem dX6_init_183 : decode cX6_init 183 = .ok (.newarray .int, 2) := by decide +kernel
theorem dX6_init_185 : decode cX6_init 185 = .ok (.putfield 48, 3) := by decide +kernel
theorem dX6_init_188 : decode cX6_init 188 = .ok (.aload_n 0, 1) := by decide +kernel
theorem dX6_init_189 : decode cX6_init 189 = .ok (.iconst 4, 1) := by decide +kernel
theorem dX6_init_190 : decode cX6_init 190 = .ok (.newarray .int, 2) := by decide +kernel
theorem dX6_init_192 : decode cX6_init 192 = .ok (.putfield 51, 3) := by decide +kernel
theorem dX6_init_195 : decode cX6_init 195 = .ok (.aload_n 0, 1) := by decide +kernel
theorem dX6_init_196 : decode cX6_init 196 = .ok (.iconst 4, 1) := by decide +kernel
theorem dX6_init_197 : decode cX6_init 197 = .ok (.newarray .int, 2) := by decide +kernel
theorem dX6_init_199 : decode cX6_init 199 = .ok (.dup, 1) := by decide +kernel
theorem dX6_init_200 : decode cX6_init 200 = .ok (.iconst 0, 1) := by decide +kernel
theorem dX6_init_201 : decode cX6_init 201 = .ok (.iconst (-1), 1) := by decide +kernel
theorem dX6_init_202 : decode cX6_init 202 = .ok (.iastore, 1) := by decide +kernel
theorem dX6_init_203 : decode cX6_init 203 = .ok (.dup, 1) := by decide +kernel
theorem dX6_init_204 : decode cX6_init 204 = .ok (.iconst 1, 1) := by decide +kernel
theorem dX6_init_205 : decode cX6_init 205 = .ok (.iconst (-1), 1) := by decide +kernel
theorem dX6_init_206 : decode cX6_init 206 = .ok (.iastore, 1) := by decide +kernel
theorem dX6_init_207 : decode cX6_init 207 = .ok (.dup, 1) := by decide +kernel
theorem dX6_init_208 : decode cX6_init 208 = .ok (.iconst 2, 1) := by decide +kernel
theorem dX6_init_209 : decode cX6_init 209 = .ok (.iconst (-1), 1) := by decide +kernel
theorem dX6_init_210 : decode cX6_init 210 = .ok (.iastore, 1) := by decide +kernel
theorem dX6_init_211 : decode cX6_init 211 = .ok (.dup, 1) := by decide +kernel
theorem dX6_init_212 : decode cX6_init 212 = .ok (.iconst 3, 1) := by decide +kernel
theorem dX6_init_213 : decode cX6_init 213 = .ok (.iconst (-1), 1) := by decide +kernel
theorem dX6_init_214 : decode cX6_init 214 = .ok (.iastore, 1) := by decide +kernel
theorem dX6_init_215 : decode cX6_init 215 = .ok (.putfield 54, 3) := by decide +kernel
theorem dX6_init_218 : decode cX6_init 218 = .ok (.aload_n 0, 1) := by decide +kernel
theorem dX6_init_219 : decode cX6_init 219 = .ok (.iconst 4, 1) := by decide +kernel
theorem dX6_init_220 : decode cX6_init 220 = .ok (.newarray .int, 2) := by decide +kernel
theorem dX6_init_222 : decode cX6_init 222 = .ok (.putfield 57, 3) := by decide +kernel
theorem dX6_init_225 : decode cX6_init 225 = .ok (.aload_n 0, 1) := by decide +kernel
theorem dX6_init_226 : decode cX6_init 226 = .ok (.bipush 96, 2) := by decide +kernel
theorem dX6_init_228 : decode cX6_init 228 = .ok (.newarray .int, 2) := by decide +kernel
theorem dX6_init_230 : decode cX6_init 230 = .ok (.putfield 60, 3) := by decide +kernel
theorem dX6_init_233 : decode cX6_init 233 = .ok (.aload_n 0, 1) := by decide +kernel
theorem dX6_init_234 : decode cX6_init 234 = .ok (.iconst 5, 1) := by decide +kernel
theorem dX6_init_235 : decode cX6_init 235 = .ok (.newarray .int, 2) := by decide +kernel
theorem dX6_init_237 : decode cX6_init 237 = .ok (.putfield 63, 3) := by decide +kernel
theorem dX6_init_240 : decode cX6_init 240 = .ok (.aload_n 0, 1) := by decide +kernel
theorem dX6_init_241 : decode cX6_init 241 = .ok (.iconst 5, 1) := by decide +kernel
theorem dX6_init_242 : decode cX6_init 242 = .ok (.newarray .int, 2) := by decide +kernel
theorem dX6_init_244 : decode cX6_init 244 = .ok (.putfield 66, 3) := by decide +kernel
theorem dX6_init_247 : decode cX6_init 247 = .ok (.aload_n 0, 1) := by decide +kernel
theorem dX6_init_248 : decode cX6_init 248 = .ok (.iconst 5, 1) := by decide +kernel
theorem dX6_init_249 : decode cX6_init 249 = .ok (.newarray .int, 2) := by decide +kernel
theorem dX6_init_251 : decode cX6_init 251 = .ok (.putfield 69, 3) := by decide +kernel
theorem dX6_init_254 : decode cX6_init 254 = .ok (.aload_n 0, 1) := by decide +kernel
theorem dX6_init_255 : decode cX6_init 255 = .ok (.bipush 120, 2) := by decide +kernel
theorem dX6_init_257 : decode cX6_init 257 = .ok (.newarray .int, 2) := by decide +kernel
theorem dX6_init_259 : decode cX6_init 259 = .ok (.putfield 72, 3) := by decide +kernel
theorem dX6_init_262 : decode cX6_init 262 = .ok (.aload_n 0, 1) := by decide +kernel
theorem dX6_init_263 : decode cX6_init 263 = .ok (.bipush 24, 2) := by decide +kernel
theorem dX6_init_265 : decode cX6_init 265 = .ok (.newarray .int, 2) := by decide +kernel
theorem dX6_init_267 : decode cX6_init 267 = .ok (.putfield 75, 3) := by decide +kernel
theorem dX6_init_270 : decode cX6_init 270 = .ok (.aload_n 0, 1) := by decide +kernel
theorem dX6_init_271 : decode cX6_init 271 = .ok (.bipush 60, 2) := by decide +kernel
theorem dX6_init_273 : decode cX6_init 273 = .ok (.newarray .int, 2) := by decide +kernel
theorem dX6_init_275 : decode cX6_init 275 = .ok (.putfield 78, 3) := by decide +kernel
theorem dX6_init_278 : decode cX6_init 278 = .ok (.aload_n 0, 1) := by decide +kernel
theorem dX6_init_279 : decode cX6_init 279 = .ok (.getfield 9, 3) := by decide +kernel
theorem dX6_init_282 : decode cX6_init 282 = .ok (.iconst 0, 1) := by decide +kernel
theorem dX6_init_283 : decode cX6_init 283 = .ok (.iconst 1, 1) := by decide +kernel
theorem dX6_init_284 : decode cX6_init 284 = .ok (.iastore, 1) := by decide +kernel
theorem dX6_init_285 : decode cX6_init 285 = .ok (.aload_n 0, 1) := by decide +kernel
theorem dX6_init_286 : decode cX6_init 286 = .ok (.getfield 9, 3) := by decide +kernel
theorem dX6_init_289 : decode cX6_init 289 = .ok (.iconst 2, 1) := by decide +kernel
theorem dX6_init_290 : decode cX6_init 290 = .ok (.bipush 100, 2) := by decide +kernel
theorem dX6_init_292 : decode cX6_init 292 = .ok (.iastore, 1) := by decide +kernel
theorem dX6_init_293 : decode cX6_init 293 = .ok (.aload_n 0, 1) := by decide +kernel
theorem dX6_init_294 : decode cX6_init 294 = .ok (.getfield 9, 3) := by decide +kernel
theorem dX6_init_297 : decode cX6_init 297 = .ok (.iconst 3, 1) := by decide +kernel
theorem dX6_init_298 : decode cX6_init 298 = .ok (.bipush 20, 2) := by decide +kernel
theorem dX6_init_300 : decode cX6_init 300 = .ok (.iastore, 1) := by decide +kernel
theorem dX6_init_301 : decode cX6_init 301 = .ok (.return_, 1) := by decide +kernel
theorem dX6_in_0 : decode cX6_in 0 = .ok (.iload_n 0, 1) := by decide +kernel
theorem dX6_in_1 : decode cX6_in 1 = .ok (.iload_n 1, 1) := by decide +kernel
theorem dX6_in_2 : decode cX6_in 2 = .ok (.if_icmp .lt 12, 3) := by decide +kernel
theorem dX6_in_5 : decode cX6_in 5 = .ok (.iload_n 0, 1) := by decide +kernel
theorem dX6_in_6 : decode cX6_in 6 = .ok (.iload_n 2, 1) := by decide +kernel
theorem dX6_in_7 : decode cX6_in 7 = .ok (.if_icmp .gt 7, 3) := by decide +kernel
theorem dX6_in_10 : decode cX6_in 10 = .ok (.iconst 1, 1) := by decide +kernel
theorem dX6_in_11 : decode cX6_in 11 = .ok (.goto 4, 3) := by decide +kernel
theorem dX6_in_14 : decode cX6_in 14 = .ok (.iconst 0, 1) := by decide +kernel
theorem dX6_in_15 : decode cX6_in 15 = .ok (.ireturn, 1) := by decide +kernel
theorem dX6_within_0 : decode cX6_within 0 = .ok (.iload_n 0, 1) := by decide +kernel
theorem dX6_within_1 : decode cX6_within 1 = .ok (.iload_n 1, 1) := by decide +kernel
theorem dX6_within_2 : decode cX6_within 2 = .ok (.if_icmp .ge 7, 3) := by decide +kernel
theorem dX6_within_5 : decode cX6_within 5 = .ok (.iload_n 1, 1) := by decide +kernel
theorem dX6_within_6 : decode cX6_within 6 = .ok (.goto 13, 3) := by decide +kernel
theorem dX6_within_9 : decode cX6_within 9 = .ok (.iload_n 0, 1) := by decide +kernel
theorem dX6_within_10 : decode cX6_within 10 = .ok (.iload_n 2, 1) := by decide +kernel
theorem dX6_within_11 : decode cX6_within 11 = .ok (.if_icmp .le 7, 3) := by decide +kernel
theorem dX6_within_14 : decode cX6_within 14 = .ok (.iload_n 2, 1) := by decide +kernel
theorem dX6_within_15 : decode cX6_within 15 = .ok (.goto 4, 3) := by decide +kernel
theorem dX6_within_18 : decode cX6_within 18 = .ok (.iload_n 0, 1) := by decide +kernel
theorem dX6_within_19 : decode cX6_within 19 = .ok (.ireturn, 1) := by decide +kernel
theorem dX6_copyAll_0 : decode cX6_copyAll 0 = .ok (.iconst 0, 1) := by decide +kernel
theorem dX6_copyAll_1 : decode cX6_copyAll 1 = .ok (.istore_n 2, 1) := by decide +kernel
theorem dX6_copyAll_2 : decode cX6_copyAll 2 = .ok (.iload_n 2, 1) := by decide +kernel
theorem dX6_copyAll_3 : decode cX6_copyAll 3 = .ok (.sipush 1412, 3) := by decide +kernel
theorem dX6_copyAll_6 : decode cX6_copyAll 6 = .ok (.if_icmp .ge 15, 3) := by decide +kernel
theorem dX6_copyAll_9 : decode cX6_copyAll 9 = .ok (.aload_n 1, 1) := by decide +kernel
theorem dX6_copyAll_10 : decode cX6_copyAll 10 = .ok (.iload_n 2, 1) := by decide +kernel
theorem dX6_copyAll_11 : decode cX6_copyAll 11 = .ok (.aload_n 0, 1) := by decide +kernel
theorem dX6_copyAll_12 : decode cX6_copyAll 12 = .ok (.iload_n 2, 1) := by decide +kernel
theorem dX6_copyAll_13 : decode cX6_copyAll 13 = .ok (.iaload, 1) := by decide +kernel
theorem dX6_copyAll_14 : decode cX6_copyAll 14 = .ok (.iastore, 1) := by decide +kernel
theorem dX6_copyAll_15 : decode cX6_copyAll 15 = .ok (.iinc 2 1, 3) := by decide +kernel
theorem dX6_copyAll_18 : decode cX6_copyAll 18 = .ok (.goto (-16), 3) := by decide +kernel
theorem dX6_copyAll_21 : decode cX6_copyAll 21 = .ok (.return_, 1) := by decide +kernel
theorem dX6_off_0 : decode cX6_off 0 = .ok (.iload_n 0, 1) := by decide +kernel
theorem dX6_off_1 : decode cX6_off 1 = .ok (.iload_n 1, 1) := by decide +kernel
theorem dX6_off_2 : decode cX6_off 2 = .ok (.if_icmp .ge 9, 3) := by decide +kernel
theorem dX6_off_5 : decode cX6_off 5 = .ok (.iload_n 1, 1) := by decide +kernel
theorem dX6_off_6 : decode cX6_off 6 = .ok (.iload_n 0, 1) := by decide +kernel
theorem dX6_off_7 : decode cX6_off 7 = .ok (.isub, 1) := by decide +kernel
theorem dX6_off_8 : decode cX6_off 8 = .ok (.goto 6, 3) := by decide +kernel
theorem dX6_off_11 : decode cX6_off 11 = .ok (.iload_n 0, 1) := by decide +kernel
theorem dX6_off_12 : decode cX6_off 12 = .ok (.iload_n 1, 1) := by decide +kernel
theorem dX6_off_13 : decode cX6_off 13 = .ok (.isub, 1) := by decide +kernel
theorem dX6_off_14 : decode cX6_off 14 = .ok (.ireturn, 1) := by decide +kernel
theorem dX6_isThing_0 : decode cX6_isThing 0 = .ok (.iload_n 1, 1) := by decide +kernel
theorem dX6_isThing_1 : decode cX6_isThing 1 = .ok (.iconst 0, 1) := by decide +kernel
theorem dX6_isThing_2 : decode cX6_isThing 2 = .ok (.aload_n 0, 1) := by decide +kernel
theorem dX6_isThing_3 : decode cX6_isThing 3 = .ok (.getfield 9, 3) := by decide +kernel
theorem dX6_isThing_6 : decode cX6_isThing 6 = .ok (.iconst 1, 1) := by decide +kernel
theorem dX6_isThing_7 : decode cX6_isThing 7 = .ok (.iaload, 1) := by decide +kernel
theorem dX6_isThing_8 : decode cX6_isThing 8 = .ok (.iconst 1, 1) := by decide +kernel
theorem dX6_isThing_9 : decode cX6_isThing 9 = .ok (.isub, 1) := by decide +kernel
theorem dX6_isThing_10 : decode cX6_isThing 10 = .ok (.invokestatic 82, 3) := by decide +kernel
theorem dX6_isThing_13 : decode cX6_isThing 13 = .ok (.ireturn, 1) := by decide +kernel
theorem dX6_of_0 : decode cX6_of 0 = .ok (.aload_n 0, 1) := by decide +kernel
theorem dX6_of_1 : decode cX6_of 1 = .ok (.getfield 9, 3) := by decide +kernel
theorem dX6_of_4 : decode cX6_of 4 = .ok (.bipush 8, 2) := by decide +kernel
theorem dX6_of_6 : decode cX6_of 6 = .ok (.iconst 4, 1) := by decide +kernel
theorem dX6_of_7 : decode cX6_of 7 = .ok (.iload_n 1, 1) := by decide +kernel
theorem dX6_of_8 : decode cX6_of 8 = .ok (.imul, 1) := by decide +kernel
theorem dX6_of_9 : decode cX6_of 9 = .ok (.iadd, 1) := by decide +kernel
theorem dX6_of_10 : decode cX6_of 10 = .ok (.iload_n 2, 1) := by decide +kernel
theorem dX6_of_11 : decode cX6_of 11 = .ok (.iadd, 1) := by decide +kernel
theorem dX6_of_12 : decode cX6_of 12 = .ok (.iaload, 1) := by decide +kernel
theorem dX6_of_13 : decode cX6_of 13 = .ok (.ireturn, 1) := by decide +kernel
theorem dX6_put_0 : decode cX6_put 0 = .ok (.aload_n 0, 1) := by decide +kernel
theorem dX6_put_1 : decode cX6_put 1 = .ok (.getfield 9, 3) := by decide +kernel
theorem dX6_put_4 : decode cX6_put 4 = .ok (.bipush 8, 2) := by decide +kernel
theorem dX6_put_6 : decode cX6_put 6 = .ok (.iconst 4, 1) := by decide +kernel
theorem dX6_put_7 : decode cX6_put 7 = .ok (.iload_n 1, 1) := by decide +kernel
theorem dX6_put_8 : decode cX6_put 8 = .ok (.imul, 1) := by decide +kernel
theorem dX6_put_9 : decode cX6_put 9 = .ok (.iadd, 1) := by decide +kernel
theorem dX6_put_10 : decode cX6_put 10 = .ok (.iload_n 2, 1) := by decide +kernel
theorem dX6_put_11 : decode cX6_put 11 = .ok (.iadd, 1) := by decide +kernel
theorem dX6_put_12 : decode cX6_put 12 = .ok (.iload_n 3, 1) := by decide +kernel
theorem dX6_put_13 : decode cX6_put 13 = .ok (.iastore, 1) := by decide +kernel
theorem dX6_put_14 : decode cX6_put 14 = .ok (.return_, 1) := by decide +kernel
theorem dX6_becomes_0 : decode cX6_becomes 0 = .ok (.aload_n 0, 1) := by decide +kernel
theorem dX6_becomes_1 : decode cX6_becomes 1 = .ok (.getfield 9, 3) := by decide +kernel
theorem dX6_becomes_4 : decode cX6_becomes 4 = .ok (.iload_n 1, 1) := by decide +kernel
theorem dX6_becomes_5 : decode cX6_becomes 5 = .ok (.iaload, 1) := by decide +kernel
theorem dX6_becomes_6 : decode cX6_becomes 6 = .ok (.istore_n 3, 1) := by decide +kernel
theorem dX6_becomes_7 : decode cX6_becomes 7 = .ok (.aload_n 0, 1) := by decide +kernel
theorem dX6_becomes_8 : decode cX6_becomes 8 = .ok (.getfield 9, 3) := by decide +kernel
theorem dX6_becomes_11 : decode cX6_becomes 11 = .ok (.iload_n 1, 1) := by decide +kernel
theorem dX6_becomes_12 : decode cX6_becomes 12 = .ok (.iload_n 2, 1) := by decide +kernel
theorem dX6_becomes_13 : decode cX6_becomes 13 = .ok (.iastore, 1) := by decide +kernel
theorem dX6_becomes_14 : decode cX6_becomes 14 = .ok (.iload_n 3, 1) := by decide +kernel
theorem dX6_becomes_15 : decode cX6_becomes 15 = .ok (.ireturn, 1) := by decide +kernel
theorem dX6_comes_0 : decode cX6_comes 0 = .ok (.aload_n 0, 1) := by decide +kernel
theorem dX6_comes_1 : decode cX6_comes 1 = .ok (.getfield 9, 3) := by decide +kernel
theorem dX6_comes_4 : decode cX6_comes 4 = .ok (.iconst 1, 1) := by decide +kernel
theorem dX6_comes_5 : decode cX6_comes 5 = .ok (.iaload, 1) := by decide +kernel
theorem dX6_comes_6 : decode cX6_comes 6 = .ok (.istore 4, 2) := by decide +kernel
theorem dX6_comes_8 : decode cX6_comes 8 = .ok (.aload_n 0, 1) := by decide +kernel
theorem dX6_comes_9 : decode cX6_comes 9 = .ok (.iload 4, 2) := by decide +kernel
theorem dX6_comes_11 : decode cX6_comes 11 = .ok (.iconst 0, 1) := by decide +kernel
theorem dX6_comes_12 : decode cX6_comes 12 = .ok (.iload_n 1, 1) := by decide +kernel
theorem dX6_comes_13 : decode cX6_comes 13 = .ok (.invokevirtual 86, 3) := by decide +kernel
theorem dX6_comes_16 : decode cX6_comes 16 = .ok (.aload_n 0, 1) := by decide +kernel
theorem dX6_comes_17 : decode cX6_comes 17 = .ok (.iload 4, 2) := by decide +kernel
theorem dX6_comes_19 : decode cX6_comes 19 = .ok (.iconst 1, 1) := by decide +kernel
theorem dX6_comes_20 : decode cX6_comes 20 = .ok (.iload_n 2, 1) := by decide +kernel
theorem dX6_comes_21 : decode cX6_comes 21 = .ok (.invokevirtual 86, 3) := by decide +kernel
theorem dX6_comes_24 : decode cX6_comes 24 = .ok (.aload_n 0, 1) := by decide +kernel
theorem dX6_comes_25 : decode cX6_comes 25 = .ok (.iload 4, 2) := by decide +kernel
theorem dX6_comes_27 : decode cX6_comes 27 = .ok (.iconst 2, 1) := by decide +kernel
theorem dX6_comes_28 : decode cX6_comes 28 = .ok (.iload_n 3, 1) := by decide +kernel
theorem dX6_comes_29 : decode cX6_comes 29 = .ok (.invokevirtual 86, 3) := by decide +kernel
theorem dX6_comes_32 : decode cX6_comes 32 = .ok (.aload_n 0, 1) := by decide +kernel
theorem dX6_comes_33 : decode cX6_comes 33 = .ok (.iload 4, 2) := by decide +kernel
theorem dX6_comes_35 : decode cX6_comes 35 = .ok (.iconst 3, 1) := by decide +kernel
theorem dX6_comes_36 : decode cX6_comes 36 = .ok (.iconst 0, 1) := by decide +kernel
theorem dX6_comes_37 : decode cX6_comes 37 = .ok (.invokevirtual 86, 3) := by decide +kernel
theorem dX6_comes_40 : decode cX6_comes 40 = .ok (.aload_n 0, 1) := by decide +kernel
theorem dX6_comes_41 : decode cX6_comes 41 = .ok (.getfield 9, 3) := by decide +kernel
theorem dX6_comes_44 : decode cX6_comes 44 = .ok (.iconst 1, 1) := by decide +kernel
theorem dX6_comes_45 : decode cX6_comes 45 = .ok (.dup2, 1) := by decide +kernel
theorem dX6_comes_46 : decode cX6_comes 46 = .ok (.iaload, 1) := by decide +kernel
theorem dX6_comes_47 : decode cX6_comes 47 = .ok (.iconst 1, 1) := by decide +kernel
theorem dX6_comes_48 : decode cX6_comes 48 = .ok (.iadd, 1) := by decide +kernel
theorem dX6_comes_49 : decode cX6_comes 49 = .ok (.iastore, 1) := by decide +kernel
theorem dX6_comes_50 : decode cX6_comes 50 = .ok (.iload 4, 2) := by decide +kernel
theorem dX6_comes_52 : decode cX6_comes 52 = .ok (.ireturn, 1) := by decide +kernel
theorem dX6_thing_0 : decode cX6_thing 0 = .ok (.iload_n 1, 1) := by decide +kernel
theorem dX6_thing_1 : decode cX6_thing 1 = .ok (.iconst 0, 1) := by decide +kernel
theorem dX6_thing_2 : decode cX6_thing 2 = .ok (.iconst 5, 1) := by decide +kernel
theorem dX6_thing_3 : decode cX6_thing 3 = .ok (.invokestatic 82, 3) := by decide +kernel
theorem dX6_thing_6 : decode cX6_thing 6 = .ok (.ifCond .eq 13, 3) := by decide +kernel
theorem dX6_thing_9 : decode cX6_thing 9 = .ok (.iload_n 2, 1) := by decide +kernel
theorem dX6_thing_10 : decode cX6_thing 10 = .ok (.iconst 1, 1) := by decide +kernel
theorem dX6_thing_11 : decode cX6_thing 11 = .ok (.bipush 9, 2) := by decide +kernel
theorem dX6_thing_13 : decode cX6_thing 13 = .ok (.invokestatic 82, 3) := by decide +kernel
theorem dX6_thing_16 : decode cX6_thing 16 = .ok (.ifCond .ne 6, 3) := by decide +kernel
theorem dX6_thing_19 : decode cX6_thing 19 = .ok (.ldc 90, 2) := by decide +kernel
theorem dX6_thing_21 : decode cX6_thing 21 = .ok (.ireturn, 1) := by decide +kernel
theorem dX6_thing_22 : decode cX6_thing 22 = .ok (.aload_n 0, 1) := by decide +kernel
theorem dX6_thing_23 : decode cX6_thing 23 = .ok (.getfield 9, 3) := by decide +kernel
theorem dX6_thing_26 : decode cX6_thing 26 = .ok (.iconst 1, 1) := by decide +kernel
theorem dX6_thing_27 : decode cX6_thing 27 = .ok (.iaload, 1) := by decide +kernel
theorem dX6_thing_28 : decode cX6_thing 28 = .ok (.bipush 8, 2) := by decide +kernel
theorem dX6_thing_30 : decode cX6_thing 30 = .ok (.if_icmp .ne 8, 3) := by decide +kernel
theorem dX6_thing_33 : decode cX6_thing 33 = .ok (.ldc 91, 2) := by decide +kernel
theorem dX6_thing_35 : decode cX6_thing 35 = .ok (.goto 10, 3) := by decide +kernel
theorem dX6_thing_38 : decode cX6_thing 38 = .ok (.aload_n 0, 1) := by decide +kernel
theorem dX6_thing_39 : decode cX6_thing 39 = .ok (.iload_n 1, 1) := by decide +kernel
theorem dX6_thing_40 : decode cX6_thing 40 = .ok (.iload_n 2, 1) := by decide +kernel
theorem dX6_thing_41 : decode cX6_thing 41 = .ok (.iconst 0, 1) := by decide +kernel
theorem dX6_thing_42 : decode cX6_thing 42 = .ok (.invokevirtual 92, 3) := by decide +kernel
theorem dX6_thing_45 : decode cX6_thing 45 = .ok (.ireturn, 1) := by decide +kernel
theorem dX6_tosses_0 : decode cX6_tosses 0 = .ok (.aload_n 0, 1) := by decide +kernel
theorem dX6_tosses_1 : decode cX6_tosses 1 = .ok (.iload_n 1, 1) := by decide +kernel
theorem dX6_tosses_2 : decode cX6_tosses 2 = .ok (.iconst 2, 1) := by decide +kernel
theorem dX6_tosses_3 : decode cX6_tosses 3 = .ok (.aload_n 0, 1) := by decide +kernel
theorem dX6_tosses_4 : decode cX6_tosses 4 = .ok (.iload_n 1, 1) := by decide +kernel
theorem dX6_tosses_5 : decode cX6_tosses 5 = .ok (.iconst 2, 1) := by decide +kernel
theorem dX6_tosses_6 : decode cX6_tosses 6 = .ok (.invokevirtual 96, 3) := by decide +kernel
theorem dX6_tosses_9 : decode cX6_tosses 9 = .ok (.iload_n 2, 1) := by decide +kernel
theorem dX6_tosses_10 : decode cX6_tosses 10 = .ok (.iadd, 1) := by decide +kernel
theorem dX6_tosses_11 : decode cX6_tosses 11 = .ok (.iconst 0, 1) := by decide +kernel
theorem dX6_tosses_12 : decode cX6_tosses 12 = .ok (.ldc 100, 2) := by decide +kernel
theorem dX6_tosses_14 : decode cX6_tosses 14 = .ok (.invokestatic 101, 3) := by decide +kernel
theorem dX6_tosses_17 : decode cX6_tosses 17 = .ok (.invokevirtual 86, 3) := by decide +kernel
theorem dX6_tosses_20 : decode cX6_tosses 20 = .ok (.return_, 1) := by decide +kernel
theorem dX6_toss_0 : decode cX6_toss 0 = .ok (.aload_n 0, 1) := by decide +kernel
theorem dX6_toss_1 : decode cX6_toss 1 = .ok (.iload_n 1, 1) := by decide +kernel
theorem dX6_toss_2 : decode cX6_toss 2 = .ok (.invokevirtual 104, 3) := by decide +kernel
theorem dX6_toss_5 : decode cX6_toss 5 = .ok (.ifCond .eq 14, 3) := by decide +kernel
theorem dX6_toss_8 : decode cX6_toss 8 = .ok (.iload_n 2, 1) := by decide +kernel
theorem dX6_toss_9 : decode cX6_toss 9 = .ok (.iconst 1, 1) := by decide +kernel
theorem dX6_toss_10 : decode cX6_toss 10 = .ok (.sipush 9999, 3) := by decide +kernel
theorem dX6_toss_13 : decode cX6_toss 13 = .ok (.invokestatic 82, 3) := by decide +kernel
theorem dX6_toss_16 : decode cX6_toss 16 = .ok (.ifCond .ne 6, 3) := by decide +kernel
theorem dX6_toss_19 : decode cX6_toss 19 = .ok (.ldc 90, 2) := by decide +kernel
theorem dX6_toss_21 : decode cX6_toss 21 = .ok (.ireturn, 1) := by decide +kernel
theorem dX6_toss_22 : decode cX6_toss 22 = .ok (.aload_n 0, 1) := by decide +kernel
theorem dX6_toss_23 : decode cX6_toss 23 = .ok (.iload_n 1, 1) := by decide +kernel
theorem dX6_toss_24 : decode cX6_toss 24 = .ok (.iload_n 2, 1) := by decide +kernel
theorem dX6_toss_25 : decode cX6_toss 25 = .ok (.invokevirtual 108, 3) := by decide +kernel
theorem dX6_toss_28 : decode cX6_toss 28 = .ok (.aload_n 0, 1) := by decide +kernel
theorem dX6_toss_29 : decode cX6_toss 29 = .ok (.iload_n 1, 1) := by decide +kernel
theorem dX6_toss_30 : decode cX6_toss 30 = .ok (.iconst 2, 1) := by decide +kernel
theorem dX6_toss_31 : decode cX6_toss 31 = .ok (.invokevirtual 96, 3) := by decide +kernel
theorem dX6_toss_34 : decode cX6_toss 34 = .ok (.ireturn, 1) := by decide +kernel
theorem dX6_fadesBy_0 : decode cX6_fadesBy 0 = .ok (.aload_n 0, 1) := by decide +kernel
theorem dX6_fadesBy_1 : decode cX6_fadesBy 1 = .ok (.iconst 0, 1) := by decide +kernel
theorem dX6_fadesBy_2 : decode cX6_fadesBy 2 = .ok (.invokevirtual 112, 3) := by decide +kernel
theorem dX6_fadesBy_5 : decode cX6_fadesBy 5 = .ok (.istore_n 3, 1) := by decide +kernel
theorem dX6_fadesBy_6 : decode cX6_fadesBy 6 = .ok (.aload_n 0, 1) := by decide +kernel
theorem dX6_fadesBy_7 : decode cX6_fadesBy 7 = .ok (.getfield 51, 3) := by decide +kernel
theorem dX6_fadesBy_10 : decode cX6_fadesBy 10 = .ok (.iconst 0, 1) := by decide +kernel
theorem dX6_fadesBy_11 : decode cX6_fadesBy 11 = .ok (.aload_n 0, 1) := by decide +kernel
theorem dX6_fadesBy_12 : decode cX6_fadesBy 12 = .ok (.iload_n 1, 1) := by decide +kernel
theorem dX6_fadesBy_13 : decode cX6_fadesBy 13 = .ok (.iconst 2, 1) := by decide +kernel
theorem dX6_fadesBy_14 : decode cX6_fadesBy 14 = .ok (.invokevirtual 96, 3) := by decide +kernel
theorem dX6_fadesBy_17 : decode cX6_fadesBy 17 = .ok (.iastore, 1) := by decide +kernel
theorem dX6_fadesBy_18 : decode cX6_fadesBy 18 = .ok (.aload_n 0, 1) := by decide +kernel
theorem dX6_fadesBy_19 : decode cX6_fadesBy 19 = .ok (.getfield 51, 3) := by decide +kernel
theorem dX6_fadesBy_22 : decode cX6_fadesBy 22 = .ok (.iconst 1, 1) := by decide +kernel
theorem dX6_fadesBy_23 : decode cX6_fadesBy 23 = .ok (.aload_n 0, 1) := by decide +kernel
theorem dX6_fadesBy_24 : decode cX6_fadesBy 24 = .ok (.iload_n 1, 1) := by decide +kernel
theorem dX6_fadesBy_25 : decode cX6_fadesBy 25 = .ok (.iconst 3, 1) := by decide +kernel
theorem dX6_fadesBy_26 : decode cX6_fadesBy 26 = .ok (.invokevirtual 96, 3) := by decide +kernel
theorem dX6_fadesBy_29 : decode cX6_fadesBy 29 = .ok (.iastore, 1) := by decide +kernel
theorem dX6_fadesBy_30 : decode cX6_fadesBy 30 = .ok (.aload_n 0, 1) := by decide +kernel
theorem dX6_fadesBy_31 : decode cX6_fadesBy 31 = .ok (.getfield 51, 3) := by decide +kernel
theorem dX6_fadesBy_34 : decode cX6_fadesBy 34 = .ok (.iconst 2, 1) := by decide +kernel
theorem dX6_fadesBy_35 : decode cX6_fadesBy 35 = .ok (.iload_n 2, 1) := by decide +kernel
theorem dX6_fadesBy_36 : decode cX6_fadesBy 36 = .ok (.iastore, 1) := by decide +kernel
theorem dX6_fadesBy_37 : decode cX6_fadesBy 37 = .ok (.iload_n 3, 1) := by decide +kernel
theorem dX6_fadesBy_38 : decode cX6_fadesBy 38 = .ok (.ifCond .ge 14, 3) := by decide +kernel
theorem dX6_fadesBy_41 : decode cX6_fadesBy 41 = .ok (.iconst 2, 1) := by decide +kernel
theorem dX6_fadesBy_42 : decode cX6_fadesBy 42 = .ok (.aload_n 0, 1) := by decide +kernel
theorem dX6_fadesBy_43 : decode cX6_fadesBy 43 = .ok (.iload_n 1, 1) := by decide +kernel
theorem dX6_fadesBy_44 : decode cX6_fadesBy 44 = .ok (.iconst 3, 1) := by decide +kernel
theorem dX6_fadesBy_45 : decode cX6_fadesBy 45 = .ok (.invokevirtual 96, 3) := by decide +kernel
theorem dX6_fadesBy_48 : decode cX6_fadesBy 48 = .ok (.imul, 1) := by decide +kernel
theorem dX6_fadesBy_49 : decode cX6_fadesBy 49 = .ok (.goto 8, 3) := by decide +kernel
theorem dX6_fadesBy_52 : decode cX6_fadesBy 52 = .ok (.aload_n 0, 1) := by decide +kernel
theorem dX6_fadesBy_53 : decode cX6_fadesBy 53 = .ok (.iload_n 3, 1) := by decide +kernel
theorem dX6_fadesBy_54 : decode cX6_fadesBy 54 = .ok (.invokevirtual 116, 3) := by decide +kernel
theorem dX6_fadesBy_57 : decode cX6_fadesBy 57 = .ok (.iconst 0, 1) := by decide +kernel
theorem dX6_fadesBy_58 : decode cX6_fadesBy 58 = .ok (.iload_n 2, 1) := by decide +kernel
theorem dX6_fadesBy_59 : decode cX6_fadesBy 59 = .ok (.invokestatic 101, 3) := by decide +kernel
theorem dX6_fadesBy_62 : decode cX6_fadesBy 62 = .ok (.ireturn, 1) := by decide +kernel
theorem dX6_tasteOf_0 : decode cX6_tasteOf 0 = .ok (.aload_n 0, 1) := by decide +kernel
theorem dX6_tasteOf_1 : decode cX6_tasteOf 1 = .ok (.iload_n 1, 1) := by decide +kernel
theorem dX6_tasteOf_2 : decode cX6_tasteOf 2 = .ok (.iconst 2, 1) := by decide +kernel
theorem dX6_tasteOf_3 : decode cX6_tasteOf 3 = .ok (.invokevirtual 96, 3) := by decide +kernel
theorem dX6_tasteOf_6 : decode cX6_tasteOf 6 = .ok (.aload_n 0, 1) := by decide +kernel
theorem dX6_tasteOf_7 : decode cX6_tasteOf 7 = .ok (.iload_n 1, 1) := by decide +kernel
theorem dX6_tasteOf_8 : decode cX6_tasteOf 8 = .ok (.iconst 1, 1) := by decide +kernel
theorem dX6_tasteOf_9 : decode cX6_tasteOf 9 = .ok (.invokevirtual 96, 3) := by decide +kernel
theorem dX6_tasteOf_12 : decode cX6_tasteOf 12 = .ok (.imul, 1) := by decide +kernel
theorem dX6_tasteOf_13 : decode cX6_tasteOf 13 = .ok (.bipush 100, 2) := by decide +kernel
theorem dX6_tasteOf_15 : decode cX6_tasteOf 15 = .ok (.idiv, 1) := by decide +kernel
theorem dX6_tasteOf_16 : decode cX6_tasteOf 16 = .ok (.istore_n 2, 1) := by decide +kernel
theorem dX6_tasteOf_17 : decode cX6_tasteOf 17 = .ok (.aload_n 0, 1) := by decide +kernel
theorem dX6_tasteOf_18 : decode cX6_tasteOf 18 = .ok (.iload_n 1, 1) := by decide +kernel
theorem dX6_tasteOf_19 : decode cX6_tasteOf 19 = .ok (.iconst 2, 1) := by decide +kernel
theorem dX6_tasteOf_20 : decode cX6_tasteOf 20 = .ok (.invokevirtual 96, 3) := by decide +kernel
theorem dX6_tasteOf_23 : decode cX6_tasteOf 23 = .ok (.ifCond .le 18, 3) := by decide +kernel
theorem dX6_tasteOf_26 : decode cX6_tasteOf 26 = .ok (.aload_n 0, 1) := by decide +kernel
theorem dX6_tasteOf_27 : decode cX6_tasteOf 27 = .ok (.iload_n 1, 1) := by decide +kernel
theorem dX6_tasteOf_28 : decode cX6_tasteOf 28 = .ok (.iconst 3, 1) := by decide +kernel
theorem dX6_tasteOf_29 : decode cX6_tasteOf 29 = .ok (.invokevirtual 96, 3) := by decide +kernel
theorem dX6_tasteOf_32 : decode cX6_tasteOf 32 = .ok (.iconst 0, 1) := by decide +kernel
theorem dX6_tasteOf_33 : decode cX6_tasteOf 33 = .ok (.bipush 30, 2) := by decide +kernel
theorem dX6_tasteOf_35 : decode cX6_tasteOf 35 = .ok (.invokestatic 101, 3) := by decide +kernel
theorem dX6_tasteOf_38 : decode cX6_tasteOf 38 = .ok (.goto 4, 3) := by decide +kernel
theorem dX6_tasteOf_41 : decode cX6_tasteOf 41 = .ok (.iconst 0, 1) := by decide +kernel
theorem dX6_tasteOf_42 : decode cX6_tasteOf 42 = .ok (.istore_n 3, 1) := by decide +kernel
theorem dX6_tasteOf_43 : decode cX6_tasteOf 43 = .ok (.aload_n 0, 1) := by decide +kernel
theorem dX6_tasteOf_44 : decode cX6_tasteOf 44 = .ok (.iload_n 1, 1) := by decide +kernel
theorem dX6_tasteOf_45 : decode cX6_tasteOf 45 = .ok (.iconst 0, 1) := by decide +kernel
theorem dX6_tasteOf_46 : decode cX6_tasteOf 46 = .ok (.invokevirtual 96, 3) := by decide +kernel
theorem dX6_tasteOf_49 : decode cX6_tasteOf 49 = .ok (.tableswitch 69 1 5 #[35, 39, 48, 54, 65], 35) := by decide +kernel
theorem dX6_tasteOf_84 : decode cX6_tasteOf 84 = .ok (.iload_n 2, 1) := by decide +kernel
theorem dX6_tasteOf_85 : decode cX6_tasteOf 85 = .ok (.iload_n 3, 1) := by decide +kernel
theorem dX6_tasteOf_86 : decode cX6_tasteOf 86 = .ok (.iadd, 1) := by decide +kernel
theorem dX6_tasteOf_87 : decode cX6_tasteOf 87 = .ok (.ireturn, 1) := by decide +kernel
theorem dX6_tasteOf_88 : decode cX6_tasteOf 88 = .ok (.iload_n 2, 1) := by decide +kernel
theorem dX6_tasteOf_89 : decode cX6_tasteOf 89 = .ok (.aload_n 0, 1) := by decide +kernel
theorem dX6_tasteOf_90 : decode cX6_tasteOf 90 = .ok (.iload_n 1, 1) := by decide +kernel
theorem dX6_tasteOf_91 : decode cX6_tasteOf 91 = .ok (.iload_n 2, 1) := by decide +kernel
theorem dX6_tasteOf_92 : decode cX6_tasteOf 92 = .ok (.invokevirtual 119, 3) := by decide +kernel
theorem dX6_tasteOf_95 : decode cX6_tasteOf 95 = .ok (.isub, 1) := by decide +kernel
theorem dX6_tasteOf_96 : decode cX6_tasteOf 96 = .ok (.ireturn, 1) := by decide +kernel
theorem dX6_tasteOf_97 : decode cX6_tasteOf 97 = .ok (.iconst 2, 1) := by decide +kernel
theorem dX6_tasteOf_98 : decode cX6_tasteOf 98 = .ok (.iload_n 2, 1) := by decide +kernel
theorem dX6_tasteOf_99 : decode cX6_tasteOf 99 = .ok (.iload_n 3, 1) := by decide +kernel
theorem dX6_tasteOf_100 : decode cX6_tasteOf 100 = .ok (.iadd, 1) := by decide +kernel
theorem dX6_tasteOf_101 : decode cX6_tasteOf 101 = .ok (.imul, 1) := by decide +kernel
theorem dX6_tasteOf_102 : decode cX6_tasteOf 102 = .ok (.ireturn, 1) := by decide +kernel
theorem dX6_tasteOf_103 : decode cX6_tasteOf 103 = .ok (.iload_n 2, 1) := by decide +kernel
theorem dX6_tasteOf_104 : decode cX6_tasteOf 104 = .ok (.aload_n 0, 1) := by decide +kernel
theorem dX6_tasteOf_105 : decode cX6_tasteOf 105 = .ok (.iload_n 1, 1) := by decide +kernel
theorem dX6_tasteOf_106 : decode cX6_tasteOf 106 = .ok (.iload_n 2, 1) := by decide +kernel
theorem dX6_tasteOf_107 : decode cX6_tasteOf 107 = .ok (.invokevirtual 119, 3) := by decide +kernel
theorem dX6_tasteOf_110 : decode cX6_tasteOf 110 = .ok (.isub, 1) := by decide +kernel
theorem dX6_tasteOf_111 : decode cX6_tasteOf 111 = .ok (.iconst 2, 1) := by decide +kernel
theorem dX6_tasteOf_112 : decode cX6_tasteOf 112 = .ok (.idiv, 1) := by decide +kernel
theorem dX6_tasteOf_113 : decode cX6_tasteOf 113 = .ok (.ireturn, 1) := by decide +kernel
theorem dX6_tasteOf_114 : decode cX6_tasteOf 114 = .ok (.iconst 2, 1) := by decide +kernel
theorem dX6_tasteOf_115 : decode cX6_tasteOf 115 = .ok (.iload_n 2, 1) := by decide +kernel
theorem dX6_tasteOf_116 : decode cX6_tasteOf 116 = .ok (.imul, 1) := by decide +kernel
theorem dX6_tasteOf_117 : decode cX6_tasteOf 117 = .ok (.ireturn, 1) := by decide +kernel
theorem dX6_tasteOf_118 : decode cX6_tasteOf 118 = .ok (.iload_n 2, 1) := by decide +kernel
theorem dX6_tasteOf_119 : decode cX6_tasteOf 119 = .ok (.ireturn, 1) := by decide +kernel
theorem dX6_wearsOf_0 : decode cX6_wearsOf 0 = .ok (.aload_n 0, 1) := by decide +kernel
theorem dX6_wearsOf_1 : decode cX6_wearsOf 1 = .ok (.iload_n 1, 1) := by decide +kernel
theorem dX6_wearsOf_2 : decode cX6_wearsOf 2 = .ok (.iconst 2, 1) := by decide +kernel
theorem dX6_wearsOf_3 : decode cX6_wearsOf 3 = .ok (.invokevirtual 96, 3) := by decide +kernel
theorem dX6_wearsOf_6 : decode cX6_wearsOf 6 = .ok (.istore_n 2, 1) := by decide +kernel
theorem dX6_wearsOf_7 : decode cX6_wearsOf 7 = .ok (.iload_n 2, 1) := by decide +kernel
theorem dX6_wearsOf_8 : decode cX6_wearsOf 8 = .ok (.bipush 20, 2) := by decide +kernel
theorem dX6_wearsOf_10 : decode cX6_wearsOf 10 = .ok (.idiv, 1) := by decide +kernel
theorem dX6_wearsOf_11 : decode cX6_wearsOf 11 = .ok (.iconst 1, 1) := by decide +kernel
theorem dX6_wearsOf_12 : decode cX6_wearsOf 12 = .ok (.iadd, 1) := by decide +kernel
theorem dX6_wearsOf_13 : decode cX6_wearsOf 13 = .ok (.iconst 0, 1) := by decide +kernel
theorem dX6_wearsOf_14 : decode cX6_wearsOf 14 = .ok (.iload_n 2, 1) := by decide +kernel
theorem dX6_wearsOf_15 : decode cX6_wearsOf 15 = .ok (.invokestatic 101, 3) := by decide +kernel
theorem dX6_wearsOf_18 : decode cX6_wearsOf 18 = .ok (.istore_n 3, 1) := by decide +kernel
theorem dX6_wearsOf_19 : decode cX6_wearsOf 19 = .ok (.aload_n 0, 1) := by decide +kernel
theorem dX6_wearsOf_20 : decode cX6_wearsOf 20 = .ok (.iload_n 1, 1) := by decide +kernel
theorem dX6_wearsOf_21 : decode cX6_wearsOf 21 = .ok (.iconst 0, 1) := by decide +kernel
theorem dX6_wearsOf_22 : decode cX6_wearsOf 22 = .ok (.invokevirtual 96, 3) := by decide +kernel
theorem dX6_wearsOf_25 : decode cX6_wearsOf 25 = .ok (.tableswitch 47 1 4 #[31, 36, 31, 38], 31) := by decide +kernel
theorem dX6_wearsOf_56 : decode cX6_wearsOf 56 = .ok (.iload_n 2, 1) := by decide +kernel
theorem dX6_wearsOf_57 : decode cX6_wearsOf 57 = .ok (.bipush 100, 2) := by decide +kernel
theorem dX6_wearsOf_59 : decode cX6_wearsOf 59 = .ok (.idiv, 1) := by decide +kernel
theorem dX6_wearsOf_60 : decode cX6_wearsOf 60 = .ok (.ireturn, 1) := by decide +kernel
theorem dX6_wearsOf_61 : decode cX6_wearsOf 61 = .ok (.iload_n 3, 1) := by decide +kernel
theorem dX6_wearsOf_62 : decode cX6_wearsOf 62 = .ok (.ireturn, 1) := by decide +kernel
theorem dX6_wearsOf_63 : decode cX6_wearsOf 63 = .ok (.iconst 2, 1) := by decide +kernel
theorem dX6_wearsOf_64 : decode cX6_wearsOf 64 = .ok (.iload_n 3, 1) := by decide +kernel
theorem dX6_wearsOf_65 : decode cX6_wearsOf 65 = .ok (.imul, 1) := by decide +kernel
theorem dX6_wearsOf_66 : decode cX6_wearsOf 66 = .ok (.iconst 0, 1) := by decide +kernel
theorem dX6_wearsOf_67 : decode cX6_wearsOf 67 = .ok (.iload_n 2, 1) := by decide +kernel
theorem dX6_wearsOf_68 : decode cX6_wearsOf 68 = .ok (.invokestatic 101, 3) := by decide +kernel
theorem dX6_wearsOf_71 : decode cX6_wearsOf 71 = .ok (.ireturn, 1) := by decide +kernel
theorem dX6_wearsOf_72 : decode cX6_wearsOf 72 = .ok (.iconst 0, 1) := by decide +kernel
theorem dX6_wearsOf_73 : decode cX6_wearsOf 73 = .ok (.ireturn, 1) := by decide +kernel
theorem dX6_worthOf_0 : decode cX6_worthOf 0 = .ok (.aload_n 0, 1) := by decide +kernel
theorem dX6_worthOf_1 : decode cX6_worthOf 1 = .ok (.iload_n 1, 1) := by decide +kernel
theorem dX6_worthOf_2 : decode cX6_worthOf 2 = .ok (.iconst 1, 1) := by decide +kernel
theorem dX6_worthOf_3 : decode cX6_worthOf 3 = .ok (.invokevirtual 96, 3) := by decide +kernel
theorem dX6_worthOf_6 : decode cX6_worthOf 6 = .ok (.istore_n 2, 1) := by decide +kernel
theorem dX6_worthOf_7 : decode cX6_worthOf 7 = .ok (.aload_n 0, 1) := by decide +kernel
theorem dX6_worthOf_8 : decode cX6_worthOf 8 = .ok (.iload_n 1, 1) := by decide +kernel
theorem dX6_worthOf_9 : decode cX6_worthOf 9 = .ok (.iconst 0, 1) := by decide +kernel
theorem dX6_worthOf_10 : decode cX6_worthOf 10 = .ok (.invokevirtual 96, 3) := by decide +kernel
theorem dX6_worthOf_13 : decode cX6_worthOf 13 = .ok (.tableswitch 60 1 5 #[35, 40, 45, 52, 57], 35) := by decide +kernel
theorem dX6_worthOf_48 : decode cX6_worthOf 48 = .ok (.iload_n 2, 1) := by decide +kernel
theorem dX6_worthOf_49 : decode cX6_worthOf 49 = .ok (.bipush 9, 2) := by decide +kernel
theorem dX6_worthOf_51 : decode cX6_worthOf 51 = .ok (.iadd, 1) := by decide +kernel
theorem dX6_worthOf_52 : decode cX6_worthOf 52 = .ok (.ireturn, 1) := by decide +kernel
theorem dX6_worthOf_53 : decode cX6_worthOf 53 = .ok (.bipush 40, 2) := by decide +kernel
theorem dX6_worthOf_55 : decode cX6_worthOf 55 = .ok (.iload_n 2, 1) := by decide +kernel
theorem dX6_worthOf_56 : decode cX6_worthOf 56 = .ok (.isub, 1) := by decide +kernel
theorem dX6_worthOf_57 : decode cX6_worthOf 57 = .ok (.ireturn, 1) := by decide +kernel
theorem dX6_worthOf_58 : decode cX6_worthOf 58 = .ok (.iconst 2, 1) := by decide +kernel
theorem dX6_worthOf_59 : decode cX6_worthOf 59 = .ok (.iload_n 2, 1) := by decide +kernel
theorem dX6_worthOf_60 : decode cX6_worthOf 60 = .ok (.bipush 9, 2) := by decide +kernel
theorem dX6_worthOf_62 : decode cX6_worthOf 62 = .ok (.iadd, 1) := by decide +kernel
theorem dX6_worthOf_63 : decode cX6_worthOf 63 = .ok (.imul, 1) := by decide +kernel
theorem dX6_worthOf_64 : decode cX6_worthOf 64 = .ok (.ireturn, 1) := by decide +kernel
theorem dX6_worthOf_65 : decode cX6_worthOf 65 = .ok (.bipush 37, 2) := by decide +kernel
theorem dX6_worthOf_67 : decode cX6_worthOf 67 = .ok (.iload_n 2, 1) := by decide +kernel
theorem dX6_worthOf_68 : decode cX6_worthOf 68 = .ok (.isub, 1) := by decide +kernel
theorem dX6_worthOf_69 : decode cX6_worthOf 69 = .ok (.ireturn, 1) := by decide +kernel
theorem dX6_worthOf_70 : decode cX6_worthOf 70 = .ok (.bipush 60, 2) := by decide +kernel
theorem dX6_worthOf_72 : decode cX6_worthOf 72 = .ok (.ireturn, 1) := by decide +kernel
theorem dX6_worthOf_73 : decode cX6_worthOf 73 = .ok (.iload_n 2, 1) := by decide +kernel
theorem dX6_worthOf_74 : decode cX6_worthOf 74 = .ok (.ireturn, 1) := by decide +kernel
theorem dX6_amountAll_0 : decode cX6_amountAll 0 = .ok (.iconst 0, 1) := by decide +kernel
theorem dX6_amountAll_1 : decode cX6_amountAll 1 = .ok (.istore_n 1, 1) := by decide +kernel
theorem dX6_amountAll_2 : decode cX6_amountAll 2 = .ok (.iconst 0, 1) := by decide +kernel
theorem dX6_amountAll_3 : decode cX6_amountAll 3 = .ok (.istore_n 2, 1) := by decide +kernel
theorem dX6_amountAll_4 : decode cX6_amountAll 4 = .ok (.iload_n 2, 1) := by decide +kernel
theorem dX6_amountAll_5 : decode cX6_amountAll 5 = .ok (.aload_n 0, 1) := by decide +kernel
theorem dX6_amountAll_6 : decode cX6_amountAll 6 = .ok (.getfield 9, 3) := by decide +kernel
theorem dX6_amountAll_9 : decode cX6_amountAll 9 = .ok (.iconst 1, 1) := by decide +kernel
theorem dX6_amountAll_10 : decode cX6_amountAll 10 = .ok (.iaload, 1) := by decide +kernel
theorem dX6_amountAll_11 : decode cX6_amountAll 11 = .ok (.if_icmp .ge 18, 3) := by decide +kernel
theorem dX6_amountAll_14 : decode cX6_amountAll 14 = .ok (.iload_n 1, 1) := by decide +kernel
theorem dX6_amountAll_15 : decode cX6_amountAll 15 = .ok (.aload_n 0, 1) := by decide +kernel
theorem dX6_amountAll_16 : decode cX6_amountAll 16 = .ok (.iload_n 2, 1) := by decide +kernel
theorem dX6_amountAll_17 : decode cX6_amountAll 17 = .ok (.iconst 2, 1) := by decide +kernel
theorem dX6_amountAll_18 : decode cX6_amountAll 18 = .ok (.invokevirtual 96, 3) := by decide +kernel
theorem dX6_amountAll_21 : decode cX6_amountAll 21 = .ok (.iadd, 1) := by decide +kernel
theorem dX6_amountAll_22 : decode cX6_amountAll 22 = .ok (.istore_n 1, 1) := by decide +kernel
theorem dX6_amountAll_23 : decode cX6_amountAll 23 = .ok (.iinc 2 1, 3) := by decide +kernel
theorem dX6_amountAll_26 : decode cX6_amountAll 26 = .ok (.goto (-22), 3) := by decide +kernel
theorem dX6_amountAll_29 : decode cX6_amountAll 29 = .ok (.iload_n 1, 1) := by decide +kernel
theorem dX6_amountAll_30 : decode cX6_amountAll 30 = .ok (.ireturn, 1) := by decide +kernel
theorem dX6_billOf_0 : decode cX6_billOf 0 = .ok (.aload_n 0, 1) := by decide +kernel
theorem dX6_billOf_1 : decode cX6_billOf 1 = .ok (.iconst 1, 1) := by decide +kernel
theorem dX6_billOf_2 : decode cX6_billOf 2 = .ok (.invokevirtual 112, 3) := by decide +kernel
theorem dX6_billOf_5 : decode cX6_billOf 5 = .ok (.istore_n 2, 1) := by decide +kernel
theorem dX6_billOf_6 : decode cX6_billOf 6 = .ok (.aload_n 0, 1) := by decide +kernel
theorem dX6_billOf_7 : decode cX6_billOf 7 = .ok (.iload_n 1, 1) := by decide +kernel
theorem dX6_billOf_8 : decode cX6_billOf 8 = .ok (.invokevirtual 122, 3) := by decide +kernel
theorem dX6_billOf_11 : decode cX6_billOf 11 = .ok (.istore_n 3, 1) := by decide +kernel
theorem dX6_billOf_12 : decode cX6_billOf 12 = .ok (.aload_n 0, 1) := by decide +kernel
theorem dX6_billOf_13 : decode cX6_billOf 13 = .ok (.iload_n 1, 1) := by decide +kernel
theorem dX6_billOf_14 : decode cX6_billOf 14 = .ok (.invokevirtual 125, 3) := by decide +kernel
theorem dX6_billOf_17 : decode cX6_billOf 17 = .ok (.istore 4, 2) := by decide +kernel
theorem dX6_billOf_19 : decode cX6_billOf 19 = .ok (.aload_n 0, 1) := by decide +kernel
theorem dX6_billOf_20 : decode cX6_billOf 20 = .ok (.getfield 51, 3) := by decide +kernel
theorem dX6_billOf_23 : decode cX6_billOf 23 = .ok (.iconst 0, 1) := by decide +kernel
theorem dX6_billOf_24 : decode cX6_billOf 24 = .ok (.iload_n 3, 1) := by decide +kernel
theorem dX6_billOf_25 : decode cX6_billOf 25 = .ok (.iastore, 1) := by decide +kernel
theorem dX6_billOf_26 : decode cX6_billOf 26 = .ok (.aload_n 0, 1) := by decide +kernel
theorem dX6_billOf_27 : decode cX6_billOf 27 = .ok (.getfield 51, 3) := by decide +kernel
theorem dX6_billOf_30 : decode cX6_billOf 30 = .ok (.iconst 1, 1) := by decide +kernel
theorem dX6_billOf_31 : decode cX6_billOf 31 = .ok (.iload 4, 2) := by decide +kernel
theorem dX6_billOf_33 : decode cX6_billOf 33 = .ok (.iastore, 1) := by decide +kernel
theorem dX6_billOf_34 : decode cX6_billOf 34 = .ok (.iload_n 2, 1) := by decide +kernel
theorem dX6_billOf_35 : decode cX6_billOf 35 = .ok (.ifCond .ge 7, 3) := by decide +kernel
theorem dX6_billOf_38 : decode cX6_billOf 38 = .ok (.iload_n 3, 1) := by decide +kernel
theorem dX6_billOf_39 : decode cX6_billOf 39 = .ok (.goto 8, 3) := by decide +kernel
theorem dX6_billOf_42 : decode cX6_billOf 42 = .ok (.aload_n 0, 1) := by decide +kernel
theorem dX6_billOf_43 : decode cX6_billOf 43 = .ok (.iload_n 2, 1) := by decide +kernel
theorem dX6_billOf_44 : decode cX6_billOf 44 = .ok (.invokevirtual 116, 3) := by decide +kernel
theorem dX6_billOf_47 : decode cX6_billOf 47 = .ok (.ireturn, 1) := by decide +kernel
theorem dX6_shareOf_0 : decode cX6_shareOf 0 = .ok (.aload_n 0, 1) := by decide +kernel
theorem dX6_shareOf_1 : decode cX6_shareOf 1 = .ok (.invokevirtual 128, 3) := by decide +kernel
theorem dX6_shareOf_4 : decode cX6_shareOf 4 = .ok (.istore_n 2, 1) := by decide +kernel
theorem dX6_shareOf_5 : decode cX6_shareOf 5 = .ok (.iload_n 2, 1) := by decide +kernel
theorem dX6_shareOf_6 : decode cX6_shareOf 6 = .ok (.ifCond .ne 7, 3) := by decide +kernel
theorem dX6_shareOf_9 : decode cX6_shareOf 9 = .ok (.iconst 0, 1) := by decide +kernel
theorem dX6_shareOf_10 : decode cX6_shareOf 10 = .ok (.goto 18, 3) := by decide +kernel
theorem dX6_shareOf_13 : decode cX6_shareOf 13 = .ok (.ldc2_w 132, 3) := by decide +kernel
theorem dX6_shareOf_16 : decode cX6_shareOf 16 = .ok (.aload_n 0, 1) := by decide +kernel
theorem dX6_shareOf_17 : decode cX6_shareOf 17 = .ok (.iload_n 1, 1) := by decide +kernel
theorem dX6_shareOf_18 : decode cX6_shareOf 18 = .ok (.iconst 2, 1) := by decide +kernel
theorem dX6_shareOf_19 : decode cX6_shareOf 19 = .ok (.invokevirtual 96, 3) := by decide +kernel
theorem dX6_shareOf_22 : decode cX6_shareOf 22 = .ok (.i2l, 1) := by decide +kernel
theorem dX6_shareOf_23 : decode cX6_shareOf 23 = .ok (.lmul, 1) := by decide +kernel
theorem dX6_shareOf_24 : decode cX6_shareOf 24 = .ok (.iload_n 2, 1) := by decide +kernel
theorem dX6_shareOf_25 : decode cX6_shareOf 25 = .ok (.i2l, 1) := by decide +kernel
theorem dX6_shareOf_26 : decode cX6_shareOf 26 = .ok (.ldiv, 1) := by decide +kernel
theorem dX6_shareOf_27 : decode cX6_shareOf 27 = .ok (.l2i, 1) := by decide +kernel
theorem dX6_shareOf_28 : decode cX6_shareOf 28 = .ok (.ireturn, 1) := by decide +kernel
theorem dX6_told_0 : decode cX6_told 0 = .ok (.aload_n 0, 1) := by decide +kernel
theorem dX6_told_1 : decode cX6_told 1 = .ok (.iload_n 1, 1) := by decide +kernel
theorem dX6_told_2 : decode cX6_told 2 = .ok (.invokevirtual 104, 3) := by decide +kernel
theorem dX6_told_5 : decode cX6_told 5 = .ok (.ifCond .ne 6, 3) := by decide +kernel
theorem dX6_told_8 : decode cX6_told 8 = .ok (.ldc 90, 2) := by decide +kernel
theorem dX6_told_10 : decode cX6_told 10 = .ok (.ireturn, 1) := by decide +kernel
theorem dX6_told_11 : decode cX6_told 11 = .ok (.iload_n 2, 1) := by decide +kernel
theorem dX6_told_12 : decode cX6_told 12 = .ok (.tableswitch 89 0 8 #[52, 52, 52, 52, 59, 65, 71, 77, 83], 52) := by decide +kernel
theorem dX6_told_64 : decode cX6_told 64 = .ok (.aload_n 0, 1) := by decide +kernel
theorem dX6_told_65 : decode cX6_told 65 = .ok (.iload_n 1, 1) := by decide +kernel
theorem dX6_told_66 : decode cX6_told 66 = .ok (.iload_n 2, 1) := by decide +kernel
theorem dX6_told_67 : decode cX6_told 67 = .ok (.invokevirtual 96, 3) := by decide +kernel
theorem dX6_told_70 : decode cX6_told 70 = .ok (.ireturn, 1) := by decide +kernel
theorem dX6_told_71 : decode cX6_told 71 = .ok (.aload_n 0, 1) := by decide +kernel
theorem dX6_told_72 : decode cX6_told 72 = .ok (.iload_n 1, 1) := by decide +kernel
theorem dX6_told_73 : decode cX6_told 73 = .ok (.invokevirtual 122, 3) := by decide +kernel
theorem dX6_told_76 : decode cX6_told 76 = .ok (.ireturn, 1) := by decide +kernel
theorem dX6_told_77 : decode cX6_told 77 = .ok (.aload_n 0, 1) := by decide +kernel
theorem dX6_told_78 : decode cX6_told 78 = .ok (.iload_n 1, 1) := by decide +kernel
theorem dX6_told_79 : decode cX6_told 79 = .ok (.invokevirtual 134, 3) := by decide +kernel
theorem dX6_told_82 : decode cX6_told 82 = .ok (.ireturn, 1) := by decide +kernel
theorem dX6_told_83 : decode cX6_told 83 = .ok (.aload_n 0, 1) := by decide +kernel
theorem dX6_told_84 : decode cX6_told 84 = .ok (.iload_n 1, 1) := by decide +kernel
theorem dX6_told_85 : decode cX6_told 85 = .ok (.invokevirtual 125, 3) := by decide +kernel
theorem dX6_told_88 : decode cX6_told 88 = .ok (.ireturn, 1) := by decide +kernel
theorem dX6_told_89 : decode cX6_told 89 = .ok (.aload_n 0, 1) := by decide +kernel
theorem dX6_told_90 : decode cX6_told 90 = .ok (.iload_n 1, 1) := by decide +kernel
theorem dX6_told_91 : decode cX6_told 91 = .ok (.invokevirtual 137, 3) := by decide +kernel
theorem dX6_told_94 : decode cX6_told 94 = .ok (.ireturn, 1) := by decide +kernel
theorem dX6_told_95 : decode cX6_told 95 = .ok (.aload_n 0, 1) := by decide +kernel
theorem dX6_told_96 : decode cX6_told 96 = .ok (.iload_n 1, 1) := by decide +kernel
theorem dX6_told_97 : decode cX6_told 97 = .ok (.invokevirtual 140, 3) := by decide +kernel
theorem dX6_told_100 : decode cX6_told 100 = .ok (.ireturn, 1) := by decide +kernel
theorem dX6_told_101 : decode cX6_told 101 = .ok (.ldc 90, 2) := by decide +kernel
theorem dX6_told_103 : decode cX6_told 103 = .ok (.ireturn, 1) := by decide +kernel
theorem dX6_isUnder_0 : decode cX6_isUnder 0 = .ok (.iload_n 1, 1) := by decide +kernel
theorem dX6_isUnder_1 : decode cX6_isUnder 1 = .ok (.ifCond .eq 28, 3) := by decide +kernel
theorem dX6_isUnder_4 : decode cX6_isUnder 4 = .ok (.iload_n 0, 1) := by decide +kernel
theorem dX6_isUnder_5 : decode cX6_isUnder 5 = .ok (.iload_n 1, 1) := by decide +kernel
theorem dX6_isUnder_6 : decode cX6_isUnder 6 = .ok (.if_icmp .eq 23, 3) := by decide +kernel
theorem dX6_isUnder_9 : decode cX6_isUnder 9 = .ok (.iload_n 1, 1) := by decide +kernel
theorem dX6_isUnder_10 : decode cX6_isUnder 10 = .ok (.iconst 1, 1) := by decide +kernel
theorem dX6_isUnder_11 : decode cX6_isUnder 11 = .ok (.if_icmp .ne 8, 3) := by decide +kernel
theorem dX6_isUnder_14 : decode cX6_isUnder 14 = .ok (.iload_n 0, 1) := by decide +kernel
theorem dX6_isUnder_15 : decode cX6_isUnder 15 = .ok (.iconst 3, 1) := by decide +kernel
theorem dX6_isUnder_16 : decode cX6_isUnder 16 = .ok (.if_icmp .eq 13, 3) := by decide +kernel
theorem dX6_isUnder_19 : decode cX6_isUnder 19 = .ok (.iload_n 1, 1) := by decide +kernel
theorem dX6_isUnder_20 : decode cX6_isUnder 20 = .ok (.iconst 2, 1) := by decide +kernel
theorem dX6_isUnder_21 : decode cX6_isUnder 21 = .ok (.if_icmp .ne 12, 3) := by decide +kernel
theorem dX6_isUnder_24 : decode cX6_isUnder 24 = .ok (.iload_n 0, 1) := by decide +kernel
theorem dX6_isUnder_25 : decode cX6_isUnder 25 = .ok (.iconst 4, 1) := by decide +kernel
theorem dX6_isUnder_26 : decode cX6_isUnder 26 = .ok (.if_icmp .ne 7, 3) := by decide +kernel
theorem dX6_isUnder_29 : decode cX6_isUnder 29 = .ok (.iconst 1, 1) := by decide +kernel
theorem dX6_isUnder_30 : decode cX6_isUnder 30 = .ok (.goto 4, 3) := by decide +kernel
theorem dX6_isUnder_33 : decode cX6_isUnder 33 = .ok (.iconst 0, 1) := by decide +kernel
theorem dX6_isUnder_34 : decode cX6_isUnder 34 = .ok (.ireturn, 1) := by decide +kernel
theorem dX6_as_0 : decode cX6_as 0 = .ok (.aload_n 0, 1) := by decide +kernel
theorem dX6_as_1 : decode cX6_as 1 = .ok (.iload_n 1, 1) := by decide +kernel
theorem dX6_as_2 : decode cX6_as 2 = .ok (.invokevirtual 104, 3) := by decide +kernel
theorem dX6_as_5 : decode cX6_as 5 = .ok (.ifCond .eq 12, 3) := by decide +kernel
theorem dX6_as_8 : decode cX6_as 8 = .ok (.iload_n 2, 1) := by decide +kernel
theorem dX6_as_9 : decode cX6_as 9 = .ok (.iconst 0, 1) := by decide +kernel
theorem dX6_as_10 : decode cX6_as 10 = .ok (.iconst 5, 1) := by decide +kernel
theorem dX6_as_11 : decode cX6_as 11 = .ok (.invokestatic 82, 3) := by decide +kernel
theorem dX6_as_14 : decode cX6_as 14 = .ok (.ifCond .ne 6, 3) := by decide +kernel
theorem dX6_as_17 : decode cX6_as 17 = .ok (.ldc 90, 2) := by decide +kernel
theorem dX6_as_19 : decode cX6_as 19 = .ok (.ireturn, 1) := by decide +kernel
theorem dX6_as_20 : decode cX6_as 20 = .ok (.aload_n 0, 1) := by decide +kernel
theorem dX6_as_21 : decode cX6_as 21 = .ok (.iload_n 1, 1) := by decide +kernel
theorem dX6_as_22 : decode cX6_as 22 = .ok (.iconst 0, 1) := by decide +kernel
theorem dX6_as_23 : decode cX6_as 23 = .ok (.invokevirtual 96, 3) := by decide +kernel
theorem dX6_as_26 : decode cX6_as 26 = .ok (.iload_n 2, 1) := by decide +kernel
theorem dX6_as_27 : decode cX6_as 27 = .ok (.invokestatic 143, 3) := by decide +kernel
theorem dX6_as_30 : decode cX6_as 30 = .ok (.ifCond .eq 12, 3) := by decide +kernel
theorem dX6_as_33 : decode cX6_as 33 = .ok (.aload_n 0, 1) := by decide +kernel
theorem dX6_as_34 : decode cX6_as 34 = .ok (.iload_n 1, 1) := by decide +kernel
theorem dX6_as_35 : decode cX6_as 35 = .ok (.iconst 1, 1) := by decide +kernel
theorem dX6_as_36 : decode cX6_as 36 = .ok (.invokevirtual 96, 3) := by decide +kernel
theorem dX6_as_39 : decode cX6_as 39 = .ok (.goto 5, 3) := by decide +kernel
theorem dX6_as_42 : decode cX6_as 42 = .ok (.ldc 147, 2) := by decide +kernel
theorem dX6_as_44 : decode cX6_as 44 = .ok (.ireturn, 1) := by decide +kernel
theorem dX6_turns_0 : decode cX6_turns 0 = .ok (.aload_n 0, 1) := by decide +kernel
theorem dX6_turns_1 : decode cX6_turns 1 = .ok (.iload_n 1, 1) := by decide +kernel
theorem dX6_turns_2 : decode cX6_turns 2 = .ok (.invokevirtual 104, 3) := by decide +kernel
theorem dX6_turns_5 : decode cX6_turns 5 = .ok (.ifCond .eq 26, 3) := by decide +kernel
theorem dX6_turns_8 : decode cX6_turns 8 = .ok (.iload_n 2, 1) := by decide +kernel
theorem dX6_turns_9 : decode cX6_turns 9 = .ok (.iconst 0, 1) := by decide +kernel
theorem dX6_turns_10 : decode cX6_turns 10 = .ok (.iconst 5, 1) := by decide +kernel
theorem dX6_turns_11 : decode cX6_turns 11 = .ok (.invokestatic 82, 3) := by decide +kernel
theorem dX6_turns_14 : decode cX6_turns 14 = .ok (.ifCond .eq 17, 3) := by decide +kernel
theorem dX6_turns_17 : decode cX6_turns 17 = .ok (.aload_n 0, 1) := by decide +kernel
theorem dX6_turns_18 : decode cX6_turns 18 = .ok (.bipush 8, 2) := by decide +kernel
theorem dX6_turns_20 : decode cX6_turns 20 = .ok (.iconst 4, 1) := by decide +kernel
theorem dX6_turns_21 : decode cX6_turns 21 = .ok (.iload_n 1, 1) := by decide +kernel
theorem dX6_turns_22 : decode cX6_turns 22 = .ok (.imul, 1) := by decide +kernel
theorem dX6_turns_23 : decode cX6_turns 23 = .ok (.iadd, 1) := by decide +kernel
theorem dX6_turns_24 : decode cX6_turns 24 = .ok (.iload_n 2, 1) := by decide +kernel
theorem dX6_turns_25 : decode cX6_turns 25 = .ok (.invokevirtual 148, 3) := by decide +kernel
theorem dX6_turns_28 : decode cX6_turns 28 = .ok (.goto 5, 3) := by decide +kernel
theorem dX6_turns_31 : decode cX6_turns 31 = .ok (.ldc 90, 2) := by decide +kernel
theorem dX6_turns_33 : decode cX6_turns 33 = .ok (.ireturn, 1) := by decide +kernel
theorem dX6_set_0 : decode cX6_set 0 = .ok (.aload_n 0, 1) := by decide +kernel
theorem dX6_set_1 : decode cX6_set 1 = .ok (.iload_n 1, 1) := by decide +kernel
theorem dX6_set_2 : decode cX6_set 2 = .ok (.invokevirtual 104, 3) := by decide +kernel
theorem dX6_set_5 : decode cX6_set 5 = .ok (.ifCond .eq 56, 3) := by decide +kernel
theorem dX6_set_8 : decode cX6_set 8 = .ok (.iload_n 2, 1) := by decide +kernel
theorem dX6_set_9 : decode cX6_set 9 = .ok (.iconst 1, 1) := by decide +kernel
theorem dX6_set_10 : decode cX6_set 10 = .ok (.iconst 3, 1) := by decide +kernel
theorem dX6_set_11 : decode cX6_set 11 = .ok (.invokestatic 82, 3) := by decide +kernel
theorem dX6_set_14 : decode cX6_set 14 = .ok (.ifCond .eq 47, 3) := by decide +kernel
theorem dX6_set_17 : decode cX6_set 17 = .ok (.iload_n 3, 1) := by decide +kernel
theorem dX6_set_18 : decode cX6_set 18 = .ok (.iload_n 2, 1) := by decide +kernel
theorem dX6_set_19 : decode cX6_set 19 = .ok (.iconst 1, 1) := by decide +kernel
theorem dX6_set_20 : decode cX6_set 20 = .ok (.if_icmp .ne 7, 3) := by decide +kernel
theorem dX6_set_23 : decode cX6_set 23 = .ok (.iconst 1, 1) := by decide +kernel
theorem dX6_set_24 : decode cX6_set 24 = .ok (.goto 4, 3) := by decide +kernel
theorem dX6_set_27 : decode cX6_set 27 = .ok (.iconst 0, 1) := by decide +kernel
theorem dX6_set_28 : decode cX6_set 28 = .ok (.iload_n 2, 1) := by decide +kernel
theorem dX6_set_29 : decode cX6_set 29 = .ok (.iconst 1, 1) := by decide +kernel
theorem dX6_set_30 : decode cX6_set 30 = .ok (.if_icmp .ne 8, 3) := by decide +kernel
theorem dX6_set_33 : decode cX6_set 33 = .ok (.bipush 9, 2) := by decide +kernel
theorem dX6_set_35 : decode cX6_set 35 = .ok (.goto 16, 3) := by decide +kernel
theorem dX6_set_38 : decode cX6_set 38 = .ok (.iload_n 2, 1) := by decide +kernel
theorem dX6_set_39 : decode cX6_set 39 = .ok (.iconst 2, 1) := by decide +kernel
theorem dX6_set_40 : decode cX6_set 40 = .ok (.if_icmp .ne 8, 3) := by decide +kernel
theorem dX6_set_43 : decode cX6_set 43 = .ok (.ldc 100, 2) := by decide +kernel
theorem dX6_set_45 : decode cX6_set 45 = .ok (.goto 6, 3) := by decide +kernel
theorem dX6_set_48 : decode cX6_set 48 = .ok (.sipush 9999, 3) := by decide +kernel
theorem dX6_set_51 : decode cX6_set 51 = .ok (.invokestatic 82, 3) := by decide +kernel
theorem dX6_set_54 : decode cX6_set 54 = .ok (.ifCond .eq 7, 3) := by decide +kernel
theorem dX6_set_57 : decode cX6_set 57 = .ok (.iconst 1, 1) := by decide +kernel
theorem dX6_set_58 : decode cX6_set 58 = .ok (.goto 4, 3) := by decide +kernel
theorem dX6_set_61 : decode cX6_set 61 = .ok (.iconst 0, 1) := by decide +kernel
theorem dX6_set_62 : decode cX6_set 62 = .ok (.istore 4, 2) := by decide +kernel
theorem dX6_set_64 : decode cX6_set 64 = .ok (.iload 4, 2) := by decide +kernel
theorem dX6_set_66 : decode cX6_set 66 = .ok (.ifCond .eq 19, 3) := by decide +kernel
theorem dX6_set_69 : decode cX6_set 69 = .ok (.aload_n 0, 1) := by decide +kernel
theorem dX6_set_70 : decode cX6_set 70 = .ok (.bipush 8, 2) := by decide +kernel
theorem dX6_set_72 : decode cX6_set 72 = .ok (.iconst 4, 1) := by decide +kernel
theorem dX6_set_73 : decode cX6_set 73 = .ok (.iload_n 1, 1) := by decide +kernel
theorem dX6_set_74 : decode cX6_set 74 = .ok (.imul, 1) := by decide +kernel
theorem dX6_set_75 : decode cX6_set 75 = .ok (.iadd, 1) := by decide +kernel
theorem dX6_set_76 : decode cX6_set 76 = .ok (.iload_n 2, 1) := by decide +kernel
theorem dX6_set_77 : decode cX6_set 77 = .ok (.iadd, 1) := by decide +kernel
theorem dX6_set_78 : decode cX6_set 78 = .ok (.iload_n 3, 1) := by decide +kernel
theorem dX6_set_79 : decode cX6_set 79 = .ok (.invokevirtual 148, 3) := by decide +kernel
theorem dX6_set_82 : decode cX6_set 82 = .ok (.goto 5, 3) := by decide +kernel
theorem dX6_set_85 : decode cX6_set 85 = .ok (.ldc 90, 2) := by decide +kernel
theorem dX6_set_87 : decode cX6_set 87 = .ok (.ireturn, 1) := by decide +kernel
theorem dX6_draw_0 : decode cX6_draw 0 = .ok (.aload_n 0, 1) := by decide +kernel
theorem dX6_draw_1 : decode cX6_draw 1 = .ok (.getfield 9, 3) := by decide +kernel
theorem dX6_draw_4 : decode cX6_draw 4 = .ok (.iconst 0, 1) := by decide +kernel
theorem dX6_draw_5 : decode cX6_draw 5 = .ok (.aload_n 0, 1) := by decide +kernel
theorem dX6_draw_6 : decode cX6_draw 6 = .ok (.getfield 9, 3) := by decide +kernel
theorem dX6_draw_9 : decode cX6_draw 9 = .ok (.iconst 0, 1) := by decide +kernel
theorem dX6_draw_10 : decode cX6_draw 10 = .ok (.iaload, 1) := by decide +kernel
theorem dX6_draw_11 : decode cX6_draw 11 = .ok (.ldc 151, 2) := by decide +kernel
theorem dX6_draw_13 : decode cX6_draw 13 = .ok (.imul, 1) := by decide +kernel
theorem dX6_draw_14 : decode cX6_draw 14 = .ok (.sipush 12345, 3) := by decide +kernel
theorem dX6_draw_17 : decode cX6_draw 17 = .ok (.iadd, 1) := by decide +kernel
theorem dX6_draw_18 : decode cX6_draw 18 = .ok (.iastore, 1) := by decide +kernel
theorem dX6_draw_19 : decode cX6_draw 19 = .ok (.aload_n 0, 1) := by decide +kernel
theorem dX6_draw_20 : decode cX6_draw 20 = .ok (.getfield 9, 3) := by decide +kernel
theorem dX6_draw_23 : decode cX6_draw 23 = .ok (.iconst 0, 1) := by decide +kernel
theorem dX6_draw_24 : decode cX6_draw 24 = .ok (.iaload, 1) := by decide +kernel
theorem dX6_draw_25 : decode cX6_draw 25 = .ok (.bipush 8, 2) := by decide +kernel
theorem dX6_draw_27 : decode cX6_draw 27 = .ok (.iushr, 1) := by decide +kernel
theorem dX6_draw_28 : decode cX6_draw 28 = .ok (.ireturn, 1) := by decide +kernel
theorem dX6_deal_0 : decode cX6_deal 0 = .ok (.iload_n 1, 1) := by decide +kernel
theorem dX6_deal_1 : decode cX6_deal 1 = .ok (.iconst 1, 1) := by decide +kernel
theorem dX6_deal_2 : decode cX6_deal 2 = .ok (.bipush 8, 2) := by decide +kernel
theorem dX6_deal_4 : decode cX6_deal 4 = .ok (.invokestatic 82, 3) := by decide +kernel
theorem dX6_deal_7 : decode cX6_deal 7 = .ok (.ifCond .ne 6, 3) := by decide +kernel
theorem dX6_deal_10 : decode cX6_deal 10 = .ok (.ldc 90, 2) := by decide +kernel
theorem dX6_deal_12 : decode cX6_deal 12 = .ok (.ireturn, 1) := by decide +kernel
theorem dX6_deal_13 : decode cX6_deal 13 = .ok (.iconst 0, 1) := by decide +kernel
theorem dX6_deal_14 : decode cX6_deal 14 = .ok (.istore_n 2, 1) := by decide +kernel
theorem dX6_deal_15 : decode cX6_deal 15 = .ok (.iload_n 2, 1) := by decide +kernel
theorem dX6_deal_16 : decode cX6_deal 16 = .ok (.iload_n 1, 1) := by decide +kernel
theorem dX6_deal_17 : decode cX6_deal 17 = .ok (.if_icmp .ge 56, 3) := by decide +kernel
theorem dX6_deal_20 : decode cX6_deal 20 = .ok (.aload_n 0, 1) := by decide +kernel
theorem dX6_deal_21 : decode cX6_deal 21 = .ok (.getfield 9, 3) := by decide +kernel
theorem dX6_deal_24 : decode cX6_deal 24 = .ok (.iconst 1, 1) := by decide +kernel
theorem dX6_deal_25 : decode cX6_deal 25 = .ok (.iaload, 1) := by decide +kernel
theorem dX6_deal_26 : decode cX6_deal 26 = .ok (.bipush 8, 2) := by decide +kernel
theorem dX6_deal_28 : decode cX6_deal 28 = .ok (.if_icmp .ge 45, 3) := by decide +kernel
theorem dX6_deal_31 : decode cX6_deal 31 = .ok (.aload_n 0, 1) := by decide +kernel
theorem dX6_deal_32 : decode cX6_deal 32 = .ok (.invokevirtual 152, 3) := by decide +kernel
theorem dX6_deal_35 : decode cX6_deal 35 = .ok (.bipush 6, 2) := by decide +kernel
theorem dX6_deal_37 : decode cX6_deal 37 = .ok (.irem, 1) := by decide +kernel
theorem dX6_deal_38 : decode cX6_deal 38 = .ok (.istore_n 3, 1) := by decide +kernel
theorem dX6_deal_39 : decode cX6_deal 39 = .ok (.iconst 1, 1) := by decide +kernel
theorem dX6_deal_40 : decode cX6_deal 40 = .ok (.aload_n 0, 1) := by decide +kernel
theorem dX6_deal_41 : decode cX6_deal 41 = .ok (.invokevirtual 152, 3) := by decide +kernel
theorem dX6_deal_44 : decode cX6_deal 44 = .ok (.bipush 9, 2) := by decide +kernel
theorem dX6_deal_46 : decode cX6_deal 46 = .ok (.irem, 1) := by decide +kernel
theorem dX6_deal_47 : decode cX6_deal 47 = .ok (.iadd, 1) := by decide +kernel
theorem dX6_deal_48 : decode cX6_deal 48 = .ok (.istore 4, 2) := by decide +kernel
theorem dX6_deal_50 : decode cX6_deal 50 = .ok (.aload_n 0, 1) := by decide +kernel
theorem dX6_deal_51 : decode cX6_deal 51 = .ok (.iload_n 3, 1) := by decide +kernel
end
section
theorem dX6_deal_52 : decode cX6_deal 52 = .ok (.iload 4, 2) := by decide +kernel
theorem dX6_deal_54 : decode cX6_deal 54 = .ok (.aload_n 0, 1) := by decide +kernel
theorem dX6_deal_55 : decode cX6_deal 55 = .ok (.invokevirtual 152, 3) := by decide +kernel
theorem dX6_deal_58 : decode cX6_deal 58 = .ok (.sipush 1000, 3) := by decide +kernel
theorem dX6_deal_61 : decode cX6_deal 61 = .ok (.irem, 1) := by decide +kernel
theorem dX6_deal_62 : decode cX6_deal 62 = .ok (.invokevirtual 92, 3) := by decide +kernel
theorem dX6_deal_65 : decode cX6_deal 65 = .ok (.istore 5, 2) := by decide +kernel
theorem dX6_deal_67 : decode cX6_deal 67 = .ok (.iinc 2 1, 3) := by decide +kernel
theorem dX6_deal_70 : decode cX6_deal 70 = .ok (.goto (-55), 3) := by decide +kernel
theorem dX6_deal_73 : decode cX6_deal 73 = .ok (.iload_n 2, 1) := by decide +kernel
theorem dX6_deal_74 : decode cX6_deal 74 = .ok (.ireturn, 1) := by decide +kernel
theorem dX6_seed_0 : decode cX6_seed 0 = .ok (.aload_n 0, 1) := by decide +kernel
theorem dX6_seed_1 : decode cX6_seed 1 = .ok (.iconst 0, 1) := by decide +kernel
theorem dX6_seed_2 : decode cX6_seed 2 = .ok (.iload_n 1, 1) := by decide +kernel
theorem dX6_seed_3 : decode cX6_seed 3 = .ok (.invokevirtual 148, 3) := by decide +kernel
theorem dX6_seed_6 : decode cX6_seed 6 = .ok (.ireturn, 1) := by decide +kernel
theorem dX6_pot_0 : decode cX6_pot 0 = .ok (.iload_n 1, 1) := by decide +kernel
theorem dX6_pot_1 : decode cX6_pot 1 = .ok (.iconst 0, 1) := by decide +kernel
theorem dX6_pot_2 : decode cX6_pot 2 = .ok (.iconst 1, 1) := by decide +kernel
theorem dX6_pot_3 : decode cX6_pot 3 = .ok (.invokestatic 82, 3) := by decide +kernel
theorem dX6_pot_6 : decode cX6_pot 6 = .ok (.ifCond .eq 27, 3) := by decide +kernel
theorem dX6_pot_9 : decode cX6_pot 9 = .ok (.iload_n 2, 1) := by decide +kernel
theorem dX6_pot_10 : decode cX6_pot 10 = .ok (.iconst 1, 1) := by decide +kernel
theorem dX6_pot_11 : decode cX6_pot 11 = .ok (.iload_n 1, 1) := by decide +kernel
theorem dX6_pot_12 : decode cX6_pot 12 = .ok (.isub, 1) := by decide +kernel
theorem dX6_pot_13 : decode cX6_pot 13 = .ok (.sipush 999, 3) := by decide +kernel
theorem dX6_pot_16 : decode cX6_pot 16 = .ok (.invokestatic 82, 3) := by decide +kernel
theorem dX6_pot_19 : decode cX6_pot 19 = .ok (.ifCond .eq 14, 3) := by decide +kernel
theorem dX6_pot_22 : decode cX6_pot 22 = .ok (.aload_n 0, 1) := by decide +kernel
theorem dX6_pot_23 : decode cX6_pot 23 = .ok (.iconst 2, 1) := by decide +kernel
theorem dX6_pot_24 : decode cX6_pot 24 = .ok (.iload_n 1, 1) := by decide +kernel
theorem dX6_pot_25 : decode cX6_pot 25 = .ok (.iadd, 1) := by decide +kernel
theorem dX6_pot_26 : decode cX6_pot 26 = .ok (.iload_n 2, 1) := by decide +kernel
theorem dX6_pot_27 : decode cX6_pot 27 = .ok (.invokevirtual 148, 3) := by decide +kernel
theorem dX6_pot_30 : decode cX6_pot 30 = .ok (.goto 5, 3) := by decide +kernel
theorem dX6_pot_33 : decode cX6_pot 33 = .ok (.ldc 90, 2) := by decide +kernel
theorem dX6_pot_35 : decode cX6_pot 35 = .ok (.ireturn, 1) := by decide +kernel
theorem dX6_tasteAll_0 : decode cX6_tasteAll 0 = .ok (.iconst 0, 1) := by decide +kernel
theorem dX6_tasteAll_1 : decode cX6_tasteAll 1 = .ok (.istore_n 1, 1) := by decide +kernel
theorem dX6_tasteAll_2 : decode cX6_tasteAll 2 = .ok (.iconst 0, 1) := by decide +kernel
theorem dX6_tasteAll_3 : decode cX6_tasteAll 3 = .ok (.istore_n 2, 1) := by decide +kernel
theorem dX6_tasteAll_4 : decode cX6_tasteAll 4 = .ok (.iload_n 2, 1) := by decide +kernel
theorem dX6_tasteAll_5 : decode cX6_tasteAll 5 = .ok (.aload_n 0, 1) := by decide +kernel
theorem dX6_tasteAll_6 : decode cX6_tasteAll 6 = .ok (.getfield 9, 3) := by decide +kernel
theorem dX6_tasteAll_9 : decode cX6_tasteAll 9 = .ok (.iconst 1, 1) := by decide +kernel
theorem dX6_tasteAll_10 : decode cX6_tasteAll 10 = .ok (.iaload, 1) := by decide +kernel
theorem dX6_tasteAll_11 : decode cX6_tasteAll 11 = .ok (.if_icmp .ge 17, 3) := by decide +kernel
theorem dX6_tasteAll_14 : decode cX6_tasteAll 14 = .ok (.iload_n 1, 1) := by decide +kernel
theorem dX6_tasteAll_15 : decode cX6_tasteAll 15 = .ok (.aload_n 0, 1) := by decide +kernel
theorem dX6_tasteAll_16 : decode cX6_tasteAll 16 = .ok (.iload_n 2, 1) := by decide +kernel
theorem dX6_tasteAll_17 : decode cX6_tasteAll 17 = .ok (.invokevirtual 122, 3) := by decide +kernel
theorem dX6_tasteAll_20 : decode cX6_tasteAll 20 = .ok (.iadd, 1) := by decide +kernel
theorem dX6_tasteAll_21 : decode cX6_tasteAll 21 = .ok (.istore_n 1, 1) := by decide +kernel
theorem dX6_tasteAll_22 : decode cX6_tasteAll 22 = .ok (.iinc 2 1, 3) := by decide +kernel
theorem dX6_tasteAll_25 : decode cX6_tasteAll 25 = .ok (.goto (-21), 3) := by decide +kernel
theorem dX6_tasteAll_28 : decode cX6_tasteAll 28 = .ok (.iload_n 1, 1) := by decide +kernel
theorem dX6_tasteAll_29 : decode cX6_tasteAll 29 = .ok (.ireturn, 1) := by decide +kernel
theorem dX6_day_0 : decode cX6_day 0 = .ok (.iconst 0, 1) := by decide +kernel
theorem dX6_day_1 : decode cX6_day 1 = .ok (.istore_n 1, 1) := by decide +kernel
theorem dX6_day_2 : decode cX6_day 2 = .ok (.iload_n 1, 1) := by decide +kernel
theorem dX6_day_3 : decode cX6_day 3 = .ok (.aload_n 0, 1) := by decide +kernel
theorem dX6_day_4 : decode cX6_day 4 = .ok (.getfield 9, 3) := by decide +kernel
theorem dX6_day_7 : decode cX6_day 7 = .ok (.iconst 1, 1) := by decide +kernel
theorem dX6_day_8 : decode cX6_day 8 = .ok (.iaload, 1) := by decide +kernel
theorem dX6_day_9 : decode cX6_day 9 = .ok (.if_icmp .ge 70, 3) := by decide +kernel
theorem dX6_day_12 : decode cX6_day 12 = .ok (.aload_n 0, 1) := by decide +kernel
theorem dX6_day_13 : decode cX6_day 13 = .ok (.iload_n 1, 1) := by decide +kernel
theorem dX6_day_14 : decode cX6_day 14 = .ok (.iconst 2, 1) := by decide +kernel
theorem dX6_day_15 : decode cX6_day 15 = .ok (.invokevirtual 96, 3) := by decide +kernel
theorem dX6_day_18 : decode cX6_day 18 = .ok (.istore_n 2, 1) := by decide +kernel
theorem dX6_day_19 : decode cX6_day 19 = .ok (.aload_n 0, 1) := by decide +kernel
theorem dX6_day_20 : decode cX6_day 20 = .ok (.getfield 9, 3) := by decide +kernel
theorem dX6_day_23 : decode cX6_day 23 = .ok (.iconst 3, 1) := by decide +kernel
theorem dX6_day_24 : decode cX6_day 24 = .ok (.iaload, 1) := by decide +kernel
theorem dX6_day_25 : decode cX6_day 25 = .ok (.aload_n 0, 1) := by decide +kernel
theorem dX6_day_26 : decode cX6_day 26 = .ok (.getfield 9, 3) := by decide +kernel
theorem dX6_day_29 : decode cX6_day 29 = .ok (.iconst 2, 1) := by decide +kernel
theorem dX6_day_30 : decode cX6_day 30 = .ok (.iaload, 1) := by decide +kernel
theorem dX6_day_31 : decode cX6_day 31 = .ok (.if_icmp .lt 7, 3) := by decide +kernel
theorem dX6_day_34 : decode cX6_day 34 = .ok (.iload_n 2, 1) := by decide +kernel
theorem dX6_day_35 : decode cX6_day 35 = .ok (.goto 18, 3) := by decide +kernel
theorem dX6_day_38 : decode cX6_day 38 = .ok (.iload_n 2, 1) := by decide +kernel
theorem dX6_day_39 : decode cX6_day 39 = .ok (.aload_n 0, 1) := by decide +kernel
theorem dX6_day_40 : decode cX6_day 40 = .ok (.getfield 9, 3) := by decide +kernel
theorem dX6_day_43 : decode cX6_day 43 = .ok (.iconst 3, 1) := by decide +kernel
theorem dX6_day_44 : decode cX6_day 44 = .ok (.iaload, 1) := by decide +kernel
theorem dX6_day_45 : decode cX6_day 45 = .ok (.imul, 1) := by decide +kernel
theorem dX6_day_46 : decode cX6_day 46 = .ok (.aload_n 0, 1) := by decide +kernel
theorem dX6_day_47 : decode cX6_day 47 = .ok (.getfield 9, 3) := by decide +kernel
theorem dX6_day_50 : decode cX6_day 50 = .ok (.iconst 2, 1) := by decide +kernel
theorem dX6_day_51 : decode cX6_day 51 = .ok (.iaload, 1) := by decide +kernel
theorem dX6_day_52 : decode cX6_day 52 = .ok (.idiv, 1) := by decide +kernel
theorem dX6_day_53 : decode cX6_day 53 = .ok (.istore_n 3, 1) := by decide +kernel
theorem dX6_day_54 : decode cX6_day 54 = .ok (.aload_n 0, 1) := by decide +kernel
theorem dX6_day_55 : decode cX6_day 55 = .ok (.iload_n 1, 1) := by decide +kernel
theorem dX6_day_56 : decode cX6_day 56 = .ok (.iconst 2, 1) := by decide +kernel
theorem dX6_day_57 : decode cX6_day 57 = .ok (.iload_n 2, 1) := by decide +kernel
theorem dX6_day_58 : decode cX6_day 58 = .ok (.iload_n 3, 1) := by decide +kernel
theorem dX6_day_59 : decode cX6_day 59 = .ok (.isub, 1) := by decide +kernel
theorem dX6_day_60 : decode cX6_day 60 = .ok (.invokevirtual 86, 3) := by decide +kernel
theorem dX6_day_63 : decode cX6_day 63 = .ok (.aload_n 0, 1) := by decide +kernel
theorem dX6_day_64 : decode cX6_day 64 = .ok (.getfield 9, 3) := by decide +kernel
theorem dX6_day_67 : decode cX6_day 67 = .ok (.iconst 5, 1) := by decide +kernel
theorem dX6_day_68 : decode cX6_day 68 = .ok (.dup2, 1) := by decide +kernel
theorem dX6_day_69 : decode cX6_day 69 = .ok (.iaload, 1) := by decide +kernel
theorem dX6_day_70 : decode cX6_day 70 = .ok (.iload_n 3, 1) := by decide +kernel
theorem dX6_day_71 : decode cX6_day 71 = .ok (.iadd, 1) := by decide +kernel
theorem dX6_day_72 : decode cX6_day 72 = .ok (.iastore, 1) := by decide +kernel
theorem dX6_day_73 : decode cX6_day 73 = .ok (.iinc 1 1, 3) := by decide +kernel
theorem dX6_day_76 : decode cX6_day 76 = .ok (.goto (-74), 3) := by decide +kernel
theorem dX6_day_79 : decode cX6_day 79 = .ok (.iconst 0, 1) := by decide +kernel
theorem dX6_day_80 : decode cX6_day 80 = .ok (.istore_n 1, 1) := by decide +kernel
theorem dX6_day_81 : decode cX6_day 81 = .ok (.iload_n 1, 1) := by decide +kernel
theorem dX6_day_82 : decode cX6_day 82 = .ok (.aload_n 0, 1) := by decide +kernel
theorem dX6_day_83 : decode cX6_day 83 = .ok (.getfield 9, 3) := by decide +kernel
theorem dX6_day_86 : decode cX6_day 86 = .ok (.iconst 1, 1) := by decide +kernel
theorem dX6_day_87 : decode cX6_day 87 = .ok (.iaload, 1) := by decide +kernel
theorem dX6_day_88 : decode cX6_day 88 = .ok (.if_icmp .ge 74, 3) := by decide +kernel
theorem dX6_day_91 : decode cX6_day 91 = .ok (.aload_n 0, 1) := by decide +kernel
theorem dX6_day_92 : decode cX6_day 92 = .ok (.iload_n 1, 1) := by decide +kernel
theorem dX6_day_93 : decode cX6_day 93 = .ok (.invokevirtual 134, 3) := by decide +kernel
theorem dX6_day_96 : decode cX6_day 96 = .ok (.istore_n 2, 1) := by decide +kernel
theorem dX6_day_97 : decode cX6_day 97 = .ok (.aload_n 0, 1) := by decide +kernel
theorem dX6_day_98 : decode cX6_day 98 = .ok (.iload_n 1, 1) := by decide +kernel
theorem dX6_day_99 : decode cX6_day 99 = .ok (.iconst 2, 1) := by decide +kernel
theorem dX6_day_100 : decode cX6_day 100 = .ok (.aload_n 0, 1) := by decide +kernel
theorem dX6_day_101 : decode cX6_day 101 = .ok (.iload_n 1, 1) := by decide +kernel
theorem dX6_day_102 : decode cX6_day 102 = .ok (.iconst 2, 1) := by decide +kernel
theorem dX6_day_103 : decode cX6_day 103 = .ok (.invokevirtual 96, 3) := by decide +kernel
theorem dX6_day_106 : decode cX6_day 106 = .ok (.iload_n 2, 1) := by decide +kernel
theorem dX6_day_107 : decode cX6_day 107 = .ok (.isub, 1) := by decide +kernel
theorem dX6_day_108 : decode cX6_day 108 = .ok (.invokevirtual 86, 3) := by decide +kernel
theorem dX6_day_111 : decode cX6_day 111 = .ok (.aload_n 0, 1) := by decide +kernel
theorem dX6_day_112 : decode cX6_day 112 = .ok (.getfield 9, 3) := by decide +kernel
theorem dX6_day_115 : decode cX6_day 115 = .ok (.bipush 6, 2) := by decide +kernel
theorem dX6_day_117 : decode cX6_day 117 = .ok (.dup2, 1) := by decide +kernel
theorem dX6_day_118 : decode cX6_day 118 = .ok (.iaload, 1) := by decide +kernel
theorem dX6_day_119 : decode cX6_day 119 = .ok (.iload_n 2, 1) := by decide +kernel
theorem dX6_day_120 : decode cX6_day 120 = .ok (.iadd, 1) := by decide +kernel
theorem dX6_day_121 : decode cX6_day 121 = .ok (.iastore, 1) := by decide +kernel
theorem dX6_day_122 : decode cX6_day 122 = .ok (.aload_n 0, 1) := by decide +kernel
theorem dX6_day_123 : decode cX6_day 123 = .ok (.iload_n 1, 1) := by decide +kernel
theorem dX6_day_124 : decode cX6_day 124 = .ok (.iconst 3, 1) := by decide +kernel
theorem dX6_day_125 : decode cX6_day 125 = .ok (.aload_n 0, 1) := by decide +kernel
theorem dX6_day_126 : decode cX6_day 126 = .ok (.iload_n 1, 1) := by decide +kernel
theorem dX6_day_127 : decode cX6_day 127 = .ok (.iconst 2, 1) := by decide +kernel
theorem dX6_day_128 : decode cX6_day 128 = .ok (.invokevirtual 96, 3) := by decide +kernel
theorem dX6_day_131 : decode cX6_day 131 = .ok (.ifCond .ne 7, 3) := by decide +kernel
theorem dX6_day_134 : decode cX6_day 134 = .ok (.iconst 0, 1) := by decide +kernel
theorem dX6_day_135 : decode cX6_day 135 = .ok (.goto 18, 3) := by decide +kernel
theorem dX6_day_138 : decode cX6_day 138 = .ok (.aload_n 0, 1) := by decide +kernel
theorem dX6_day_139 : decode cX6_day 139 = .ok (.iload_n 1, 1) := by decide +kernel
theorem dX6_day_140 : decode cX6_day 140 = .ok (.iconst 3, 1) := by decide +kernel
theorem dX6_day_141 : decode cX6_day 141 = .ok (.invokevirtual 96, 3) := by decide +kernel
theorem dX6_day_144 : decode cX6_day 144 = .ok (.iconst 1, 1) := by decide +kernel
theorem dX6_day_145 : decode cX6_day 145 = .ok (.iadd, 1) := by decide +kernel
theorem dX6_day_146 : decode cX6_day 146 = .ok (.iconst 0, 1) := by decide +kernel
theorem dX6_day_147 : decode cX6_day 147 = .ok (.sipush 9999, 3) := by decide +kernel
theorem dX6_day_150 : decode cX6_day 150 = .ok (.invokestatic 101, 3) := by decide +kernel
theorem dX6_day_153 : decode cX6_day 153 = .ok (.invokevirtual 86, 3) := by decide +kernel
theorem dX6_day_156 : decode cX6_day 156 = .ok (.iinc 1 1, 3) := by decide +kernel
theorem dX6_day_159 : decode cX6_day 159 = .ok (.goto (-78), 3) := by decide +kernel
theorem dX6_day_162 : decode cX6_day 162 = .ok (.aload_n 0, 1) := by decide +kernel
theorem dX6_day_163 : decode cX6_day 163 = .ok (.getfield 9, 3) := by decide +kernel
theorem dX6_day_166 : decode cX6_day 166 = .ok (.iconst 4, 1) := by decide +kernel
theorem dX6_day_167 : decode cX6_day 167 = .ok (.dup2, 1) := by decide +kernel
theorem dX6_day_168 : decode cX6_day 168 = .ok (.iaload, 1) := by decide +kernel
theorem dX6_day_169 : decode cX6_day 169 = .ok (.iconst 1, 1) := by decide +kernel
theorem dX6_day_170 : decode cX6_day 170 = .ok (.iadd, 1) := by decide +kernel
theorem dX6_day_171 : decode cX6_day 171 = .ok (.iastore, 1) := by decide +kernel
theorem dX6_day_172 : decode cX6_day 172 = .ok (.return_, 1) := by decide +kernel
theorem dX6_goesOn_0 : decode cX6_goesOn 0 = .ok (.iconst 0, 1) := by decide +kernel
theorem dX6_goesOn_1 : decode cX6_goesOn 1 = .ok (.istore_n 2, 1) := by decide +kernel
theorem dX6_goesOn_2 : decode cX6_goesOn 2 = .ok (.iload_n 2, 1) := by decide +kernel
theorem dX6_goesOn_3 : decode cX6_goesOn 3 = .ok (.iload_n 1, 1) := by decide +kernel
theorem dX6_goesOn_4 : decode cX6_goesOn 4 = .ok (.if_icmp .ge 13, 3) := by decide +kernel
theorem dX6_goesOn_7 : decode cX6_goesOn 7 = .ok (.aload_n 0, 1) := by decide +kernel
theorem dX6_goesOn_8 : decode cX6_goesOn 8 = .ok (.invokevirtual 155, 3) := by decide +kernel
theorem dX6_goesOn_11 : decode cX6_goesOn 11 = .ok (.iinc 2 1, 3) := by decide +kernel
theorem dX6_goesOn_14 : decode cX6_goesOn 14 = .ok (.goto (-12), 3) := by decide +kernel
theorem dX6_goesOn_17 : decode cX6_goesOn 17 = .ok (.return_, 1) := by decide +kernel
theorem dX6_days_0 : decode cX6_days 0 = .ok (.iload_n 1, 1) := by decide +kernel
theorem dX6_days_1 : decode cX6_days 1 = .ok (.iconst 1, 1) := by decide +kernel
theorem dX6_days_2 : decode cX6_days 2 = .ok (.sipush 300, 3) := by decide +kernel
theorem dX6_days_5 : decode cX6_days 5 = .ok (.invokestatic 82, 3) := by decide +kernel
theorem dX6_days_8 : decode cX6_days 8 = .ok (.ifCond .ne 6, 3) := by decide +kernel
theorem dX6_days_11 : decode cX6_days 11 = .ok (.ldc 90, 2) := by decide +kernel
theorem dX6_days_13 : decode cX6_days 13 = .ok (.ireturn, 1) := by decide +kernel
theorem dX6_days_14 : decode cX6_days 14 = .ok (.aload_n 0, 1) := by decide +kernel
theorem dX6_days_15 : decode cX6_days 15 = .ok (.sipush 9999, 3) := by decide +kernel
theorem dX6_days_18 : decode cX6_days 18 = .ok (.aload_n 0, 1) := by decide +kernel
theorem dX6_days_19 : decode cX6_days 19 = .ok (.getfield 9, 3) := by decide +kernel
theorem dX6_days_22 : decode cX6_days 22 = .ok (.iconst 4, 1) := by decide +kernel
theorem dX6_days_23 : decode cX6_days 23 = .ok (.iaload, 1) := by decide +kernel
theorem dX6_days_24 : decode cX6_days 24 = .ok (.isub, 1) := by decide +kernel
theorem dX6_days_25 : decode cX6_days 25 = .ok (.iconst 0, 1) := by decide +kernel
theorem dX6_days_26 : decode cX6_days 26 = .ok (.iload_n 1, 1) := by decide +kernel
theorem dX6_days_27 : decode cX6_days 27 = .ok (.invokestatic 101, 3) := by decide +kernel
theorem dX6_days_30 : decode cX6_days 30 = .ok (.invokevirtual 158, 3) := by decide +kernel
theorem dX6_days_33 : decode cX6_days 33 = .ok (.aload_n 0, 1) := by decide +kernel
theorem dX6_days_34 : decode cX6_days 34 = .ok (.invokevirtual 162, 3) := by decide +kernel
theorem dX6_days_37 : decode cX6_days 37 = .ok (.ireturn, 1) := by decide +kernel
theorem dX6_taste_0 : decode cX6_taste 0 = .ok (.aload_n 0, 1) := by decide +kernel
theorem dX6_taste_1 : decode cX6_taste 1 = .ok (.invokevirtual 162, 3) := by decide +kernel
theorem dX6_taste_4 : decode cX6_taste 4 = .ok (.ireturn, 1) := by decide +kernel
theorem dX6_grams_0 : decode cX6_grams 0 = .ok (.iload_n 1, 1) := by decide +kernel
theorem dX6_grams_1 : decode cX6_grams 1 = .ok (.iconst 0, 1) := by decide +kernel
theorem dX6_grams_2 : decode cX6_grams 2 = .ok (.iconst 2, 1) := by decide +kernel
theorem dX6_grams_3 : decode cX6_grams 3 = .ok (.invokestatic 82, 3) := by decide +kernel
theorem dX6_grams_6 : decode cX6_grams 6 = .ok (.ifCond .ne 8, 3) := by decide +kernel
theorem dX6_grams_9 : decode cX6_grams 9 = .ok (.ldc 90, 2) := by decide +kernel
theorem dX6_grams_11 : decode cX6_grams 11 = .ok (.goto 23, 3) := by decide +kernel
theorem dX6_grams_14 : decode cX6_grams 14 = .ok (.iload_n 1, 1) := by decide +kernel
theorem dX6_grams_15 : decode cX6_grams 15 = .ok (.iconst 2, 1) := by decide +kernel
theorem dX6_grams_16 : decode cX6_grams 16 = .ok (.if_icmp .ge 14, 3) := by decide +kernel
theorem dX6_grams_19 : decode cX6_grams 19 = .ok (.aload_n 0, 1) := by decide +kernel
theorem dX6_grams_20 : decode cX6_grams 20 = .ok (.getfield 9, 3) := by decide +kernel
theorem dX6_grams_23 : decode cX6_grams 23 = .ok (.iconst 5, 1) := by decide +kernel
theorem dX6_grams_24 : decode cX6_grams 24 = .ok (.iload_n 1, 1) := by decide +kernel
theorem dX6_grams_25 : decode cX6_grams 25 = .ok (.iadd, 1) := by decide +kernel
theorem dX6_grams_26 : decode cX6_grams 26 = .ok (.iaload, 1) := by decide +kernel
theorem dX6_grams_27 : decode cX6_grams 27 = .ok (.goto 7, 3) := by decide +kernel
theorem dX6_grams_30 : decode cX6_grams 30 = .ok (.aload_n 0, 1) := by decide +kernel
theorem dX6_grams_31 : decode cX6_grams 31 = .ok (.invokevirtual 128, 3) := by decide +kernel
theorem dX6_grams_34 : decode cX6_grams 34 = .ok (.ireturn, 1) := by decide +kernel
theorem dX6_lot_0 : decode cX6_lot 0 = .ok (.aload_n 0, 1) := by decide +kernel
theorem dX6_lot_1 : decode cX6_lot 1 = .ok (.iconst 2, 1) := by decide +kernel
theorem dX6_lot_2 : decode cX6_lot 2 = .ok (.invokevirtual 112, 3) := by decide +kernel
theorem dX6_lot_5 : decode cX6_lot 5 = .ok (.istore_n 1, 1) := by decide +kernel
theorem dX6_lot_6 : decode cX6_lot 6 = .ok (.aload_n 0, 1) := by decide +kernel
theorem dX6_lot_7 : decode cX6_lot 7 = .ok (.invokevirtual 162, 3) := by decide +kernel
theorem dX6_lot_10 : decode cX6_lot 10 = .ok (.istore_n 2, 1) := by decide +kernel
theorem dX6_lot_11 : decode cX6_lot 11 = .ok (.aload_n 0, 1) := by decide +kernel
theorem dX6_lot_12 : decode cX6_lot 12 = .ok (.getfield 51, 3) := by decide +kernel
theorem dX6_lot_15 : decode cX6_lot 15 = .ok (.iconst 0, 1) := by decide +kernel
theorem dX6_lot_16 : decode cX6_lot 16 = .ok (.aload_n 0, 1) := by decide +kernel
theorem dX6_lot_17 : decode cX6_lot 17 = .ok (.getfield 9, 3) := by decide +kernel
theorem dX6_lot_20 : decode cX6_lot 20 = .ok (.iconst 4, 1) := by decide +kernel
theorem dX6_lot_21 : decode cX6_lot 21 = .ok (.iaload, 1) := by decide +kernel
theorem dX6_lot_22 : decode cX6_lot 22 = .ok (.iastore, 1) := by decide +kernel
theorem dX6_lot_23 : decode cX6_lot 23 = .ok (.aload_n 0, 1) := by decide +kernel
theorem dX6_lot_24 : decode cX6_lot 24 = .ok (.getfield 51, 3) := by decide +kernel
theorem dX6_lot_27 : decode cX6_lot 27 = .ok (.iconst 1, 1) := by decide +kernel
theorem dX6_lot_28 : decode cX6_lot 28 = .ok (.iload_n 2, 1) := by decide +kernel
theorem dX6_lot_29 : decode cX6_lot 29 = .ok (.iastore, 1) := by decide +kernel
theorem dX6_lot_30 : decode cX6_lot 30 = .ok (.iload_n 1, 1) := by decide +kernel
theorem dX6_lot_31 : decode cX6_lot 31 = .ok (.ifCond .ge 7, 3) := by decide +kernel
theorem dX6_lot_34 : decode cX6_lot 34 = .ok (.iconst 0, 1) := by decide +kernel
theorem dX6_lot_35 : decode cX6_lot 35 = .ok (.goto 8, 3) := by decide +kernel
theorem dX6_lot_38 : decode cX6_lot 38 = .ok (.aload_n 0, 1) := by decide +kernel
theorem dX6_lot_39 : decode cX6_lot 39 = .ok (.iload_n 1, 1) := by decide +kernel
theorem dX6_lot_40 : decode cX6_lot 40 = .ok (.invokevirtual 116, 3) := by decide +kernel
theorem dX6_lot_43 : decode cX6_lot 43 = .ok (.ireturn, 1) := by decide +kernel
theorem dX6_thinks_0 : decode cX6_thinks 0 = .ok (.iconst 0, 1) := by decide +kernel
theorem dX6_thinks_1 : decode cX6_thinks 1 = .ok (.istore_n 1, 1) := by decide +kernel
theorem dX6_thinks_2 : decode cX6_thinks 2 = .ok (.iload_n 1, 1) := by decide +kernel
theorem dX6_thinks_3 : decode cX6_thinks 3 = .ok (.bipush 40, 2) := by decide +kernel
theorem dX6_thinks_5 : decode cX6_thinks 5 = .ok (.if_icmp .ge 21, 3) := by decide +kernel
theorem dX6_thinks_8 : decode cX6_thinks 8 = .ok (.aload_n 0, 1) := by decide +kernel
theorem dX6_thinks_9 : decode cX6_thinks 9 = .ok (.getfield 19, 3) := by decide +kernel
theorem dX6_thinks_12 : decode cX6_thinks 12 = .ok (.iload_n 1, 1) := by decide +kernel
theorem dX6_thinks_13 : decode cX6_thinks 13 = .ok (.aload_n 0, 1) := by decide +kernel
theorem dX6_thinks_14 : decode cX6_thinks 14 = .ok (.getfield 9, 3) := by decide +kernel
theorem dX6_thinks_17 : decode cX6_thinks 17 = .ok (.iload_n 1, 1) := by decide +kernel
theorem dX6_thinks_18 : decode cX6_thinks 18 = .ok (.iaload, 1) := by decide +kernel
theorem dX6_thinks_19 : decode cX6_thinks 19 = .ok (.iastore, 1) := by decide +kernel
theorem dX6_thinks_20 : decode cX6_thinks 20 = .ok (.iinc 1 1, 3) := by decide +kernel
theorem dX6_thinks_23 : decode cX6_thinks 23 = .ok (.goto (-21), 3) := by decide +kernel
theorem dX6_thinks_26 : decode cX6_thinks 26 = .ok (.return_, 1) := by decide +kernel
theorem dX6_putsBack_0 : decode cX6_putsBack 0 = .ok (.iconst 0, 1) := by decide +kernel
theorem dX6_putsBack_1 : decode cX6_putsBack 1 = .ok (.istore_n 1, 1) := by decide +kernel
theorem dX6_putsBack_2 : decode cX6_putsBack 2 = .ok (.iload_n 1, 1) := by decide +kernel
theorem dX6_putsBack_3 : decode cX6_putsBack 3 = .ok (.bipush 40, 2) := by decide +kernel
theorem dX6_putsBack_5 : decode cX6_putsBack 5 = .ok (.if_icmp .ge 21, 3) := by decide +kernel
theorem dX6_putsBack_8 : decode cX6_putsBack 8 = .ok (.aload_n 0, 1) := by decide +kernel
theorem dX6_putsBack_9 : decode cX6_putsBack 9 = .ok (.getfield 9, 3) := by decide +kernel
theorem dX6_putsBack_12 : decode cX6_putsBack 12 = .ok (.iload_n 1, 1) := by decide +kernel
theorem dX6_putsBack_13 : decode cX6_putsBack 13 = .ok (.aload_n 0, 1) := by decide +kernel
theorem dX6_putsBack_14 : decode cX6_putsBack 14 = .ok (.getfield 19, 3) := by decide +kernel
theorem dX6_putsBack_17 : decode cX6_putsBack 17 = .ok (.iload_n 1, 1) := by decide +kernel
theorem dX6_putsBack_18 : decode cX6_putsBack 18 = .ok (.iaload, 1) := by decide +kernel
theorem dX6_putsBack_19 : decode cX6_putsBack 19 = .ok (.iastore, 1) := by decide +kernel
theorem dX6_putsBack_20 : decode cX6_putsBack 20 = .ok (.iinc 1 1, 3) := by decide +kernel
theorem dX6_putsBack_23 : decode cX6_putsBack 23 = .ok (.goto (-21), 3) := by decide +kernel
theorem dX6_putsBack_26 : decode cX6_putsBack 26 = .ok (.return_, 1) := by decide +kernel
theorem dX6_behind_0 : decode cX6_behind 0 = .ok (.aload_n 0, 1) := by decide +kernel
theorem dX6_behind_1 : decode cX6_behind 1 = .ok (.iload_n 1, 1) := by decide +kernel
theorem dX6_behind_2 : decode cX6_behind 2 = .ok (.invokevirtual 104, 3) := by decide +kernel
theorem dX6_behind_5 : decode cX6_behind 5 = .ok (.ifCond .eq 23, 3) := by decide +kernel
theorem dX6_behind_8 : decode cX6_behind 8 = .ok (.iload_n 2, 1) := by decide +kernel
theorem dX6_behind_9 : decode cX6_behind 9 = .ok (.iconst 0, 1) := by decide +kernel
theorem dX6_behind_10 : decode cX6_behind 10 = .ok (.sipush 300, 3) := by decide +kernel
theorem dX6_behind_13 : decode cX6_behind 13 = .ok (.invokestatic 82, 3) := by decide +kernel
theorem dX6_behind_16 : decode cX6_behind 16 = .ok (.ifCond .eq 12, 3) := by decide +kernel
theorem dX6_behind_19 : decode cX6_behind 19 = .ok (.iload_n 3, 1) := by decide +kernel
theorem dX6_behind_20 : decode cX6_behind 20 = .ok (.iconst 0, 1) := by decide +kernel
theorem dX6_behind_21 : decode cX6_behind 21 = .ok (.iconst 3, 1) := by decide +kernel
theorem dX6_behind_22 : decode cX6_behind 22 = .ok (.invokestatic 82, 3) := by decide +kernel
theorem dX6_behind_25 : decode cX6_behind 25 = .ok (.ifCond .ne 6, 3) := by decide +kernel
theorem dX6_behind_28 : decode cX6_behind 28 = .ok (.ldc 90, 2) := by decide +kernel
theorem dX6_behind_30 : decode cX6_behind 30 = .ok (.ireturn, 1) := by decide +kernel
theorem dX6_behind_31 : decode cX6_behind 31 = .ok (.aload_n 0, 1) := by decide +kernel
theorem dX6_behind_32 : decode cX6_behind 32 = .ok (.invokevirtual 165, 3) := by decide +kernel
theorem dX6_behind_35 : decode cX6_behind 35 = .ok (.aload_n 0, 1) := by decide +kernel
theorem dX6_behind_36 : decode cX6_behind 36 = .ok (.iload_n 2, 1) := by decide +kernel
theorem dX6_behind_37 : decode cX6_behind 37 = .ok (.invokevirtual 158, 3) := by decide +kernel
theorem dX6_behind_40 : decode cX6_behind 40 = .ok (.iload_n 3, 1) := by decide +kernel
theorem dX6_behind_41 : decode cX6_behind 41 = .ok (.ifCond .ne 12, 3) := by decide +kernel
theorem dX6_behind_44 : decode cX6_behind 44 = .ok (.aload_n 0, 1) := by decide +kernel
theorem dX6_behind_45 : decode cX6_behind 45 = .ok (.iload_n 1, 1) := by decide +kernel
theorem dX6_behind_46 : decode cX6_behind 46 = .ok (.iconst 2, 1) := by decide +kernel
theorem dX6_behind_47 : decode cX6_behind 47 = .ok (.invokevirtual 96, 3) := by decide +kernel
theorem dX6_behind_50 : decode cX6_behind 50 = .ok (.goto 34, 3) := by decide +kernel
theorem dX6_behind_53 : decode cX6_behind 53 = .ok (.iload_n 3, 1) := by decide +kernel
theorem dX6_behind_54 : decode cX6_behind 54 = .ok (.iconst 1, 1) := by decide +kernel
theorem dX6_behind_55 : decode cX6_behind 55 = .ok (.if_icmp .ne 11, 3) := by decide +kernel
theorem dX6_behind_58 : decode cX6_behind 58 = .ok (.aload_n 0, 1) := by decide +kernel
theorem dX6_behind_59 : decode cX6_behind 59 = .ok (.iload_n 1, 1) := by decide +kernel
theorem dX6_behind_60 : decode cX6_behind 60 = .ok (.invokevirtual 122, 3) := by decide +kernel
theorem dX6_behind_63 : decode cX6_behind 63 = .ok (.goto 21, 3) := by decide +kernel
theorem dX6_behind_66 : decode cX6_behind 66 = .ok (.iload_n 3, 1) := by decide +kernel
theorem dX6_behind_67 : decode cX6_behind 67 = .ok (.iconst 2, 1) := by decide +kernel
theorem dX6_behind_68 : decode cX6_behind 68 = .ok (.if_icmp .ne 10, 3) := by decide +kernel
theorem dX6_behind_71 : decode cX6_behind 71 = .ok (.aload_n 0, 1) := by decide +kernel
theorem dX6_behind_72 : decode cX6_behind 72 = .ok (.invokevirtual 162, 3) := by decide +kernel
theorem dX6_behind_75 : decode cX6_behind 75 = .ok (.goto 9, 3) := by decide +kernel
theorem dX6_behind_78 : decode cX6_behind 78 = .ok (.aload_n 0, 1) := by decide +kernel
theorem dX6_behind_79 : decode cX6_behind 79 = .ok (.getfield 9, 3) := by decide +kernel
theorem dX6_behind_82 : decode cX6_behind 82 = .ok (.iconst 5, 1) := by decide +kernel
theorem dX6_behind_83 : decode cX6_behind 83 = .ok (.iaload, 1) := by decide +kernel
theorem dX6_behind_84 : decode cX6_behind 84 = .ok (.istore 4, 2) := by decide +kernel
theorem dX6_behind_86 : decode cX6_behind 86 = .ok (.aload_n 0, 1) := by decide +kernel
theorem dX6_behind_87 : decode cX6_behind 87 = .ok (.invokevirtual 168, 3) := by decide +kernel
theorem dX6_behind_90 : decode cX6_behind 90 = .ok (.iload 4, 2) := by decide +kernel
theorem dX6_behind_92 : decode cX6_behind 92 = .ok (.ireturn, 1) := by decide +kernel
theorem dX6_tasted_0 : decode cX6_tasted 0 = .ok (.aload_n 0, 1) := by decide +kernel
theorem dX6_tasted_1 : decode cX6_tasted 1 = .ok (.iload_n 1, 1) := by decide +kernel
theorem dX6_tasted_2 : decode cX6_tasted 2 = .ok (.invokevirtual 104, 3) := by decide +kernel
theorem dX6_tasted_5 : decode cX6_tasted 5 = .ok (.ifCond .ne 6, 3) := by decide +kernel
theorem dX6_tasted_8 : decode cX6_tasted 8 = .ok (.ldc 90, 2) := by decide +kernel
theorem dX6_tasted_10 : decode cX6_tasted 10 = .ok (.ireturn, 1) := by decide +kernel
theorem dX6_tasted_11 : decode cX6_tasted 11 = .ok (.aload_n 0, 1) := by decide +kernel
theorem dX6_tasted_12 : decode cX6_tasted 12 = .ok (.invokevirtual 165, 3) := by decide +kernel
theorem dX6_tasted_15 : decode cX6_tasted 15 = .ok (.iconst 0, 1) := by decide +kernel
theorem dX6_tasted_16 : decode cX6_tasted 16 = .ok (.istore_n 2, 1) := by decide +kernel
theorem dX6_tasted_17 : decode cX6_tasted 17 = .ok (.iload_n 2, 1) := by decide +kernel
theorem dX6_tasted_18 : decode cX6_tasted 18 = .ok (.sipush 300, 3) := by decide +kernel
theorem dX6_tasted_21 : decode cX6_tasted 21 = .ok (.if_icmp .gt 21, 3) := by decide +kernel
theorem dX6_tasted_24 : decode cX6_tasted 24 = .ok (.aload_n 0, 1) := by decide +kernel
theorem dX6_tasted_25 : decode cX6_tasted 25 = .ok (.iload_n 1, 1) := by decide +kernel
theorem dX6_tasted_26 : decode cX6_tasted 26 = .ok (.invokevirtual 122, 3) := by decide +kernel
theorem dX6_tasted_29 : decode cX6_tasted 29 = .ok (.ifCond .le 13, 3) := by decide +kernel
theorem dX6_tasted_32 : decode cX6_tasted 32 = .ok (.aload_n 0, 1) := by decide +kernel
theorem dX6_tasted_33 : decode cX6_tasted 33 = .ok (.invokevirtual 155, 3) := by decide +kernel
theorem dX6_tasted_36 : decode cX6_tasted 36 = .ok (.iinc 2 1, 3) := by decide +kernel
theorem dX6_tasted_39 : decode cX6_tasted 39 = .ok (.goto (-22), 3) := by decide +kernel
theorem dX6_tasted_42 : decode cX6_tasted 42 = .ok (.aload_n 0, 1) := by decide +kernel
theorem dX6_tasted_43 : decode cX6_tasted 43 = .ok (.invokevirtual 168, 3) := by decide +kernel
theorem dX6_tasted_46 : decode cX6_tasted 46 = .ok (.iload_n 2, 1) := by decide +kernel
theorem dX6_tasted_47 : decode cX6_tasted 47 = .ok (.sipush 300, 3) := by decide +kernel
theorem dX6_tasted_50 : decode cX6_tasted 50 = .ok (.if_icmp .gt 7, 3) := by decide +kernel
theorem dX6_tasted_53 : decode cX6_tasted 53 = .ok (.iload_n 2, 1) := by decide +kernel
theorem dX6_tasted_54 : decode cX6_tasted 54 = .ok (.goto 5, 3) := by decide +kernel
theorem dX6_tasted_57 : decode cX6_tasted 57 = .ok (.ldc 81, 2) := by decide +kernel
theorem dX6_tasted_59 : decode cX6_tasted 59 = .ok (.ireturn, 1) := by decide +kernel
theorem dX6_findSteer_0 : decode cX6_findSteer 0 = .ok (.aload_n 0, 1) := by decide +kernel
theorem dX6_findSteer_1 : decode cX6_findSteer 1 = .ok (.invokevirtual 165, 3) := by decide +kernel
theorem dX6_findSteer_4 : decode cX6_findSteer 4 = .ok (.iconst (-1), 1) := by decide +kernel
theorem dX6_findSteer_5 : decode cX6_findSteer 5 = .ok (.istore_n 3, 1) := by decide +kernel
theorem dX6_findSteer_6 : decode cX6_findSteer 6 = .ok (.iconst 0, 1) := by decide +kernel
theorem dX6_findSteer_7 : decode cX6_findSteer 7 = .ok (.istore 4, 2) := by decide +kernel
theorem dX6_findSteer_9 : decode cX6_findSteer 9 = .ok (.iload 4, 2) := by decide +kernel
theorem dX6_findSteer_11 : decode cX6_findSteer 11 = .ok (.aload_n 0, 1) := by decide +kernel
theorem dX6_findSteer_12 : decode cX6_findSteer 12 = .ok (.getfield 9, 3) := by decide +kernel
theorem dX6_findSteer_15 : decode cX6_findSteer 15 = .ok (.iconst 1, 1) := by decide +kernel
theorem dX6_findSteer_16 : decode cX6_findSteer 16 = .ok (.iaload, 1) := by decide +kernel
theorem dX6_findSteer_17 : decode cX6_findSteer 17 = .ok (.if_icmp .ge 99, 3) := by decide +kernel
theorem dX6_findSteer_20 : decode cX6_findSteer 20 = .ok (.iconst 0, 1) := by decide +kernel
theorem dX6_findSteer_21 : decode cX6_findSteer 21 = .ok (.istore 5, 2) := by decide +kernel
theorem dX6_findSteer_23 : decode cX6_findSteer 23 = .ok (.iload 5, 2) := by decide +kernel
theorem dX6_findSteer_25 : decode cX6_findSteer 25 = .ok (.bipush 20, 2) := by decide +kernel
theorem dX6_findSteer_27 : decode cX6_findSteer 27 = .ok (.if_icmp .gt 83, 3) := by decide +kernel
theorem dX6_findSteer_30 : decode cX6_findSteer 30 = .ok (.aload_n 0, 1) := by decide +kernel
theorem dX6_findSteer_31 : decode cX6_findSteer 31 = .ok (.iload 4, 2) := by decide +kernel
theorem dX6_findSteer_33 : decode cX6_findSteer 33 = .ok (.bipush 50, 2) := by decide +kernel
theorem dX6_findSteer_35 : decode cX6_findSteer 35 = .ok (.iload 5, 2) := by decide +kernel
theorem dX6_findSteer_37 : decode cX6_findSteer 37 = .ok (.imul, 1) := by decide +kernel
theorem dX6_findSteer_38 : decode cX6_findSteer 38 = .ok (.invokevirtual 108, 3) := by decide +kernel
theorem dX6_findSteer_41 : decode cX6_findSteer 41 = .ok (.aload_n 0, 1) := by decide +kernel
theorem dX6_findSteer_42 : decode cX6_findSteer 42 = .ok (.iload_n 2, 1) := by decide +kernel
theorem dX6_findSteer_43 : decode cX6_findSteer 43 = .ok (.invokevirtual 158, 3) := by decide +kernel
theorem dX6_findSteer_46 : decode cX6_findSteer 46 = .ok (.aload_n 0, 1) := by decide +kernel
theorem dX6_findSteer_47 : decode cX6_findSteer 47 = .ok (.invokevirtual 162, 3) := by decide +kernel
theorem dX6_findSteer_50 : decode cX6_findSteer 50 = .ok (.istore 6, 2) := by decide +kernel
theorem dX6_findSteer_52 : decode cX6_findSteer 52 = .ok (.aload_n 0, 1) := by decide +kernel
theorem dX6_findSteer_53 : decode cX6_findSteer 53 = .ok (.invokevirtual 168, 3) := by decide +kernel
theorem dX6_findSteer_56 : decode cX6_findSteer 56 = .ok (.iload_n 3, 1) := by decide +kernel
theorem dX6_findSteer_57 : decode cX6_findSteer 57 = .ok (.ifCond .lt 13, 3) := by decide +kernel
theorem dX6_findSteer_60 : decode cX6_findSteer 60 = .ok (.iload 6, 2) := by decide +kernel
theorem dX6_findSteer_62 : decode cX6_findSteer 62 = .ok (.iload_n 1, 1) := by decide +kernel
theorem dX6_findSteer_63 : decode cX6_findSteer 63 = .ok (.invokestatic 171, 3) := by decide +kernel
theorem dX6_findSteer_66 : decode cX6_findSteer 66 = .ok (.iload_n 3, 1) := by decide +kernel
theorem dX6_findSteer_67 : decode cX6_findSteer 67 = .ok (.if_icmp .ge 37, 3) := by decide +kernel
theorem dX6_findSteer_70 : decode cX6_findSteer 70 = .ok (.iload 6, 2) := by decide +kernel
theorem dX6_findSteer_72 : decode cX6_findSteer 72 = .ok (.iload_n 1, 1) := by decide +kernel
theorem dX6_findSteer_73 : decode cX6_findSteer 73 = .ok (.invokestatic 171, 3) := by decide +kernel
theorem dX6_findSteer_76 : decode cX6_findSteer 76 = .ok (.istore_n 3, 1) := by decide +kernel
theorem dX6_findSteer_77 : decode cX6_findSteer 77 = .ok (.aload_n 0, 1) := by decide +kernel
theorem dX6_findSteer_78 : decode cX6_findSteer 78 = .ok (.getfield 22, 3) := by decide +kernel
theorem dX6_findSteer_81 : decode cX6_findSteer 81 = .ok (.iconst 0, 1) := by decide +kernel
theorem dX6_findSteer_82 : decode cX6_findSteer 82 = .ok (.iload 4, 2) := by decide +kernel
theorem dX6_findSteer_84 : decode cX6_findSteer 84 = .ok (.iastore, 1) := by decide +kernel
theorem dX6_findSteer_85 : decode cX6_findSteer 85 = .ok (.aload_n 0, 1) := by decide +kernel
theorem dX6_findSteer_86 : decode cX6_findSteer 86 = .ok (.getfield 22, 3) := by decide +kernel
theorem dX6_findSteer_89 : decode cX6_findSteer 89 = .ok (.iconst 1, 1) := by decide +kernel
theorem dX6_findSteer_90 : decode cX6_findSteer 90 = .ok (.bipush 50, 2) := by decide +kernel
theorem dX6_findSteer_92 : decode cX6_findSteer 92 = .ok (.iload 5, 2) := by decide +kernel
theorem dX6_findSteer_94 : decode cX6_findSteer 94 = .ok (.imul, 1) := by decide +kernel
theorem dX6_findSteer_95 : decode cX6_findSteer 95 = .ok (.iastore, 1) := by decide +kernel
theorem dX6_findSteer_96 : decode cX6_findSteer 96 = .ok (.aload_n 0, 1) := by decide +kernel
theorem dX6_findSteer_97 : decode cX6_findSteer 97 = .ok (.getfield 22, 3) := by decide +kernel
theorem dX6_findSteer_100 : decode cX6_findSteer 100 = .ok (.iconst 2, 1) := by decide +kernel
theorem dX6_findSteer_101 : decode cX6_findSteer 101 = .ok (.iload 6, 2) := by decide +kernel
theorem dX6_findSteer_103 : decode cX6_findSteer 103 = .ok (.iastore, 1) := by decide +kernel
theorem dX6_findSteer_104 : decode cX6_findSteer 104 = .ok (.iinc 5 1, 3) := by decide +kernel
theorem dX6_findSteer_107 : decode cX6_findSteer 107 = .ok (.goto (-84), 3) := by decide +kernel
theorem dX6_findSteer_110 : decode cX6_findSteer 110 = .ok (.iinc 4 1, 3) := by decide +kernel
theorem dX6_findSteer_113 : decode cX6_findSteer 113 = .ok (.goto (-104), 3) := by decide +kernel
theorem dX6_findSteer_116 : decode cX6_findSteer 116 = .ok (.return_, 1) := by decide +kernel
theorem dX6_steer_0 : decode cX6_steer 0 = .ok (.iload_n 1, 1) := by decide +kernel
theorem dX6_steer_1 : decode cX6_steer 1 = .ok (.iconst 0, 1) := by decide +kernel
theorem dX6_steer_2 : decode cX6_steer 2 = .ok (.ldc 100, 2) := by decide +kernel
theorem dX6_steer_4 : decode cX6_steer 4 = .ok (.invokestatic 82, 3) := by decide +kernel
theorem dX6_steer_7 : decode cX6_steer 7 = .ok (.ifCond .eq 22, 3) := by decide +kernel
theorem dX6_steer_10 : decode cX6_steer 10 = .ok (.iload_n 2, 1) := by decide +kernel
theorem dX6_steer_11 : decode cX6_steer 11 = .ok (.iconst 0, 1) := by decide +kernel
theorem dX6_steer_12 : decode cX6_steer 12 = .ok (.bipush 30, 2) := by decide +kernel
theorem dX6_steer_14 : decode cX6_steer 14 = .ok (.invokestatic 82, 3) := by decide +kernel
theorem dX6_steer_17 : decode cX6_steer 17 = .ok (.ifCond .eq 12, 3) := by decide +kernel
theorem dX6_steer_20 : decode cX6_steer 20 = .ok (.iload_n 3, 1) := by decide +kernel
theorem dX6_steer_21 : decode cX6_steer 21 = .ok (.iconst 0, 1) := by decide +kernel
theorem dX6_steer_22 : decode cX6_steer 22 = .ok (.iconst 2, 1) := by decide +kernel
theorem dX6_steer_23 : decode cX6_steer 23 = .ok (.invokestatic 82, 3) := by decide +kernel
theorem dX6_steer_26 : decode cX6_steer 26 = .ok (.ifCond .ne 6, 3) := by decide +kernel
theorem dX6_steer_29 : decode cX6_steer 29 = .ok (.ldc 90, 2) := by decide +kernel
theorem dX6_steer_31 : decode cX6_steer 31 = .ok (.ireturn, 1) := by decide +kernel
theorem dX6_steer_32 : decode cX6_steer 32 = .ok (.aload_n 0, 1) := by decide +kernel
theorem dX6_steer_33 : decode cX6_steer 33 = .ok (.getfield 9, 3) := by decide +kernel
theorem dX6_steer_36 : decode cX6_steer 36 = .ok (.iconst 1, 1) := by decide +kernel
theorem dX6_steer_37 : decode cX6_steer 37 = .ok (.iaload, 1) := by decide +kernel
theorem dX6_steer_38 : decode cX6_steer 38 = .ok (.ifCond .ne 6, 3) := by decide +kernel
theorem dX6_steer_41 : decode cX6_steer 41 = .ok (.ldc 81, 2) := by decide +kernel
theorem dX6_steer_43 : decode cX6_steer 43 = .ok (.ireturn, 1) := by decide +kernel
theorem dX6_steer_44 : decode cX6_steer 44 = .ok (.aload_n 0, 1) := by decide +kernel
theorem dX6_steer_45 : decode cX6_steer 45 = .ok (.iload_n 1, 1) := by decide +kernel
theorem dX6_steer_46 : decode cX6_steer 46 = .ok (.iload_n 2, 1) := by decide +kernel
theorem dX6_steer_47 : decode cX6_steer 47 = .ok (.invokevirtual 174, 3) := by decide +kernel
theorem dX6_steer_50 : decode cX6_steer 50 = .ok (.aload_n 0, 1) := by decide +kernel
theorem dX6_steer_51 : decode cX6_steer 51 = .ok (.getfield 22, 3) := by decide +kernel
theorem dX6_steer_54 : decode cX6_steer 54 = .ok (.iload_n 3, 1) := by decide +kernel
theorem dX6_steer_55 : decode cX6_steer 55 = .ok (.iaload, 1) := by decide +kernel
theorem dX6_steer_56 : decode cX6_steer 56 = .ok (.ireturn, 1) := by decide +kernel
theorem dX6_leastPot_0 : decode cX6_leastPot 0 = .ok (.aload_n 0, 1) := by decide +kernel
theorem dX6_leastPot_1 : decode cX6_leastPot 1 = .ok (.iload_n 1, 1) := by decide +kernel
theorem dX6_leastPot_2 : decode cX6_leastPot 2 = .ok (.invokevirtual 104, 3) := by decide +kernel
theorem dX6_leastPot_5 : decode cX6_leastPot 5 = .ok (.ifCond .eq 23, 3) := by decide +kernel
theorem dX6_leastPot_8 : decode cX6_leastPot 8 = .ok (.iload_n 2, 1) := by decide +kernel
theorem dX6_leastPot_9 : decode cX6_leastPot 9 = .ok (.iconst 0, 1) := by decide +kernel
theorem dX6_leastPot_10 : decode cX6_leastPot 10 = .ok (.ldc 100, 2) := by decide +kernel
theorem dX6_leastPot_12 : decode cX6_leastPot 12 = .ok (.invokestatic 82, 3) := by decide +kernel
theorem dX6_leastPot_15 : decode cX6_leastPot 15 = .ok (.ifCond .eq 13, 3) := by decide +kernel
theorem dX6_leastPot_18 : decode cX6_leastPot 18 = .ok (.iload_n 3, 1) := by decide +kernel
theorem dX6_leastPot_19 : decode cX6_leastPot 19 = .ok (.iconst 0, 1) := by decide +kernel
theorem dX6_leastPot_20 : decode cX6_leastPot 20 = .ok (.bipush 60, 2) := by decide +kernel
theorem dX6_leastPot_22 : decode cX6_leastPot 22 = .ok (.invokestatic 82, 3) := by decide +kernel
theorem dX6_leastPot_25 : decode cX6_leastPot 25 = .ok (.ifCond .ne 6, 3) := by decide +kernel
theorem dX6_leastPot_28 : decode cX6_leastPot 28 = .ok (.ldc 90, 2) := by decide +kernel
theorem dX6_leastPot_30 : decode cX6_leastPot 30 = .ok (.ireturn, 1) := by decide +kernel
theorem dX6_leastPot_31 : decode cX6_leastPot 31 = .ok (.aload_n 0, 1) := by decide +kernel
theorem dX6_leastPot_32 : decode cX6_leastPot 32 = .ok (.invokevirtual 165, 3) := by decide +kernel
theorem dX6_leastPot_35 : decode cX6_leastPot 35 = .ok (.iconst (-1), 1) := by decide +kernel
theorem dX6_leastPot_36 : decode cX6_leastPot 36 = .ok (.istore 4, 2) := by decide +kernel
theorem dX6_leastPot_38 : decode cX6_leastPot 38 = .ok (.iconst 0, 1) := by decide +kernel
theorem dX6_leastPot_39 : decode cX6_leastPot 39 = .ok (.istore 5, 2) := by decide +kernel
theorem dX6_leastPot_41 : decode cX6_leastPot 41 = .ok (.iload 5, 2) := by decide +kernel
theorem dX6_leastPot_43 : decode cX6_leastPot 43 = .ok (.sipush 990, 3) := by decide +kernel
theorem dX6_leastPot_46 : decode cX6_leastPot 46 = .ok (.if_icmp .ge 40, 3) := by decide +kernel
theorem dX6_leastPot_49 : decode cX6_leastPot 49 = .ok (.iload 4, 2) := by decide +kernel
theorem dX6_leastPot_51 : decode cX6_leastPot 51 = .ok (.iload_n 2, 1) := by decide +kernel
theorem dX6_leastPot_52 : decode cX6_leastPot 52 = .ok (.if_icmp .ge 34, 3) := by decide +kernel
theorem dX6_leastPot_55 : decode cX6_leastPot 55 = .ok (.iinc 5 10, 3) := by decide +kernel
theorem dX6_leastPot_58 : decode cX6_leastPot 58 = .ok (.aload_n 0, 1) := by decide +kernel
theorem dX6_leastPot_59 : decode cX6_leastPot 59 = .ok (.getfield 9, 3) := by decide +kernel
theorem dX6_leastPot_62 : decode cX6_leastPot 62 = .ok (.iconst 2, 1) := by decide +kernel
theorem dX6_leastPot_63 : decode cX6_leastPot 63 = .ok (.iload 5, 2) := by decide +kernel
theorem dX6_leastPot_65 : decode cX6_leastPot 65 = .ok (.iastore, 1) := by decide +kernel
theorem dX6_leastPot_66 : decode cX6_leastPot 66 = .ok (.aload_n 0, 1) := by decide +kernel
theorem dX6_leastPot_67 : decode cX6_leastPot 67 = .ok (.iload_n 3, 1) := by decide +kernel
theorem dX6_leastPot_68 : decode cX6_leastPot 68 = .ok (.invokevirtual 158, 3) := by decide +kernel
theorem dX6_leastPot_71 : decode cX6_leastPot 71 = .ok (.aload_n 0, 1) := by decide +kernel
theorem dX6_leastPot_72 : decode cX6_leastPot 72 = .ok (.iload_n 1, 1) := by decide +kernel
theorem dX6_leastPot_73 : decode cX6_leastPot 73 = .ok (.iconst 2, 1) := by decide +kernel
theorem dX6_leastPot_74 : decode cX6_leastPot 74 = .ok (.invokevirtual 96, 3) := by decide +kernel
theorem dX6_leastPot_77 : decode cX6_leastPot 77 = .ok (.istore 4, 2) := by decide +kernel
theorem dX6_leastPot_79 : decode cX6_leastPot 79 = .ok (.aload_n 0, 1) := by decide +kernel
theorem dX6_leastPot_80 : decode cX6_leastPot 80 = .ok (.invokevirtual 168, 3) := by decide +kernel
theorem dX6_leastPot_83 : decode cX6_leastPot 83 = .ok (.goto (-42), 3) := by decide +kernel
theorem dX6_leastPot_86 : decode cX6_leastPot 86 = .ok (.iload 4, 2) := by decide +kernel
theorem dX6_leastPot_88 : decode cX6_leastPot 88 = .ok (.iload_n 2, 1) := by decide +kernel
theorem dX6_leastPot_89 : decode cX6_leastPot 89 = .ok (.if_icmp .ge 8, 3) := by decide +kernel
theorem dX6_leastPot_92 : decode cX6_leastPot 92 = .ok (.ldc 81, 2) := by decide +kernel
theorem dX6_leastPot_94 : decode cX6_leastPot 94 = .ok (.goto 5, 3) := by decide +kernel
theorem dX6_leastPot_97 : decode cX6_leastPot 97 = .ok (.iload 5, 2) := by decide +kernel
theorem dX6_leastPot_99 : decode cX6_leastPot 99 = .ok (.ireturn, 1) := by decide +kernel
theorem dX6_nearest_0 : decode cX6_nearest 0 = .ok (.iload_n 1, 1) := by decide +kernel
theorem dX6_nearest_1 : decode cX6_nearest 1 = .ok (.iconst 0, 1) := by decide +kernel
theorem dX6_nearest_2 : decode cX6_nearest 2 = .ok (.ldc 100, 2) := by decide +kernel
theorem dX6_nearest_4 : decode cX6_nearest 4 = .ok (.invokestatic 82, 3) := by decide +kernel
theorem dX6_nearest_7 : decode cX6_nearest 7 = .ok (.ifCond .ne 6, 3) := by decide +kernel
theorem dX6_nearest_10 : decode cX6_nearest 10 = .ok (.ldc 90, 2) := by decide +kernel
theorem dX6_nearest_12 : decode cX6_nearest 12 = .ok (.ireturn, 1) := by decide +kernel
theorem dX6_nearest_13 : decode cX6_nearest 13 = .ok (.aload_n 0, 1) := by decide +kernel
theorem dX6_nearest_14 : decode cX6_nearest 14 = .ok (.invokevirtual 165, 3) := by decide +kernel
theorem dX6_nearest_17 : decode cX6_nearest 17 = .ok (.iconst 0, 1) := by decide +kernel
theorem dX6_nearest_18 : decode cX6_nearest 18 = .ok (.istore_n 2, 1) := by decide +kernel
theorem dX6_nearest_19 : decode cX6_nearest 19 = .ok (.aload_n 0, 1) := by decide +kernel
theorem dX6_nearest_20 : decode cX6_nearest 20 = .ok (.invokevirtual 162, 3) := by decide +kernel
theorem dX6_nearest_23 : decode cX6_nearest 23 = .ok (.iload_n 1, 1) := by decide +kernel
theorem dX6_nearest_24 : decode cX6_nearest 24 = .ok (.invokestatic 171, 3) := by decide +kernel
theorem dX6_nearest_27 : decode cX6_nearest 27 = .ok (.istore_n 3, 1) := by decide +kernel
theorem dX6_nearest_28 : decode cX6_nearest 28 = .ok (.iconst 1, 1) := by decide +kernel
theorem dX6_nearest_29 : decode cX6_nearest 29 = .ok (.istore 4, 2) := by decide +kernel
theorem dX6_nearest_31 : decode cX6_nearest 31 = .ok (.iload 4, 2) := by decide +kernel
theorem dX6_nearest_33 : decode cX6_nearest 33 = .ok (.bipush 100, 2) := by decide +kernel
theorem dX6_nearest_35 : decode cX6_nearest 35 = .ok (.if_icmp .gt 49, 3) := by decide +kernel
theorem dX6_nearest_38 : decode cX6_nearest 38 = .ok (.aload_n 0, 1) := by decide +kernel
theorem dX6_nearest_39 : decode cX6_nearest 39 = .ok (.invokevirtual 155, 3) := by decide +kernel
theorem dX6_nearest_42 : decode cX6_nearest 42 = .ok (.aload_n 0, 1) := by decide +kernel
theorem dX6_nearest_43 : decode cX6_nearest 43 = .ok (.invokevirtual 162, 3) := by decide +kernel
theorem dX6_nearest_46 : decode cX6_nearest 46 = .ok (.iload_n 1, 1) := by decide +kernel
theorem dX6_nearest_47 : decode cX6_nearest 47 = .ok (.invokestatic 171, 3) := by decide +kernel
theorem dX6_nearest_50 : decode cX6_nearest 50 = .ok (.istore 5, 2) := by decide +kernel
theorem dX6_nearest_52 : decode cX6_nearest 52 = .ok (.iload 5, 2) := by decide +kernel
theorem dX6_nearest_54 : decode cX6_nearest 54 = .ok (.iload_n 3, 1) := by decide +kernel
theorem dX6_nearest_55 : decode cX6_nearest 55 = .ok (.if_icmp .ge 8, 3) := by decide +kernel
theorem dX6_nearest_58 : decode cX6_nearest 58 = .ok (.iload 4, 2) := by decide +kernel
theorem dX6_nearest_60 : decode cX6_nearest 60 = .ok (.goto 4, 3) := by decide +kernel
theorem dX6_nearest_63 : decode cX6_nearest 63 = .ok (.iload_n 2, 1) := by decide +kernel
theorem dX6_nearest_64 : decode cX6_nearest 64 = .ok (.istore_n 2, 1) := by decide +kernel
theorem dX6_nearest_65 : decode cX6_nearest 65 = .ok (.iload 5, 2) := by decide +kernel
theorem dX6_nearest_67 : decode cX6_nearest 67 = .ok (.iload_n 3, 1) := by decide +kernel
theorem dX6_nearest_68 : decode cX6_nearest 68 = .ok (.if_icmp .ge 8, 3) := by decide +kernel
theorem dX6_nearest_71 : decode cX6_nearest 71 = .ok (.iload 5, 2) := by decide +kernel
theorem dX6_nearest_73 : decode cX6_nearest 73 = .ok (.goto 4, 3) := by decide +kernel
theorem dX6_nearest_76 : decode cX6_nearest 76 = .ok (.iload_n 3, 1) := by decide +kernel
theorem dX6_nearest_77 : decode cX6_nearest 77 = .ok (.istore_n 3, 1) := by decide +kernel
theorem dX6_nearest_78 : decode cX6_nearest 78 = .ok (.iinc 4 1, 3) := by decide +kernel
theorem dX6_nearest_81 : decode cX6_nearest 81 = .ok (.goto (-50), 3) := by decide +kernel
theorem dX6_nearest_84 : decode cX6_nearest 84 = .ok (.aload_n 0, 1) := by decide +kernel
theorem dX6_nearest_85 : decode cX6_nearest 85 = .ok (.invokevirtual 168, 3) := by decide +kernel
theorem dX6_nearest_88 : decode cX6_nearest 88 = .ok (.iload_n 2, 1) := by decide +kernel
theorem dX6_nearest_89 : decode cX6_nearest 89 = .ok (.ireturn, 1) := by decide +kernel
theorem dX6_offBy_0 : decode cX6_offBy 0 = .ok (.aload_n 0, 1) := by decide +kernel
theorem dX6_offBy_1 : decode cX6_offBy 1 = .ok (.iload_n 2, 1) := by decide +kernel
theorem dX6_offBy_2 : decode cX6_offBy 2 = .ok (.sipush 500, 3) := by decide +kernel
theorem dX6_offBy_5 : decode cX6_offBy 5 = .ok (.invokevirtual 108, 3) := by decide +kernel
theorem dX6_offBy_8 : decode cX6_offBy 8 = .ok (.lconst 0, 1) := by decide +kernel
theorem dX6_offBy_9 : decode cX6_offBy 9 = .ok (.lstore_n 3, 1) := by decide +kernel
theorem dX6_offBy_10 : decode cX6_offBy 10 = .ok (.iconst 0, 1) := by decide +kernel
theorem dX6_offBy_11 : decode cX6_offBy 11 = .ok (.istore 5, 2) := by decide +kernel
theorem dX6_offBy_13 : decode cX6_offBy 13 = .ok (.iload 5, 2) := by decide +kernel
theorem dX6_offBy_15 : decode cX6_offBy 15 = .ok (.aload_n 0, 1) := by decide +kernel
theorem dX6_offBy_16 : decode cX6_offBy 16 = .ok (.getfield 57, 3) := by decide +kernel
theorem dX6_offBy_19 : decode cX6_offBy 19 = .ok (.iload_n 1, 1) := by decide +kernel
theorem dX6_offBy_20 : decode cX6_offBy 20 = .ok (.iaload, 1) := by decide +kernel
theorem dX6_offBy_21 : decode cX6_offBy 21 = .ok (.if_icmp .ge 67, 3) := by decide +kernel
theorem dX6_offBy_24 : decode cX6_offBy 24 = .ok (.aload_n 0, 1) := by decide +kernel
theorem dX6_offBy_25 : decode cX6_offBy 25 = .ok (.getfield 60, 3) := by decide +kernel
theorem dX6_offBy_28 : decode cX6_offBy 28 = .ok (.bipush 24, 2) := by decide +kernel
theorem dX6_offBy_30 : decode cX6_offBy 30 = .ok (.iload_n 1, 1) := by decide +kernel
theorem dX6_offBy_31 : decode cX6_offBy 31 = .ok (.imul, 1) := by decide +kernel
theorem dX6_offBy_32 : decode cX6_offBy 32 = .ok (.iload 5, 2) := by decide +kernel
theorem dX6_offBy_34 : decode cX6_offBy 34 = .ok (.iadd, 1) := by decide +kernel
theorem dX6_offBy_35 : decode cX6_offBy 35 = .ok (.iaload, 1) := by decide +kernel
theorem dX6_offBy_36 : decode cX6_offBy 36 = .ok (.istore 6, 2) := by decide +kernel
theorem dX6_offBy_38 : decode cX6_offBy 38 = .ok (.iload 6, 2) := by decide +kernel
theorem dX6_offBy_40 : decode cX6_offBy 40 = .ok (.i2l, 1) := by decide +kernel
theorem dX6_offBy_41 : decode cX6_offBy 41 = .ok (.aload_n 0, 1) := by decide +kernel
theorem dX6_offBy_42 : decode cX6_offBy 42 = .ok (.invokevirtual 162, 3) := by decide +kernel
theorem dX6_offBy_45 : decode cX6_offBy 45 = .ok (.i2l, 1) := by decide +kernel
theorem dX6_offBy_46 : decode cX6_offBy 46 = .ok (.lsub, 1) := by decide +kernel
theorem dX6_offBy_47 : decode cX6_offBy 47 = .ok (.lstore 7, 2) := by decide +kernel
theorem dX6_offBy_49 : decode cX6_offBy 49 = .ok (.lload_n 3, 1) := by decide +kernel
theorem dX6_offBy_50 : decode cX6_offBy 50 = .ok (.iload 6, 2) := by decide +kernel
theorem dX6_offBy_52 : decode cX6_offBy 52 = .ok (.ldc 81, 2) := by decide +kernel
theorem dX6_offBy_54 : decode cX6_offBy 54 = .ok (.if_icmp .ne 7, 3) := by decide +kernel
theorem dX6_offBy_57 : decode cX6_offBy 57 = .ok (.lconst 0, 1) := by decide +kernel
theorem dX6_offBy_58 : decode cX6_offBy 58 = .ok (.goto 18, 3) := by decide +kernel
theorem dX6_offBy_61 : decode cX6_offBy 61 = .ok (.lload 7, 2) := by decide +kernel
theorem dX6_offBy_63 : decode cX6_offBy 63 = .ok (.lconst 0, 1) := by decide +kernel
theorem dX6_offBy_64 : decode cX6_offBy 64 = .ok (.lcmp, 1) := by decide +kernel
theorem dX6_offBy_65 : decode cX6_offBy 65 = .ok (.ifCond .ge 9, 3) := by decide +kernel
theorem dX6_offBy_68 : decode cX6_offBy 68 = .ok (.lload 7, 2) := by decide +kernel
theorem dX6_offBy_70 : decode cX6_offBy 70 = .ok (.lneg, 1) := by decide +kernel
theorem dX6_offBy_71 : decode cX6_offBy 71 = .ok (.goto 5, 3) := by decide +kernel
theorem dX6_offBy_74 : decode cX6_offBy 74 = .ok (.lload 7, 2) := by decide +kernel
theorem dX6_offBy_76 : decode cX6_offBy 76 = .ok (.ladd, 1) := by decide +kernel
theorem dX6_offBy_77 : decode cX6_offBy 77 = .ok (.lstore_n 3, 1) := by decide +kernel
theorem dX6_offBy_78 : decode cX6_offBy 78 = .ok (.aload_n 0, 1) := by decide +kernel
theorem dX6_offBy_79 : decode cX6_offBy 79 = .ok (.invokevirtual 155, 3) := by decide +kernel
theorem dX6_offBy_82 : decode cX6_offBy 82 = .ok (.iinc 5 1, 3) := by decide +kernel
theorem dX6_offBy_85 : decode cX6_offBy 85 = .ok (.goto (-72), 3) := by decide +kernel
theorem dX6_offBy_88 : decode cX6_offBy 88 = .ok (.aload_n 0, 1) := by decide +kernel
theorem dX6_offBy_89 : decode cX6_offBy 89 = .ok (.invokevirtual 168, 3) := by decide +kernel
theorem dX6_offBy_92 : decode cX6_offBy 92 = .ok (.lload_n 3, 1) := by decide +kernel
theorem dX6_offBy_93 : decode cX6_offBy 93 = .ok (.lreturn, 1) := by decide +kernel
theorem dX6_thrown_0 : decode cX6_thrown 0 = .ok (.iload_n 1, 1) := by decide +kernel
theorem dX6_thrown_1 : decode cX6_thrown 1 = .ok (.invokestatic 177, 3) := by decide +kernel
theorem dX6_thrown_4 : decode cX6_thrown 4 = .ok (.ifCond .eq 12, 3) := by decide +kernel
theorem dX6_thrown_7 : decode cX6_thrown 7 = .ok (.iload_n 2, 1) := by decide +kernel
theorem dX6_thrown_8 : decode cX6_thrown 8 = .ok (.iconst 0, 1) := by decide +kernel
theorem dX6_thrown_9 : decode cX6_thrown 9 = .ok (.iconst 1, 1) := by decide +kernel
theorem dX6_thrown_10 : decode cX6_thrown 10 = .ok (.invokestatic 82, 3) := by decide +kernel
theorem dX6_thrown_13 : decode cX6_thrown 13 = .ok (.ifCond .ne 6, 3) := by decide +kernel
theorem dX6_thrown_16 : decode cX6_thrown 16 = .ok (.ldc 90, 2) := by decide +kernel
theorem dX6_thrown_18 : decode cX6_thrown 18 = .ok (.ireturn, 1) := by decide +kernel
theorem dX6_thrown_19 : decode cX6_thrown 19 = .ok (.aload_n 0, 1) := by decide +kernel
theorem dX6_thrown_20 : decode cX6_thrown 20 = .ok (.getfield 54, 3) := by decide +kernel
theorem dX6_thrown_23 : decode cX6_thrown 23 = .ok (.iload_n 1, 1) := by decide +kernel
theorem dX6_thrown_24 : decode cX6_thrown 24 = .ok (.iaload, 1) := by decide +kernel
theorem dX6_thrown_25 : decode cX6_thrown 25 = .ok (.ifCond .ge 6, 3) := by decide +kernel
theorem dX6_thrown_28 : decode cX6_thrown 28 = .ok (.ldc 180, 2) := by decide +kernel
theorem dX6_thrown_30 : decode cX6_thrown 30 = .ok (.ireturn, 1) := by decide +kernel
theorem dX6_thrown_31 : decode cX6_thrown 31 = .ok (.aload_n 0, 1) := by decide +kernel
theorem dX6_thrown_32 : decode cX6_thrown 32 = .ok (.invokevirtual 165, 3) := by decide +kernel
theorem dX6_thrown_35 : decode cX6_thrown 35 = .ok (.iconst (-1), 1) := by decide +kernel
theorem dX6_thrown_36 : decode cX6_thrown 36 = .ok (.istore_n 3, 1) := by decide +kernel
theorem dX6_thrown_37 : decode cX6_thrown 37 = .ok (.lconst 0, 1) := by decide +kernel
theorem dX6_thrown_38 : decode cX6_thrown 38 = .ok (.lstore 4, 2) := by decide +kernel
theorem dX6_thrown_40 : decode cX6_thrown 40 = .ok (.iconst 0, 1) := by decide +kernel
theorem dX6_thrown_41 : decode cX6_thrown 41 = .ok (.istore 6, 2) := by decide +kernel
theorem dX6_thrown_43 : decode cX6_thrown 43 = .ok (.iload 6, 2) := by decide +kernel
theorem dX6_thrown_45 : decode cX6_thrown 45 = .ok (.aload_n 0, 1) := by decide +kernel
theorem dX6_thrown_46 : decode cX6_thrown 46 = .ok (.getfield 9, 3) := by decide +kernel
theorem dX6_thrown_49 : decode cX6_thrown 49 = .ok (.iconst 1, 1) := by decide +kernel
theorem dX6_thrown_50 : decode cX6_thrown 50 = .ok (.iaload, 1) := by decide +kernel
theorem dX6_thrown_51 : decode cX6_thrown 51 = .ok (.if_icmp .ge 52, 3) := by decide +kernel
theorem dX6_thrown_54 : decode cX6_thrown 54 = .ok (.aload_n 0, 1) := by decide +kernel
theorem dX6_thrown_55 : decode cX6_thrown 55 = .ok (.iload_n 1, 1) := by decide +kernel
theorem dX6_thrown_56 : decode cX6_thrown 56 = .ok (.iload 6, 2) := by decide +kernel
theorem dX6_thrown_58 : decode cX6_thrown 58 = .ok (.invokevirtual 181, 3) := by decide +kernel
theorem dX6_thrown_61 : decode cX6_thrown 61 = .ok (.lstore 7, 2) := by decide +kernel
theorem dX6_thrown_63 : decode cX6_thrown 63 = .ok (.iload_n 3, 1) := by decide +kernel
theorem dX6_thrown_64 : decode cX6_thrown 64 = .ok (.ifCond .lt 11, 3) := by decide +kernel
theorem dX6_thrown_67 : decode cX6_thrown 67 = .ok (.lload 7, 2) := by decide +kernel
theorem dX6_thrown_69 : decode cX6_thrown 69 = .ok (.lload 4, 2) := by decide +kernel
theorem dX6_thrown_71 : decode cX6_thrown 71 = .ok (.lcmp, 1) := by decide +kernel
theorem dX6_thrown_72 : decode cX6_thrown 72 = .ok (.ifCond .ge 8, 3) := by decide +kernel
theorem dX6_thrown_75 : decode cX6_thrown 75 = .ok (.iload 6, 2) := by decide +kernel
theorem dX6_thrown_77 : decode cX6_thrown 77 = .ok (.goto 4, 3) := by decide +kernel
theorem dX6_thrown_80 : decode cX6_thrown 80 = .ok (.iload_n 3, 1) := by decide +kernel
theorem dX6_thrown_81 : decode cX6_thrown 81 = .ok (.istore_n 3, 1) := by decide +kernel
theorem dX6_thrown_82 : decode cX6_thrown 82 = .ok (.iload_n 3, 1) := by decide +kernel
theorem dX6_thrown_83 : decode cX6_thrown 83 = .ok (.iload 6, 2) := by decide +kernel
theorem dX6_thrown_85 : decode cX6_thrown 85 = .ok (.if_icmp .ne 8, 3) := by decide +kernel
theorem dX6_thrown_88 : decode cX6_thrown 88 = .ok (.lload 7, 2) := by decide +kernel
theorem dX6_thrown_90 : decode cX6_thrown 90 = .ok (.goto 5, 3) := by decide +kernel
theorem dX6_thrown_93 : decode cX6_thrown 93 = .ok (.lload 4, 2) := by decide +kernel
theorem dX6_thrown_95 : decode cX6_thrown 95 = .ok (.lstore 4, 2) := by decide +kernel
theorem dX6_thrown_97 : decode cX6_thrown 97 = .ok (.iinc 6 1, 3) := by decide +kernel
theorem dX6_thrown_100 : decode cX6_thrown 100 = .ok (.goto (-57), 3) := by decide +kernel
theorem dX6_thrown_103 : decode cX6_thrown 103 = .ok (.iload_n 3, 1) := by decide +kernel
theorem dX6_thrown_104 : decode cX6_thrown 104 = .ok (.ifCond .ge 8, 3) := by decide +kernel
theorem dX6_thrown_107 : decode cX6_thrown 107 = .ok (.ldc 81, 2) := by decide +kernel
theorem dX6_thrown_109 : decode cX6_thrown 109 = .ok (.goto 14, 3) := by decide +kernel
theorem dX6_thrown_112 : decode cX6_thrown 112 = .ok (.iload_n 2, 1) := by decide +kernel
theorem dX6_thrown_113 : decode cX6_thrown 113 = .ok (.ifCond .ne 7, 3) := by decide +kernel
theorem dX6_thrown_116 : decode cX6_thrown 116 = .ok (.iload_n 3, 1) := by decide +kernel
theorem dX6_thrown_117 : decode cX6_thrown 117 = .ok (.goto 6, 3) := by decide +kernel
theorem dX6_thrown_120 : decode cX6_thrown 120 = .ok (.lload 4, 2) := by decide +kernel
theorem dX6_thrown_122 : decode cX6_thrown 122 = .ok (.l2i, 1) := by decide +kernel
theorem dX6_thrown_123 : decode cX6_thrown 123 = .ok (.ireturn, 1) := by decide +kernel
theorem dX6_halved_0 : decode cX6_halved 0 = .ok (.aload_n 0, 1) := by decide +kernel
theorem dX6_halved_1 : decode cX6_halved 1 = .ok (.invokevirtual 165, 3) := by decide +kernel
theorem dX6_halved_4 : decode cX6_halved 4 = .ok (.iconst 0, 1) := by decide +kernel
theorem dX6_halved_5 : decode cX6_halved 5 = .ok (.istore_n 1, 1) := by decide +kernel
theorem dX6_halved_6 : decode cX6_halved 6 = .ok (.iload_n 1, 1) := by decide +kernel
theorem dX6_halved_7 : decode cX6_halved 7 = .ok (.sipush 200, 3) := by decide +kernel
theorem dX6_halved_10 : decode cX6_halved 10 = .ok (.if_icmp .gt 23, 3) := by decide +kernel
theorem dX6_halved_13 : decode cX6_halved 13 = .ok (.aload_n 0, 1) := by decide +kernel
theorem dX6_halved_14 : decode cX6_halved 14 = .ok (.getfield 25, 3) := by decide +kernel
theorem dX6_halved_17 : decode cX6_halved 17 = .ok (.iload_n 1, 1) := by decide +kernel
theorem dX6_halved_18 : decode cX6_halved 18 = .ok (.aload_n 0, 1) := by decide +kernel
theorem dX6_halved_19 : decode cX6_halved 19 = .ok (.invokevirtual 162, 3) := by decide +kernel
theorem dX6_halved_22 : decode cX6_halved 22 = .ok (.iastore, 1) := by decide +kernel
theorem dX6_halved_23 : decode cX6_halved 23 = .ok (.aload_n 0, 1) := by decide +kernel
theorem dX6_halved_24 : decode cX6_halved 24 = .ok (.invokevirtual 155, 3) := by decide +kernel
theorem dX6_halved_27 : decode cX6_halved 27 = .ok (.iinc 1 1, 3) := by decide +kernel
theorem dX6_halved_30 : decode cX6_halved 30 = .ok (.goto (-24), 3) := by decide +kernel
theorem dX6_halved_33 : decode cX6_halved 33 = .ok (.aload_n 0, 1) := by decide +kernel
theorem dX6_halved_34 : decode cX6_halved 34 = .ok (.invokevirtual 168, 3) := by decide +kernel
theorem dX6_halved_37 : decode cX6_halved 37 = .ok (.iconst 0, 1) := by decide +kernel
theorem dX6_halved_38 : decode cX6_halved 38 = .ok (.istore_n 1, 1) := by decide +kernel
theorem dX6_halved_39 : decode cX6_halved 39 = .ok (.iload_n 1, 1) := by decide +kernel
theorem dX6_halved_40 : decode cX6_halved 40 = .ok (.aload_n 0, 1) := by decide +kernel
theorem dX6_halved_41 : decode cX6_halved 41 = .ok (.getfield 9, 3) := by decide +kernel
theorem dX6_halved_44 : decode cX6_halved 44 = .ok (.iconst 1, 1) := by decide +kernel
theorem dX6_halved_45 : decode cX6_halved 45 = .ok (.iaload, 1) := by decide +kernel
theorem dX6_halved_46 : decode cX6_halved 46 = .ok (.if_icmp .ge 23, 3) := by decide +kernel
theorem dX6_halved_49 : decode cX6_halved 49 = .ok (.aload_n 0, 1) := by decide +kernel
theorem dX6_halved_50 : decode cX6_halved 50 = .ok (.iload_n 1, 1) := by decide +kernel
theorem dX6_halved_51 : decode cX6_halved 51 = .ok (.iconst 2, 1) := by decide +kernel
theorem dX6_halved_52 : decode cX6_halved 52 = .ok (.aload_n 0, 1) := by decide +kernel
theorem dX6_halved_53 : decode cX6_halved 53 = .ok (.iload_n 1, 1) := by decide +kernel
theorem dX6_halved_54 : decode cX6_halved 54 = .ok (.iconst 2, 1) := by decide +kernel
theorem dX6_halved_55 : decode cX6_halved 55 = .ok (.invokevirtual 96, 3) := by decide +kernel
theorem dX6_halved_58 : decode cX6_halved 58 = .ok (.iconst 2, 1) := by decide +kernel
theorem dX6_halved_59 : decode cX6_halved 59 = .ok (.idiv, 1) := by decide +kernel
theorem dX6_halved_60 : decode cX6_halved 60 = .ok (.invokevirtual 86, 3) := by decide +kernel
theorem dX6_halved_63 : decode cX6_halved 63 = .ok (.iinc 1 1, 3) := by decide +kernel
theorem dX6_halved_66 : decode cX6_halved 66 = .ok (.goto (-27), 3) := by decide +kernel
theorem dX6_halved_69 : decode cX6_halved 69 = .ok (.iconst 0, 1) := by decide +kernel
theorem dX6_halved_70 : decode cX6_halved 70 = .ok (.istore_n 1, 1) := by decide +kernel
theorem dX6_halved_71 : decode cX6_halved 71 = .ok (.iload_n 1, 1) := by decide +kernel
theorem dX6_halved_72 : decode cX6_halved 72 = .ok (.sipush 200, 3) := by decide +kernel
theorem dX6_halved_75 : decode cX6_halved 75 = .ok (.if_icmp .gt 26, 3) := by decide +kernel
theorem dX6_halved_78 : decode cX6_halved 78 = .ok (.aload_n 0, 1) := by decide +kernel
theorem dX6_halved_79 : decode cX6_halved 79 = .ok (.invokevirtual 162, 3) := by decide +kernel
theorem dX6_halved_82 : decode cX6_halved 82 = .ok (.aload_n 0, 1) := by decide +kernel
theorem dX6_halved_83 : decode cX6_halved 83 = .ok (.getfield 25, 3) := by decide +kernel
theorem dX6_halved_86 : decode cX6_halved 86 = .ok (.iload_n 1, 1) := by decide +kernel
theorem dX6_halved_87 : decode cX6_halved 87 = .ok (.iaload, 1) := by decide +kernel
theorem dX6_halved_88 : decode cX6_halved 88 = .ok (.if_icmp .eq 13, 3) := by decide +kernel
theorem dX6_halved_91 : decode cX6_halved 91 = .ok (.aload_n 0, 1) := by decide +kernel
theorem dX6_halved_92 : decode cX6_halved 92 = .ok (.invokevirtual 155, 3) := by decide +kernel
theorem dX6_halved_95 : decode cX6_halved 95 = .ok (.iinc 1 1, 3) := by decide +kernel
theorem dX6_halved_98 : decode cX6_halved 98 = .ok (.goto (-27), 3) := by decide +kernel
theorem dX6_halved_101 : decode cX6_halved 101 = .ok (.aload_n 0, 1) := by decide +kernel
theorem dX6_halved_102 : decode cX6_halved 102 = .ok (.invokevirtual 168, 3) := by decide +kernel
theorem dX6_halved_105 : decode cX6_halved 105 = .ok (.iload_n 1, 1) := by decide +kernel
theorem dX6_halved_106 : decode cX6_halved 106 = .ok (.sipush 200, 3) := by decide +kernel
theorem dX6_halved_109 : decode cX6_halved 109 = .ok (.if_icmp .gt 7, 3) := by decide +kernel
theorem dX6_halved_112 : decode cX6_halved 112 = .ok (.iload_n 1, 1) := by decide +kernel
theorem dX6_halved_113 : decode cX6_halved 113 = .ok (.goto 5, 3) := by decide +kernel
theorem dX6_halved_116 : decode cX6_halved 116 = .ok (.ldc 81, 2) := by decide +kernel
theorem dX6_halved_118 : decode cX6_halved 118 = .ok (.ireturn, 1) := by decide +kernel
theorem dX6_differs_0 : decode cX6_differs 0 = .ok (.aload_n 0, 1) := by decide +kernel
theorem dX6_differs_1 : decode cX6_differs 1 = .ok (.getfield 185, 3) := by decide +kernel
theorem dX6_differs_4 : decode cX6_differs 4 = .ok (.ifCond .ne 6, 3) := by decide +kernel
theorem dX6_differs_7 : decode cX6_differs 7 = .ok (.ldc 189, 2) := by decide +kernel
theorem dX6_differs_9 : decode cX6_differs 9 = .ok (.ireturn, 1) := by decide +kernel
theorem dX6_differs_10 : decode cX6_differs 10 = .ok (.aload_n 0, 1) := by decide +kernel
theorem dX6_differs_11 : decode cX6_differs 11 = .ok (.invokevirtual 162, 3) := by decide +kernel
theorem dX6_differs_14 : decode cX6_differs 14 = .ok (.istore_n 1, 1) := by decide +kernel
theorem dX6_differs_15 : decode cX6_differs 15 = .ok (.aload_n 0, 1) := by decide +kernel
theorem dX6_differs_16 : decode cX6_differs 16 = .ok (.getfield 9, 3) := by decide +kernel
theorem dX6_differs_19 : decode cX6_differs 19 = .ok (.aload_n 0, 1) := by decide +kernel
theorem dX6_differs_20 : decode cX6_differs 20 = .ok (.getfield 16, 3) := by decide +kernel
theorem dX6_differs_23 : decode cX6_differs 23 = .ok (.invokestatic 190, 3) := by decide +kernel
theorem dX6_differs_26 : decode cX6_differs 26 = .ok (.aload_n 0, 1) := by decide +kernel
theorem dX6_differs_27 : decode cX6_differs 27 = .ok (.getfield 13, 3) := by decide +kernel
theorem dX6_differs_30 : decode cX6_differs 30 = .ok (.aload_n 0, 1) := by decide +kernel
theorem dX6_differs_31 : decode cX6_differs 31 = .ok (.getfield 9, 3) := by decide +kernel
theorem dX6_differs_34 : decode cX6_differs 34 = .ok (.invokestatic 190, 3) := by decide +kernel
theorem dX6_differs_37 : decode cX6_differs 37 = .ok (.aload_n 0, 1) := by decide +kernel
theorem dX6_differs_38 : decode cX6_differs 38 = .ok (.invokevirtual 162, 3) := by decide +kernel
theorem dX6_differs_41 : decode cX6_differs 41 = .ok (.istore_n 2, 1) := by decide +kernel
theorem dX6_differs_42 : decode cX6_differs 42 = .ok (.aload_n 0, 1) := by decide +kernel
theorem dX6_differs_43 : decode cX6_differs 43 = .ok (.getfield 16, 3) := by decide +kernel
theorem dX6_differs_46 : decode cX6_differs 46 = .ok (.aload_n 0, 1) := by decide +kernel
theorem dX6_differs_47 : decode cX6_differs 47 = .ok (.getfield 9, 3) := by decide +kernel
theorem dX6_differs_50 : decode cX6_differs 50 = .ok (.invokestatic 190, 3) := by decide +kernel
theorem dX6_differs_53 : decode cX6_differs 53 = .ok (.iload_n 1, 1) := by decide +kernel
theorem dX6_differs_54 : decode cX6_differs 54 = .ok (.iload_n 2, 1) := by decide +kernel
theorem dX6_differs_55 : decode cX6_differs 55 = .ok (.isub, 1) := by decide +kernel
theorem dX6_differs_56 : decode cX6_differs 56 = .ok (.ireturn, 1) := by decide +kernel
theorem dX6_feed_0 : decode cX6_feed 0 = .ok (.aload_n 0, 1) := by decide +kernel
theorem dX6_feed_1 : decode cX6_feed 1 = .ok (.getfield 194, 3) := by decide +kernel
theorem dX6_feed_4 : decode cX6_feed 4 = .ok (.bipush 12, 2) := by decide +kernel
theorem dX6_feed_6 : decode cX6_feed 6 = .ok (.iadd, 1) := by decide +kernel
theorem dX6_feed_7 : decode cX6_feed 7 = .ok (.bipush 96, 2) := by decide +kernel
theorem dX6_feed_9 : decode cX6_feed 9 = .ok (.if_icmp .le 6, 3) := by decide +kernel
theorem dX6_feed_12 : decode cX6_feed 12 = .ok (.ldc 91, 2) := by decide +kernel
theorem dX6_feed_14 : decode cX6_feed 14 = .ok (.ireturn, 1) := by decide +kernel
theorem dX6_feed_15 : decode cX6_feed 15 = .ok (.iconst 0, 1) := by decide +kernel
theorem dX6_feed_16 : decode cX6_feed 16 = .ok (.istore 4, 2) := by decide +kernel
theorem dX6_feed_18 : decode cX6_feed 18 = .ok (.iload 4, 2) := by decide +kernel
theorem dX6_feed_20 : decode cX6_feed 20 = .ok (.bipush 12, 2) := by decide +kernel
theorem dX6_feed_22 : decode cX6_feed 22 = .ok (.if_icmp .ge 62, 3) := by decide +kernel
theorem dX6_feed_25 : decode cX6_feed 25 = .ok (.iload 4, 2) := by decide +kernel
theorem dX6_feed_27 : decode cX6_feed 27 = .ok (.iconst 4, 1) := by decide +kernel
theorem dX6_feed_28 : decode cX6_feed 28 = .ok (.if_icmp .ge 7, 3) := by decide +kernel
theorem dX6_feed_31 : decode cX6_feed 31 = .ok (.iload_n 1, 1) := by decide +kernel
theorem dX6_feed_32 : decode cX6_feed 32 = .ok (.goto 15, 3) := by decide +kernel
theorem dX6_feed_35 : decode cX6_feed 35 = .ok (.iload 4, 2) := by decide +kernel
theorem dX6_feed_37 : decode cX6_feed 37 = .ok (.bipush 8, 2) := by decide +kernel
theorem dX6_feed_39 : decode cX6_feed 39 = .ok (.if_icmp .ge 7, 3) := by decide +kernel
theorem dX6_feed_42 : decode cX6_feed 42 = .ok (.iload_n 2, 1) := by decide +kernel
theorem dX6_feed_43 : decode cX6_feed 43 = .ok (.goto 4, 3) := by decide +kernel
theorem dX6_feed_46 : decode cX6_feed 46 = .ok (.iload_n 3, 1) := by decide +kernel
theorem dX6_feed_47 : decode cX6_feed 47 = .ok (.istore 5, 2) := by decide +kernel
theorem dX6_feed_49 : decode cX6_feed 49 = .ok (.aload_n 0, 1) := by decide +kernel
theorem dX6_feed_50 : decode cX6_feed 50 = .ok (.getfield 28, 3) := by decide +kernel
theorem dX6_feed_53 : decode cX6_feed 53 = .ok (.aload_n 0, 1) := by decide +kernel
theorem dX6_feed_54 : decode cX6_feed 54 = .ok (.getfield 194, 3) := by decide +kernel
theorem dX6_feed_57 : decode cX6_feed 57 = .ok (.iload 4, 2) := by decide +kernel
theorem dX6_feed_59 : decode cX6_feed 59 = .ok (.iadd, 1) := by decide +kernel
theorem dX6_feed_60 : decode cX6_feed 60 = .ok (.iload 5, 2) := by decide +kernel
theorem dX6_feed_62 : decode cX6_feed 62 = .ok (.bipush 24, 2) := by decide +kernel
theorem dX6_feed_64 : decode cX6_feed 64 = .ok (.bipush 8, 2) := by decide +kernel
theorem dX6_feed_66 : decode cX6_feed 66 = .ok (.iload 4, 2) := by decide +kernel
theorem dX6_feed_68 : decode cX6_feed 68 = .ok (.iconst 4, 1) := by decide +kernel
theorem dX6_feed_69 : decode cX6_feed 69 = .ok (.irem, 1) := by decide +kernel
theorem dX6_feed_70 : decode cX6_feed 70 = .ok (.imul, 1) := by decide +kernel
theorem dX6_feed_71 : decode cX6_feed 71 = .ok (.isub, 1) := by decide +kernel
theorem dX6_feed_72 : decode cX6_feed 72 = .ok (.ishr, 1) := by decide +kernel
theorem dX6_feed_73 : decode cX6_feed 73 = .ok (.sipush 255, 3) := by decide +kernel
theorem dX6_feed_76 : decode cX6_feed 76 = .ok (.iand, 1) := by decide +kernel
theorem dX6_feed_77 : decode cX6_feed 77 = .ok (.iastore, 1) := by decide +kernel
theorem dX6_feed_78 : decode cX6_feed 78 = .ok (.iinc 4 1, 3) := by decide +kernel
theorem dX6_feed_81 : decode cX6_feed 81 = .ok (.goto (-63), 3) := by decide +kernel
theorem dX6_feed_84 : decode cX6_feed 84 = .ok (.aload_n 0, 1) := by decide +kernel
theorem dX6_feed_85 : decode cX6_feed 85 = .ok (.dup, 1) := by decide +kernel
theorem dX6_feed_86 : decode cX6_feed 86 = .ok (.getfield 194, 3) := by decide +kernel
theorem dX6_feed_89 : decode cX6_feed 89 = .ok (.bipush 12, 2) := by decide +kernel
theorem dX6_feed_91 : decode cX6_feed 91 = .ok (.iadd, 1) := by decide +kernel
theorem dX6_feed_92 : decode cX6_feed 92 = .ok (.putfield 194, 3) := by decide +kernel
theorem dX6_feed_95 : decode cX6_feed 95 = .ok (.aload_n 0, 1) := by decide +kernel
theorem dX6_feed_96 : decode cX6_feed 96 = .ok (.getfield 194, 3) := by decide +kernel
theorem dX6_feed_99 : decode cX6_feed 99 = .ok (.ireturn, 1) := by decide +kernel
theorem dX6_trim_0 : decode cX6_trim 0 = .ok (.iload_n 1, 1) := by decide +kernel
theorem dX6_trim_1 : decode cX6_trim 1 = .ok (.iconst 0, 1) := by decide +kernel
theorem dX6_trim_2 : decode cX6_trim 2 = .ok (.aload_n 0, 1) := by decide +kernel
theorem dX6_trim_3 : decode cX6_trim 3 = .ok (.getfield 194, 3) := by decide +kernel
theorem dX6_trim_6 : decode cX6_trim 6 = .ok (.invokestatic 82, 3) := by decide +kernel
theorem dX6_trim_9 : decode cX6_trim 9 = .ok (.ifCond .ne 6, 3) := by decide +kernel
theorem dX6_trim_12 : decode cX6_trim 12 = .ok (.ldc 90, 2) := by decide +kernel
theorem dX6_trim_14 : decode cX6_trim 14 = .ok (.ireturn, 1) := by decide +kernel
theorem dX6_trim_15 : decode cX6_trim 15 = .ok (.aload_n 0, 1) := by decide +kernel
theorem dX6_trim_16 : decode cX6_trim 16 = .ok (.iload_n 1, 1) := by decide +kernel
theorem dX6_trim_17 : decode cX6_trim 17 = .ok (.putfield 194, 3) := by decide +kernel
theorem dX6_trim_20 : decode cX6_trim 20 = .ok (.iload_n 1, 1) := by decide +kernel
theorem dX6_trim_21 : decode cX6_trim 21 = .ok (.ireturn, 1) := by decide +kernel
theorem dX6_isLetter_0 : decode cX6_isLetter 0 = .ok (.iload_n 1, 1) := by decide +kernel
theorem dX6_isLetter_1 : decode cX6_isLetter 1 = .ok (.aload_n 0, 1) := by decide +kernel
theorem dX6_isLetter_2 : decode cX6_isLetter 2 = .ok (.getfield 194, 3) := by decide +kernel
theorem dX6_isLetter_5 : decode cX6_isLetter 5 = .ok (.if_icmp .ge 29, 3) := by decide +kernel
theorem dX6_isLetter_8 : decode cX6_isLetter 8 = .ok (.aload_n 0, 1) := by decide +kernel
theorem dX6_isLetter_9 : decode cX6_isLetter 9 = .ok (.getfield 28, 3) := by decide +kernel
theorem dX6_isLetter_12 : decode cX6_isLetter 12 = .ok (.iload_n 1, 1) := by decide +kernel
theorem dX6_isLetter_13 : decode cX6_isLetter 13 = .ok (.iaload, 1) := by decide +kernel
theorem dX6_isLetter_14 : decode cX6_isLetter 14 = .ok (.bipush 97, 2) := by decide +kernel
theorem dX6_isLetter_16 : decode cX6_isLetter 16 = .ok (.if_icmp .lt 18, 3) := by decide +kernel
theorem dX6_isLetter_19 : decode cX6_isLetter 19 = .ok (.aload_n 0, 1) := by decide +kernel
theorem dX6_isLetter_20 : decode cX6_isLetter 20 = .ok (.getfield 28, 3) := by decide +kernel
theorem dX6_isLetter_23 : decode cX6_isLetter 23 = .ok (.iload_n 1, 1) := by decide +kernel
theorem dX6_isLetter_24 : decode cX6_isLetter 24 = .ok (.iaload, 1) := by decide +kernel
theorem dX6_isLetter_25 : decode cX6_isLetter 25 = .ok (.bipush 122, 2) := by decide +kernel
theorem dX6_isLetter_27 : decode cX6_isLetter 27 = .ok (.if_icmp .gt 7, 3) := by decide +kernel
theorem dX6_isLetter_30 : decode cX6_isLetter 30 = .ok (.iconst 1, 1) := by decide +kernel
theorem dX6_isLetter_31 : decode cX6_isLetter 31 = .ok (.goto 4, 3) := by decide +kernel
theorem dX6_isLetter_34 : decode cX6_isLetter 34 = .ok (.iconst 0, 1) := by decide +kernel
theorem dX6_isLetter_35 : decode cX6_isLetter 35 = .ok (.ireturn, 1) := by decide +kernel
theorem dX6_isFigure_0 : decode cX6_isFigure 0 = .ok (.iload_n 1, 1) := by decide +kernel
theorem dX6_isFigure_1 : decode cX6_isFigure 1 = .ok (.aload_n 0, 1) := by decide +kernel
theorem dX6_isFigure_2 : decode cX6_isFigure 2 = .ok (.getfield 194, 3) := by decide +kernel
theorem dX6_isFigure_5 : decode cX6_isFigure 5 = .ok (.if_icmp .ge 29, 3) := by decide +kernel
theorem dX6_isFigure_8 : decode cX6_isFigure 8 = .ok (.aload_n 0, 1) := by decide +kernel
theorem dX6_isFigure_9 : decode cX6_isFigure 9 = .ok (.getfield 28, 3) := by decide +kernel
theorem dX6_isFigure_12 : decode cX6_isFigure 12 = .ok (.iload_n 1, 1) := by decide +kernel
theorem dX6_isFigure_13 : decode cX6_isFigure 13 = .ok (.iaload, 1) := by decide +kernel
theorem dX6_isFigure_14 : decode cX6_isFigure 14 = .ok (.bipush 48, 2) := by decide +kernel
theorem dX6_isFigure_16 : decode cX6_isFigure 16 = .ok (.if_icmp .lt 18, 3) := by decide +kernel
theorem dX6_isFigure_19 : decode cX6_isFigure 19 = .ok (.aload_n 0, 1) := by decide +kernel
theorem dX6_isFigure_20 : decode cX6_isFigure 20 = .ok (.getfield 28, 3) := by decide +kernel
theorem dX6_isFigure_23 : decode cX6_isFigure 23 = .ok (.iload_n 1, 1) := by decide +kernel
theorem dX6_isFigure_24 : decode cX6_isFigure 24 = .ok (.iaload, 1) := by decide +kernel
theorem dX6_isFigure_25 : decode cX6_isFigure 25 = .ok (.bipush 57, 2) := by decide +kernel
theorem dX6_isFigure_27 : decode cX6_isFigure 27 = .ok (.if_icmp .gt 7, 3) := by decide +kernel
theorem dX6_isFigure_30 : decode cX6_isFigure 30 = .ok (.iconst 1, 1) := by decide +kernel
theorem dX6_isFigure_31 : decode cX6_isFigure 31 = .ok (.goto 4, 3) := by decide +kernel
theorem dX6_isFigure_34 : decode cX6_isFigure 34 = .ok (.iconst 0, 1) := by decide +kernel
theorem dX6_isFigure_35 : decode cX6_isFigure 35 = .ok (.ireturn, 1) := by decide +kernel
theorem dX6_go_0 : decode cX6_go 0 = .ok (.aload_n 0, 1) := by decide +kernel
theorem dX6_go_1 : decode cX6_go 1 = .ok (.getfield 198, 3) := by decide +kernel
theorem dX6_go_4 : decode cX6_go 4 = .ok (.aload_n 0, 1) := by decide +kernel
theorem dX6_go_5 : decode cX6_go 5 = .ok (.getfield 194, 3) := by decide +kernel
theorem dX6_go_8 : decode cX6_go 8 = .ok (.if_icmp .ge 30, 3) := by decide +kernel
theorem dX6_go_11 : decode cX6_go 11 = .ok (.aload_n 0, 1) := by decide +kernel
theorem dX6_go_12 : decode cX6_go 12 = .ok (.getfield 28, 3) := by decide +kernel
theorem dX6_go_15 : decode cX6_go 15 = .ok (.aload_n 0, 1) := by decide +kernel
theorem dX6_go_16 : decode cX6_go 16 = .ok (.getfield 198, 3) := by decide +kernel
theorem dX6_go_19 : decode cX6_go 19 = .ok (.iaload, 1) := by decide +kernel
theorem dX6_go_20 : decode cX6_go 20 = .ok (.bipush 32, 2) := by decide +kernel
theorem dX6_go_22 : decode cX6_go 22 = .ok (.if_icmp .ne 16, 3) := by decide +kernel
theorem dX6_go_25 : decode cX6_go 25 = .ok (.aload_n 0, 1) := by decide +kernel
theorem dX6_go_26 : decode cX6_go 26 = .ok (.dup, 1) := by decide +kernel
theorem dX6_go_27 : decode cX6_go 27 = .ok (.getfield 198, 3) := by decide +kernel
theorem dX6_go_30 : decode cX6_go 30 = .ok (.iconst 1, 1) := by decide +kernel
theorem dX6_go_31 : decode cX6_go 31 = .ok (.iadd, 1) := by decide +kernel
theorem dX6_go_32 : decode cX6_go 32 = .ok (.putfield 198, 3) := by decide +kernel
theorem dX6_go_35 : decode cX6_go 35 = .ok (.goto (-35), 3) := by decide +kernel
theorem dX6_go_38 : decode cX6_go 38 = .ok (.aload_n 0, 1) := by decide +kernel
theorem dX6_go_39 : decode cX6_go 39 = .ok (.aload_n 0, 1) := by decide +kernel
theorem dX6_go_40 : decode cX6_go 40 = .ok (.getfield 198, 3) := by decide +kernel
theorem dX6_go_43 : decode cX6_go 43 = .ok (.putfield 201, 3) := by decide +kernel
theorem dX6_go_46 : decode cX6_go 46 = .ok (.aload_n 0, 1) := by decide +kernel
theorem dX6_go_47 : decode cX6_go 47 = .ok (.getfield 201, 3) := by decide +kernel
theorem dX6_go_50 : decode cX6_go 50 = .ok (.aload_n 0, 1) := by decide +kernel
theorem dX6_go_51 : decode cX6_go 51 = .ok (.getfield 204, 3) := by decide +kernel
theorem dX6_go_54 : decode cX6_go 54 = .ok (.if_icmp .ne 7, 3) := by decide +kernel
theorem dX6_go_57 : decode cX6_go 57 = .ok (.iconst 1, 1) := by decide +kernel
theorem dX6_go_58 : decode cX6_go 58 = .ok (.goto 4, 3) := by decide +kernel
theorem dX6_go_61 : decode cX6_go 61 = .ok (.iconst 0, 1) := by decide +kernel
theorem dX6_go_62 : decode cX6_go 62 = .ok (.istore_n 1, 1) := by decide +kernel
theorem dX6_go_63 : decode cX6_go 63 = .ok (.aload_n 0, 1) := by decide +kernel
theorem dX6_go_64 : decode cX6_go 64 = .ok (.getfield 201, 3) := by decide +kernel
theorem dX6_go_67 : decode cX6_go 67 = .ok (.aload_n 0, 1) := by decide +kernel
theorem dX6_go_68 : decode cX6_go 68 = .ok (.getfield 194, 3) := by decide +kernel
theorem dX6_go_71 : decode cX6_go 71 = .ok (.if_icmp .ne 11, 3) := by decide +kernel
theorem dX6_go_74 : decode cX6_go 74 = .ok (.aload_n 0, 1) := by decide +kernel
theorem dX6_go_75 : decode cX6_go 75 = .ok (.iconst 0, 1) := by decide +kernel
theorem dX6_go_76 : decode cX6_go 76 = .ok (.putfield 207, 3) := by decide +kernel
theorem dX6_go_79 : decode cX6_go 79 = .ok (.goto 224, 3) := by decide +kernel
theorem dX6_go_82 : decode cX6_go 82 = .ok (.aload_n 0, 1) := by decide +kernel
theorem dX6_go_83 : decode cX6_go 83 = .ok (.aload_n 0, 1) := by decide +kernel
theorem dX6_go_84 : decode cX6_go 84 = .ok (.getfield 201, 3) := by decide +kernel
theorem dX6_go_87 : decode cX6_go 87 = .ok (.invokevirtual 210, 3) := by decide +kernel
theorem dX6_go_90 : decode cX6_go 90 = .ok (.ifCond .eq 64, 3) := by decide +kernel
theorem dX6_go_93 : decode cX6_go 93 = .ok (.aload_n 0, 1) := by decide +kernel
theorem dX6_go_94 : decode cX6_go 94 = .ok (.aload_n 0, 1) := by decide +kernel
theorem dX6_go_95 : decode cX6_go 95 = .ok (.getfield 198, 3) := by decide +kernel
theorem dX6_go_98 : decode cX6_go 98 = .ok (.invokevirtual 210, 3) := by decide +kernel
theorem dX6_go_101 : decode cX6_go 101 = .ok (.ifCond .eq 16, 3) := by decide +kernel
theorem dX6_go_104 : decode cX6_go 104 = .ok (.aload_n 0, 1) := by decide +kernel
theorem dX6_go_105 : decode cX6_go 105 = .ok (.dup, 1) := by decide +kernel
theorem dX6_go_106 : decode cX6_go 106 = .ok (.getfield 198, 3) := by decide +kernel
theorem dX6_go_109 : decode cX6_go 109 = .ok (.iconst 1, 1) := by decide +kernel
theorem dX6_go_110 : decode cX6_go 110 = .ok (.iadd, 1) := by decide +kernel
theorem dX6_go_111 : decode cX6_go 111 = .ok (.putfield 198, 3) := by decide +kernel
theorem dX6_go_114 : decode cX6_go 114 = .ok (.goto (-21), 3) := by decide +kernel
theorem dX6_go_117 : decode cX6_go 117 = .ok (.aload_n 0, 1) := by decide +kernel
theorem dX6_go_118 : decode cX6_go 118 = .ok (.iload_n 1, 1) := by decide +kernel
theorem dX6_go_119 : decode cX6_go 119 = .ok (.ifCond .eq 7, 3) := by decide +kernel
theorem dX6_go_122 : decode cX6_go 122 = .ok (.iconst 4, 1) := by decide +kernel
theorem dX6_go_123 : decode cX6_go 123 = .ok (.goto 4, 3) := by decide +kernel
theorem dX6_go_126 : decode cX6_go 126 = .ok (.iconst 1, 1) := by decide +kernel
theorem dX6_go_127 : decode cX6_go 127 = .ok (.putfield 207, 3) := by decide +kernel
theorem dX6_go_130 : decode cX6_go 130 = .ok (.aload_n 0, 1) := by decide +kernel
theorem dX6_go_131 : decode cX6_go 131 = .ok (.aload_n 0, 1) := by decide +kernel
theorem dX6_go_132 : decode cX6_go 132 = .ok (.getfield 28, 3) := by decide +kernel
theorem dX6_go_135 : decode cX6_go 135 = .ok (.aload_n 0, 1) := by decide +kernel
theorem dX6_go_136 : decode cX6_go 136 = .ok (.getfield 201, 3) := by decide +kernel
theorem dX6_go_139 : decode cX6_go 139 = .ok (.iaload, 1) := by decide +kernel
theorem dX6_go_140 : decode cX6_go 140 = .ok (.putfield 213, 3) := by decide +kernel
theorem dX6_go_143 : decode cX6_go 143 = .ok (.aload_n 0, 1) := by decide +kernel
theorem dX6_go_144 : decode cX6_go 144 = .ok (.aload_n 0, 1) := by decide +kernel
theorem dX6_go_145 : decode cX6_go 145 = .ok (.getfield 198, 3) := by decide +kernel
theorem dX6_go_148 : decode cX6_go 148 = .ok (.putfield 204, 3) := by decide +kernel
theorem dX6_go_151 : decode cX6_go 151 = .ok (.goto 152, 3) := by decide +kernel
theorem dX6_go_154 : decode cX6_go 154 = .ok (.aload_n 0, 1) := by decide +kernel
theorem dX6_go_155 : decode cX6_go 155 = .ok (.aload_n 0, 1) := by decide +kernel
theorem dX6_go_156 : decode cX6_go 156 = .ok (.getfield 201, 3) := by decide +kernel
theorem dX6_go_159 : decode cX6_go 159 = .ok (.invokevirtual 216, 3) := by decide +kernel
theorem dX6_go_162 : decode cX6_go 162 = .ok (.ifCond .eq 113, 3) := by decide +kernel
theorem dX6_go_165 : decode cX6_go 165 = .ok (.aload_n 0, 1) := by decide +kernel
theorem dX6_go_166 : decode cX6_go 166 = .ok (.iconst 0, 1) := by decide +kernel
theorem dX6_go_167 : decode cX6_go 167 = .ok (.putfield 213, 3) := by decide +kernel
theorem dX6_go_170 : decode cX6_go 170 = .ok (.aload_n 0, 1) := by decide +kernel
theorem dX6_go_171 : decode cX6_go 171 = .ok (.aload_n 0, 1) := by decide +kernel
theorem dX6_go_172 : decode cX6_go 172 = .ok (.getfield 198, 3) := by decide +kernel
theorem dX6_go_175 : decode cX6_go 175 = .ok (.invokevirtual 216, 3) := by decide +kernel
theorem dX6_go_178 : decode cX6_go 178 = .ok (.ifCond .eq 60, 3) := by decide +kernel
theorem dX6_go_181 : decode cX6_go 181 = .ok (.aload_n 0, 1) := by decide +kernel
theorem dX6_go_182 : decode cX6_go 182 = .ok (.aload_n 0, 1) := by decide +kernel
theorem dX6_go_183 : decode cX6_go 183 = .ok (.getfield 198, 3) := by decide +kernel
theorem dX6_go_186 : decode cX6_go 186 = .ok (.aload_n 0, 1) := by decide +kernel
theorem dX6_go_187 : decode cX6_go 187 = .ok (.getfield 201, 3) := by decide +kernel
theorem dX6_go_190 : decode cX6_go 190 = .ok (.isub, 1) := by decide +kernel
theorem dX6_go_191 : decode cX6_go 191 = .ok (.iconst 4, 1) := by decide +kernel
theorem dX6_go_192 : decode cX6_go 192 = .ok (.if_icmp .ge 26, 3) := by decide +kernel
theorem dX6_go_195 : decode cX6_go 195 = .ok (.bipush 10, 2) := by decide +kernel
theorem dX6_go_197 : decode cX6_go 197 = .ok (.aload_n 0, 1) := by decide +kernel
theorem dX6_go_198 : decode cX6_go 198 = .ok (.getfield 213, 3) := by decide +kernel
theorem dX6_go_201 : decode cX6_go 201 = .ok (.imul, 1) := by decide +kernel
theorem dX6_go_202 : decode cX6_go 202 = .ok (.aload_n 0, 1) := by decide +kernel
theorem dX6_go_203 : decode cX6_go 203 = .ok (.getfield 28, 3) := by decide +kernel
theorem dX6_go_206 : decode cX6_go 206 = .ok (.aload_n 0, 1) := by decide +kernel
theorem dX6_go_207 : decode cX6_go 207 = .ok (.getfield 198, 3) := by decide +kernel
theorem dX6_go_210 : decode cX6_go 210 = .ok (.iaload, 1) := by decide +kernel
theorem dX6_go_211 : decode cX6_go 211 = .ok (.iadd, 1) := by decide +kernel
theorem dX6_go_212 : decode cX6_go 212 = .ok (.bipush 48, 2) := by decide +kernel
theorem dX6_go_214 : decode cX6_go 214 = .ok (.isub, 1) := by decide +kernel
theorem dX6_go_215 : decode cX6_go 215 = .ok (.goto 7, 3) := by decide +kernel
theorem dX6_go_218 : decode cX6_go 218 = .ok (.aload_n 0, 1) := by decide +kernel
theorem dX6_go_219 : decode cX6_go 219 = .ok (.getfield 213, 3) := by decide +kernel
theorem dX6_go_222 : decode cX6_go 222 = .ok (.putfield 213, 3) := by decide +kernel
theorem dX6_go_225 : decode cX6_go 225 = .ok (.aload_n 0, 1) := by decide +kernel
theorem dX6_go_226 : decode cX6_go 226 = .ok (.dup, 1) := by decide +kernel
theorem dX6_go_227 : decode cX6_go 227 = .ok (.getfield 198, 3) := by decide +kernel
theorem dX6_go_230 : decode cX6_go 230 = .ok (.iconst 1, 1) := by decide +kernel
theorem dX6_go_231 : decode cX6_go 231 = .ok (.iadd, 1) := by decide +kernel
theorem dX6_go_232 : decode cX6_go 232 = .ok (.putfield 198, 3) := by decide +kernel
theorem dX6_go_235 : decode cX6_go 235 = .ok (.goto (-65), 3) := by decide +kernel
theorem dX6_go_238 : decode cX6_go 238 = .ok (.aload_n 0, 1) := by decide +kernel
theorem dX6_go_239 : decode cX6_go 239 = .ok (.iload_n 1, 1) := by decide +kernel
theorem dX6_go_240 : decode cX6_go 240 = .ok (.ifCond .ne 16, 3) := by decide +kernel
theorem dX6_go_243 : decode cX6_go 243 = .ok (.aload_n 0, 1) := by decide +kernel
theorem dX6_go_244 : decode cX6_go 244 = .ok (.getfield 198, 3) := by decide +kernel
theorem dX6_go_247 : decode cX6_go 247 = .ok (.aload_n 0, 1) := by decide +kernel
theorem dX6_go_248 : decode cX6_go 248 = .ok (.getfield 201, 3) := by decide +kernel
theorem dX6_go_251 : decode cX6_go 251 = .ok (.isub, 1) := by decide +kernel
theorem dX6_go_252 : decode cX6_go 252 = .ok (.iconst 4, 1) := by decide +kernel
theorem dX6_go_253 : decode cX6_go 253 = .ok (.if_icmp .le 7, 3) := by decide +kernel
theorem dX6_go_256 : decode cX6_go 256 = .ok (.iconst 4, 1) := by decide +kernel
theorem dX6_go_257 : decode cX6_go 257 = .ok (.goto 4, 3) := by decide +kernel
theorem dX6_go_260 : decode cX6_go 260 = .ok (.iconst 2, 1) := by decide +kernel
theorem dX6_go_261 : decode cX6_go 261 = .ok (.putfield 207, 3) := by decide +kernel
theorem dX6_go_264 : decode cX6_go 264 = .ok (.aload_n 0, 1) := by decide +kernel
theorem dX6_go_265 : decode cX6_go 265 = .ok (.aload_n 0, 1) := by decide +kernel
theorem dX6_go_266 : decode cX6_go 266 = .ok (.getfield 198, 3) := by decide +kernel
theorem dX6_go_269 : decode cX6_go 269 = .ok (.putfield 204, 3) := by decide +kernel
theorem dX6_go_272 : decode cX6_go 272 = .ok (.goto 31, 3) := by decide +kernel
theorem dX6_go_275 : decode cX6_go 275 = .ok (.aload_n 0, 1) := by decide +kernel
theorem dX6_go_276 : decode cX6_go 276 = .ok (.iconst 3, 1) := by decide +kernel
theorem dX6_go_277 : decode cX6_go 277 = .ok (.putfield 207, 3) := by decide +kernel
theorem dX6_go_280 : decode cX6_go 280 = .ok (.aload_n 0, 1) := by decide +kernel
theorem dX6_go_281 : decode cX6_go 281 = .ok (.aload_n 0, 1) := by decide +kernel
theorem dX6_go_282 : decode cX6_go 282 = .ok (.getfield 28, 3) := by decide +kernel
theorem dX6_go_285 : decode cX6_go 285 = .ok (.aload_n 0, 1) := by decide +kernel
theorem dX6_go_286 : decode cX6_go 286 = .ok (.getfield 201, 3) := by decide +kernel
theorem dX6_go_289 : decode cX6_go 289 = .ok (.iaload, 1) := by decide +kernel
theorem dX6_go_290 : decode cX6_go 290 = .ok (.putfield 213, 3) := by decide +kernel
theorem dX6_go_293 : decode cX6_go 293 = .ok (.aload_n 0, 1) := by decide +kernel
theorem dX6_go_294 : decode cX6_go 294 = .ok (.dup, 1) := by decide +kernel
theorem dX6_go_295 : decode cX6_go 295 = .ok (.getfield 198, 3) := by decide +kernel
theorem dX6_go_298 : decode cX6_go 298 = .ok (.iconst 1, 1) := by decide +kernel
theorem dX6_go_299 : decode cX6_go 299 = .ok (.iadd, 1) := by decide +kernel
theorem dX6_go_300 : decode cX6_go 300 = .ok (.putfield 198, 3) := by decide +kernel
theorem dX6_go_303 : decode cX6_go 303 = .ok (.return_, 1) := by decide +kernel
theorem dX6_takesKey_0 : decode cX6_takesKey 0 = .ok (.aload_n 0, 1) := by decide +kernel
theorem dX6_takesKey_1 : decode cX6_takesKey 1 = .ok (.getfield 207, 3) := by decide +kernel
theorem dX6_takesKey_4 : decode cX6_takesKey 4 = .ok (.iconst 1, 1) := by decide +kernel
theorem dX6_takesKey_5 : decode cX6_takesKey 5 = .ok (.if_icmp .eq 5, 3) := by decide +kernel
theorem dX6_takesKey_8 : decode cX6_takesKey 8 = .ok (.iconst 0, 1) := by decide +kernel
theorem dX6_takesKey_9 : decode cX6_takesKey 9 = .ok (.ireturn, 1) := by decide +kernel
theorem dX6_takesKey_10 : decode cX6_takesKey 10 = .ok (.iconst 0, 1) := by decide +kernel
theorem dX6_takesKey_11 : decode cX6_takesKey 11 = .ok (.istore_n 1, 1) := by decide +kernel
theorem dX6_takesKey_12 : decode cX6_takesKey 12 = .ok (.iload_n 1, 1) := by decide +kernel
theorem dX6_takesKey_13 : decode cX6_takesKey 13 = .ok (.iconst 3, 1) := by decide +kernel
theorem dX6_takesKey_14 : decode cX6_takesKey 14 = .ok (.if_icmp .ge 113, 3) := by decide +kernel
theorem dX6_takesKey_17 : decode cX6_takesKey 17 = .ok (.aload_n 0, 1) := by decide +kernel
theorem dX6_takesKey_18 : decode cX6_takesKey 18 = .ok (.getfield 35, 3) := by decide +kernel
theorem dX6_takesKey_21 : decode cX6_takesKey 21 = .ok (.iload_n 1, 1) := by decide +kernel
theorem dX6_takesKey_22 : decode cX6_takesKey 22 = .ok (.iconst 1, 1) := by decide +kernel
theorem dX6_takesKey_23 : decode cX6_takesKey 23 = .ok (.iadd, 1) := by decide +kernel
theorem dX6_takesKey_24 : decode cX6_takesKey 24 = .ok (.iaload, 1) := by decide +kernel
theorem dX6_takesKey_25 : decode cX6_takesKey 25 = .ok (.aload_n 0, 1) := by decide +kernel
theorem dX6_takesKey_26 : decode cX6_takesKey 26 = .ok (.getfield 35, 3) := by decide +kernel
theorem dX6_takesKey_29 : decode cX6_takesKey 29 = .ok (.iload_n 1, 1) := by decide +kernel
theorem dX6_takesKey_30 : decode cX6_takesKey 30 = .ok (.iaload, 1) := by decide +kernel
theorem dX6_takesKey_31 : decode cX6_takesKey 31 = .ok (.isub, 1) := by decide +kernel
theorem dX6_takesKey_32 : decode cX6_takesKey 32 = .ok (.istore_n 2, 1) := by decide +kernel
theorem dX6_takesKey_33 : decode cX6_takesKey 33 = .ok (.iload_n 2, 1) := by decide +kernel
theorem dX6_takesKey_34 : decode cX6_takesKey 34 = .ok (.aload_n 0, 1) := by decide +kernel
theorem dX6_takesKey_35 : decode cX6_takesKey 35 = .ok (.getfield 198, 3) := by decide +kernel
theorem dX6_takesKey_38 : decode cX6_takesKey 38 = .ok (.aload_n 0, 1) := by decide +kernel
theorem dX6_takesKey_39 : decode cX6_takesKey 39 = .ok (.getfield 201, 3) := by decide +kernel
theorem dX6_takesKey_42 : decode cX6_takesKey 42 = .ok (.isub, 1) := by decide +kernel
theorem dX6_takesKey_43 : decode cX6_takesKey 43 = .ok (.if_icmp .ne 7, 3) := by decide +kernel
theorem dX6_takesKey_46 : decode cX6_takesKey 46 = .ok (.iconst 1, 1) := by decide +kernel
theorem dX6_takesKey_47 : decode cX6_takesKey 47 = .ok (.goto 4, 3) := by decide +kernel
theorem dX6_takesKey_50 : decode cX6_takesKey 50 = .ok (.iconst 0, 1) := by decide +kernel
theorem dX6_takesKey_51 : decode cX6_takesKey 51 = .ok (.istore_n 3, 1) := by decide +kernel
theorem dX6_takesKey_52 : decode cX6_takesKey 52 = .ok (.iconst 0, 1) := by decide +kernel
theorem dX6_takesKey_53 : decode cX6_takesKey 53 = .ok (.istore 4, 2) := by decide +kernel
theorem dX6_takesKey_55 : decode cX6_takesKey 55 = .ok (.iload 4, 2) := by decide +kernel
theorem dX6_takesKey_57 : decode cX6_takesKey 57 = .ok (.iload_n 2, 1) := by decide +kernel
theorem dX6_takesKey_58 : decode cX6_takesKey 58 = .ok (.if_icmp .ge 48, 3) := by decide +kernel
theorem dX6_takesKey_61 : decode cX6_takesKey 61 = .ok (.iload_n 3, 1) := by decide +kernel
theorem dX6_takesKey_62 : decode cX6_takesKey 62 = .ok (.ifCond .eq 44, 3) := by decide +kernel
theorem dX6_takesKey_65 : decode cX6_takesKey 65 = .ok (.aload_n 0, 1) := by decide +kernel
theorem dX6_takesKey_66 : decode cX6_takesKey 66 = .ok (.getfield 28, 3) := by decide +kernel
theorem dX6_takesKey_69 : decode cX6_takesKey 69 = .ok (.aload_n 0, 1) := by decide +kernel
theorem dX6_takesKey_70 : decode cX6_takesKey 70 = .ok (.getfield 201, 3) := by decide +kernel
theorem dX6_takesKey_73 : decode cX6_takesKey 73 = .ok (.iload 4, 2) := by decide +kernel
theorem dX6_takesKey_75 : decode cX6_takesKey 75 = .ok (.iadd, 1) := by decide +kernel
theorem dX6_takesKey_76 : decode cX6_takesKey 76 = .ok (.iaload, 1) := by decide +kernel
theorem dX6_takesKey_77 : decode cX6_takesKey 77 = .ok (.aload_n 0, 1) := by decide +kernel
theorem dX6_takesKey_78 : decode cX6_takesKey 78 = .ok (.getfield 31, 3) := by decide +kernel
theorem dX6_takesKey_81 : decode cX6_takesKey 81 = .ok (.aload_n 0, 1) := by decide +kernel
theorem dX6_takesKey_82 : decode cX6_takesKey 82 = .ok (.getfield 35, 3) := by decide +kernel
theorem dX6_takesKey_85 : decode cX6_takesKey 85 = .ok (.iload_n 1, 1) := by decide +kernel
theorem dX6_takesKey_86 : decode cX6_takesKey 86 = .ok (.iaload, 1) := by decide +kernel
theorem dX6_takesKey_87 : decode cX6_takesKey 87 = .ok (.iload 4, 2) := by decide +kernel
theorem dX6_takesKey_89 : decode cX6_takesKey 89 = .ok (.iadd, 1) := by decide +kernel
theorem dX6_takesKey_90 : decode cX6_takesKey 90 = .ok (.caload, 1) := by decide +kernel
theorem dX6_takesKey_91 : decode cX6_takesKey 91 = .ok (.if_icmp .ne 7, 3) := by decide +kernel
theorem dX6_takesKey_94 : decode cX6_takesKey 94 = .ok (.iconst 1, 1) := by decide +kernel
theorem dX6_takesKey_95 : decode cX6_takesKey 95 = .ok (.goto 4, 3) := by decide +kernel
theorem dX6_takesKey_98 : decode cX6_takesKey 98 = .ok (.iconst 0, 1) := by decide +kernel
theorem dX6_takesKey_99 : decode cX6_takesKey 99 = .ok (.istore_n 3, 1) := by decide +kernel
theorem dX6_takesKey_100 : decode cX6_takesKey 100 = .ok (.iinc 4 1, 3) := by decide +kernel
theorem dX6_takesKey_103 : decode cX6_takesKey 103 = .ok (.goto (-48), 3) := by decide +kernel
theorem dX6_takesKey_106 : decode cX6_takesKey 106 = .ok (.iload_n 3, 1) := by decide +kernel
theorem dX6_takesKey_107 : decode cX6_takesKey 107 = .ok (.ifCond .eq 14, 3) := by decide +kernel
theorem dX6_takesKey_110 : decode cX6_takesKey 110 = .ok (.aload_n 0, 1) := by decide +kernel
theorem dX6_takesKey_111 : decode cX6_takesKey 111 = .ok (.iload_n 1, 1) := by decide +kernel
theorem dX6_takesKey_112 : decode cX6_takesKey 112 = .ok (.putfield 219, 3) := by decide +kernel
theorem dX6_takesKey_115 : decode cX6_takesKey 115 = .ok (.aload_n 0, 1) := by decide +kernel
theorem dX6_takesKey_116 : decode cX6_takesKey 116 = .ok (.invokevirtual 222, 3) := by decide +kernel
theorem dX6_takesKey_119 : decode cX6_takesKey 119 = .ok (.iconst 1, 1) := by decide +kernel
theorem dX6_takesKey_120 : decode cX6_takesKey 120 = .ok (.ireturn, 1) := by decide +kernel
theorem dX6_takesKey_121 : decode cX6_takesKey 121 = .ok (.iinc 1 1, 3) := by decide +kernel
theorem dX6_takesKey_124 : decode cX6_takesKey 124 = .ok (.goto (-112), 3) := by decide +kernel
theorem dX6_takesKey_127 : decode cX6_takesKey 127 = .ok (.iconst 0, 1) := by decide +kernel
theorem dX6_takesKey_128 : decode cX6_takesKey 128 = .ok (.ireturn, 1) := by decide +kernel
theorem dX6_nameOf_0 : decode cX6_nameOf 0 = .ok (.aload_n 0, 1) := by decide +kernel
theorem dX6_nameOf_1 : decode cX6_nameOf 1 = .ok (.getfield 219, 3) := by decide +kernel
theorem dX6_nameOf_4 : decode cX6_nameOf 4 = .ok (.lookupswitch 82 #[(0, 28), (1, 60)], 28) := by decide +kernel
theorem dX6_nameOf_32 : decode cX6_nameOf 32 = .ok (.iload_n 1, 1) := by decide +kernel
theorem dX6_nameOf_33 : decode cX6_nameOf 33 = .ok (.bipush 97, 2) := by decide +kernel
theorem dX6_nameOf_35 : decode cX6_nameOf 35 = .ok (.if_icmp .ne 7, 3) := by decide +kernel
theorem dX6_nameOf_38 : decode cX6_nameOf 38 = .ok (.iconst 0, 1) := by decide +kernel
theorem dX6_nameOf_39 : decode cX6_nameOf 39 = .ok (.goto 24, 3) := by decide +kernel
theorem dX6_nameOf_42 : decode cX6_nameOf 42 = .ok (.iload_n 1, 1) := by decide +kernel
theorem dX6_nameOf_43 : decode cX6_nameOf 43 = .ok (.bipush 103, 2) := by decide +kernel
theorem dX6_nameOf_45 : decode cX6_nameOf 45 = .ok (.if_icmp .ne 7, 3) := by decide +kernel
theorem dX6_nameOf_48 : decode cX6_nameOf 48 = .ok (.iconst 1, 1) := by decide +kernel
theorem dX6_nameOf_49 : decode cX6_nameOf 49 = .ok (.goto 14, 3) := by decide +kernel
theorem dX6_nameOf_52 : decode cX6_nameOf 52 = .ok (.iload_n 1, 1) := by decide +kernel
theorem dX6_nameOf_53 : decode cX6_nameOf 53 = .ok (.bipush 116, 2) := by decide +kernel
theorem dX6_nameOf_55 : decode cX6_nameOf 55 = .ok (.if_icmp .ne 7, 3) := by decide +kernel
theorem dX6_nameOf_58 : decode cX6_nameOf 58 = .ok (.iconst 2, 1) := by decide +kernel
theorem dX6_nameOf_59 : decode cX6_nameOf 59 = .ok (.goto 4, 3) := by decide +kernel
theorem dX6_nameOf_62 : decode cX6_nameOf 62 = .ok (.iconst (-1), 1) := by decide +kernel
theorem dX6_nameOf_63 : decode cX6_nameOf 63 = .ok (.ireturn, 1) := by decide +kernel
theorem dX6_nameOf_64 : decode cX6_nameOf 64 = .ok (.iload_n 1, 1) := by decide +kernel
theorem dX6_nameOf_65 : decode cX6_nameOf 65 = .ok (.bipush 116, 2) := by decide +kernel
theorem dX6_nameOf_67 : decode cX6_nameOf 67 = .ok (.if_icmp .ne 7, 3) := by decide +kernel
theorem dX6_nameOf_70 : decode cX6_nameOf 70 = .ok (.iconst 0, 1) := by decide +kernel
theorem dX6_nameOf_71 : decode cX6_nameOf 71 = .ok (.goto 14, 3) := by decide +kernel
theorem dX6_nameOf_74 : decode cX6_nameOf 74 = .ok (.iload_n 1, 1) := by decide +kernel
theorem dX6_nameOf_75 : decode cX6_nameOf 75 = .ok (.bipush 119, 2) := by decide +kernel
theorem dX6_nameOf_77 : decode cX6_nameOf 77 = .ok (.if_icmp .ne 7, 3) := by decide +kernel
theorem dX6_nameOf_80 : decode cX6_nameOf 80 = .ok (.iconst 1, 1) := by decide +kernel
theorem dX6_nameOf_81 : decode cX6_nameOf 81 = .ok (.goto 4, 3) := by decide +kernel
theorem dX6_nameOf_84 : decode cX6_nameOf 84 = .ok (.iconst (-1), 1) := by decide +kernel
theorem dX6_nameOf_85 : decode cX6_nameOf 85 = .ok (.ireturn, 1) := by decide +kernel
theorem dX6_nameOf_86 : decode cX6_nameOf 86 = .ok (.iload_n 1, 1) := by decide +kernel
theorem dX6_nameOf_87 : decode cX6_nameOf 87 = .ok (.bipush 100, 2) := by decide +kernel
theorem dX6_nameOf_89 : decode cX6_nameOf 89 = .ok (.if_icmp .ne 7, 3) := by decide +kernel
theorem dX6_nameOf_92 : decode cX6_nameOf 92 = .ok (.iconst 0, 1) := by decide +kernel
theorem dX6_nameOf_93 : decode cX6_nameOf 93 = .ok (.goto 14, 3) := by decide +kernel
theorem dX6_nameOf_96 : decode cX6_nameOf 96 = .ok (.iload_n 1, 1) := by decide +kernel
theorem dX6_nameOf_97 : decode cX6_nameOf 97 = .ok (.bipush 116, 2) := by decide +kernel
theorem dX6_nameOf_99 : decode cX6_nameOf 99 = .ok (.if_icmp .ne 7, 3) := by decide +kernel
theorem dX6_nameOf_102 : decode cX6_nameOf 102 = .ok (.iconst 1, 1) := by decide +kernel
theorem dX6_nameOf_103 : decode cX6_nameOf 103 = .ok (.goto 4, 3) := by decide +kernel
theorem dX6_nameOf_106 : decode cX6_nameOf 106 = .ok (.iconst (-1), 1) := by decide +kernel
theorem dX6_nameOf_107 : decode cX6_nameOf 107 = .ok (.ireturn, 1) := by decide +kernel
theorem dX6_rank_0 : decode cX6_rank 0 = .ok (.iload_n 0, 1) := by decide +kernel
theorem dX6_rank_1 : decode cX6_rank 1 = .ok (.iconst (-1), 1) := by decide +kernel
theorem dX6_rank_2 : decode cX6_rank 2 = .ok (.if_icmp .ne 7, 3) := by decide +kernel
theorem dX6_rank_5 : decode cX6_rank 5 = .ok (.iconst 1, 1) := by decide +kernel
theorem dX6_rank_6 : decode cX6_rank 6 = .ok (.goto 45, 3) := by decide +kernel
theorem dX6_rank_9 : decode cX6_rank 9 = .ok (.iload_n 0, 1) := by decide +kernel
theorem dX6_rank_10 : decode cX6_rank 10 = .ok (.bipush (-2), 2) := by decide +kernel
theorem dX6_rank_12 : decode cX6_rank 12 = .ok (.if_icmp .ne 7, 3) := by decide +kernel
theorem dX6_rank_15 : decode cX6_rank 15 = .ok (.iconst 2, 1) := by decide +kernel
theorem dX6_rank_16 : decode cX6_rank 16 = .ok (.goto 35, 3) := by decide +kernel
theorem dX6_rank_19 : decode cX6_rank 19 = .ok (.iload_n 0, 1) := by decide +kernel
theorem dX6_rank_20 : decode cX6_rank 20 = .ok (.bipush (-5), 2) := by decide +kernel
theorem dX6_rank_22 : decode cX6_rank 22 = .ok (.if_icmp .lt 7, 3) := by decide +kernel
theorem dX6_rank_25 : decode cX6_rank 25 = .ok (.iconst 3, 1) := by decide +kernel
theorem dX6_rank_26 : decode cX6_rank 26 = .ok (.goto 25, 3) := by decide +kernel
theorem dX6_rank_29 : decode cX6_rank 29 = .ok (.iload_n 0, 1) := by decide +kernel
theorem dX6_rank_30 : decode cX6_rank 30 = .ok (.bipush (-7), 2) := by decide +kernel
theorem dX6_rank_32 : decode cX6_rank 32 = .ok (.if_icmp .lt 7, 3) := by decide +kernel
theorem dX6_rank_35 : decode cX6_rank 35 = .ok (.iconst 4, 1) := by decide +kernel
theorem dX6_rank_36 : decode cX6_rank 36 = .ok (.goto 15, 3) := by decide +kernel
theorem dX6_rank_39 : decode cX6_rank 39 = .ok (.iload_n 0, 1) := by decide +kernel
theorem dX6_rank_40 : decode cX6_rank 40 = .ok (.bipush (-9), 2) := by decide +kernel
theorem dX6_rank_42 : decode cX6_rank 42 = .ok (.if_icmp .lt 7, 3) := by decide +kernel
theorem dX6_rank_45 : decode cX6_rank 45 = .ok (.iconst 5, 1) := by decide +kernel
theorem dX6_rank_46 : decode cX6_rank 46 = .ok (.goto 5, 3) := by decide +kernel
theorem dX6_rank_49 : decode cX6_rank 49 = .ok (.bipush 6, 2) := by decide +kernel
theorem dX6_rank_51 : decode cX6_rank 51 = .ok (.ireturn, 1) := by decide +kernel
theorem dX6_settle_0 : decode cX6_settle 0 = .ok (.aload_n 0, 1) := by decide +kernel
theorem dX6_settle_1 : decode cX6_settle 1 = .ok (.getfield 225, 3) := by decide +kernel
theorem dX6_settle_4 : decode cX6_settle 4 = .ok (.ifCond .le 78, 3) := by decide +kernel
theorem dX6_settle_7 : decode cX6_settle 7 = .ok (.aload_n 0, 1) := by decide +kernel
theorem dX6_settle_8 : decode cX6_settle 8 = .ok (.getfield 41, 3) := by decide +kernel
theorem dX6_settle_11 : decode cX6_settle 11 = .ok (.aload_n 0, 1) := by decide +kernel
theorem dX6_settle_12 : decode cX6_settle 12 = .ok (.getfield 225, 3) := by decide +kernel
theorem dX6_settle_15 : decode cX6_settle 15 = .ok (.iconst 1, 1) := by decide +kernel
theorem dX6_settle_16 : decode cX6_settle 16 = .ok (.isub, 1) := by decide +kernel
theorem dX6_settle_17 : decode cX6_settle 17 = .ok (.iaload, 1) := by decide +kernel
theorem dX6_settle_18 : decode cX6_settle 18 = .ok (.bipush (-11), 2) := by decide +kernel
theorem dX6_settle_20 : decode cX6_settle 20 = .ok (.if_icmp .eq 62, 3) := by decide +kernel
theorem dX6_settle_23 : decode cX6_settle 23 = .ok (.aload_n 0, 1) := by decide +kernel
theorem dX6_settle_24 : decode cX6_settle 24 = .ok (.getfield 41, 3) := by decide +kernel
theorem dX6_settle_27 : decode cX6_settle 27 = .ok (.aload_n 0, 1) := by decide +kernel
theorem dX6_settle_28 : decode cX6_settle 28 = .ok (.getfield 225, 3) := by decide +kernel
theorem dX6_settle_31 : decode cX6_settle 31 = .ok (.iconst 1, 1) := by decide +kernel
theorem dX6_settle_32 : decode cX6_settle 32 = .ok (.isub, 1) := by decide +kernel
theorem dX6_settle_33 : decode cX6_settle 33 = .ok (.iaload, 1) := by decide +kernel
theorem dX6_settle_34 : decode cX6_settle 34 = .ok (.invokestatic 228, 3) := by decide +kernel
theorem dX6_settle_37 : decode cX6_settle 37 = .ok (.iload_n 1, 1) := by decide +kernel
theorem dX6_settle_38 : decode cX6_settle 38 = .ok (.if_icmp .lt 44, 3) := by decide +kernel
theorem dX6_settle_41 : decode cX6_settle 41 = .ok (.aload_n 0, 1) := by decide +kernel
theorem dX6_settle_42 : decode cX6_settle 42 = .ok (.dup, 1) := by decide +kernel
theorem dX6_settle_43 : decode cX6_settle 43 = .ok (.getfield 225, 3) := by decide +kernel
theorem dX6_settle_46 : decode cX6_settle 46 = .ok (.iconst 1, 1) := by decide +kernel
theorem dX6_settle_47 : decode cX6_settle 47 = .ok (.isub, 1) := by decide +kernel
theorem dX6_settle_48 : decode cX6_settle 48 = .ok (.putfield 225, 3) := by decide +kernel
theorem dX6_settle_51 : decode cX6_settle 51 = .ok (.aload_n 0, 1) := by decide +kernel
theorem dX6_settle_52 : decode cX6_settle 52 = .ok (.getfield 38, 3) := by decide +kernel
theorem dX6_settle_55 : decode cX6_settle 55 = .ok (.aload_n 0, 1) := by decide +kernel
theorem dX6_settle_56 : decode cX6_settle 56 = .ok (.getfield 231, 3) := by decide +kernel
theorem dX6_settle_59 : decode cX6_settle 59 = .ok (.aload_n 0, 1) := by decide +kernel
theorem dX6_settle_60 : decode cX6_settle 60 = .ok (.getfield 41, 3) := by decide +kernel
theorem dX6_settle_63 : decode cX6_settle 63 = .ok (.aload_n 0, 1) := by decide +kernel
theorem dX6_settle_64 : decode cX6_settle 64 = .ok (.getfield 225, 3) := by decide +kernel
theorem dX6_settle_67 : decode cX6_settle 67 = .ok (.iaload, 1) := by decide +kernel
theorem dX6_settle_68 : decode cX6_settle 68 = .ok (.iastore, 1) := by decide +kernel
theorem dX6_settle_69 : decode cX6_settle 69 = .ok (.aload_n 0, 1) := by decide +kernel
theorem dX6_settle_70 : decode cX6_settle 70 = .ok (.dup, 1) := by decide +kernel
theorem dX6_settle_71 : decode cX6_settle 71 = .ok (.getfield 231, 3) := by decide +kernel
theorem dX6_settle_74 : decode cX6_settle 74 = .ok (.iconst 1, 1) := by decide +kernel
theorem dX6_settle_75 : decode cX6_settle 75 = .ok (.iadd, 1) := by decide +kernel
theorem dX6_settle_76 : decode cX6_settle 76 = .ok (.putfield 231, 3) := by decide +kernel
theorem dX6_settle_79 : decode cX6_settle 79 = .ok (.goto (-79), 3) := by decide +kernel
theorem dX6_settle_82 : decode cX6_settle 82 = .ok (.return_, 1) := by decide +kernel
theorem dX6_signHere_0 : decode cX6_signHere 0 = .ok (.aload_n 0, 1) := by decide +kernel
theorem dX6_signHere_1 : decode cX6_signHere 1 = .ok (.getfield 207, 3) := by decide +kernel
theorem dX6_signHere_4 : decode cX6_signHere 4 = .ok (.iconst 3, 1) := by decide +kernel
theorem dX6_signHere_5 : decode cX6_signHere 5 = .ok (.if_icmp .eq 5, 3) := by decide +kernel
theorem dX6_signHere_8 : decode cX6_signHere 8 = .ok (.iconst 0, 1) := by decide +kernel
theorem dX6_signHere_9 : decode cX6_signHere 9 = .ok (.ireturn, 1) := by decide +kernel
theorem dX6_signHere_10 : decode cX6_signHere 10 = .ok (.aload_n 0, 1) := by decide +kernel
theorem dX6_signHere_11 : decode cX6_signHere 11 = .ok (.getfield 213, 3) := by decide +kernel
theorem dX6_signHere_14 : decode cX6_signHere 14 = .ok (.lookupswitch 108 #[(38, 84), (42, 102), (43, 96), (45, 99), (47, 105), (60, 87), (61, 90), (62, 93), (124, 82)], 82) := by decide +kernel
theorem dX6_signHere_96 : decode cX6_signHere 96 = .ok (.iconst (-1), 1) := by decide +kernel
theorem dX6_signHere_97 : decode cX6_signHere 97 = .ok (.ireturn, 1) := by decide +kernel
theorem dX6_signHere_98 : decode cX6_signHere 98 = .ok (.bipush (-2), 2) := by decide +kernel
theorem dX6_signHere_100 : decode cX6_signHere 100 = .ok (.ireturn, 1) := by decide +kernel
theorem dX6_signHere_101 : decode cX6_signHere 101 = .ok (.bipush (-3), 2) := by decide +kernel
theorem dX6_signHere_103 : decode cX6_signHere 103 = .ok (.ireturn, 1) := by decide +kernel
theorem dX6_signHere_104 : decode cX6_signHere 104 = .ok (.bipush (-4), 2) := by decide +kernel
theorem dX6_signHere_106 : decode cX6_signHere 106 = .ok (.ireturn, 1) := by decide +kernel
theorem dX6_signHere_107 : decode cX6_signHere 107 = .ok (.bipush (-5), 2) := by decide +kernel
theorem dX6_signHere_109 : decode cX6_signHere 109 = .ok (.ireturn, 1) := by decide +kernel
theorem dX6_signHere_110 : decode cX6_signHere 110 = .ok (.bipush (-6), 2) := by decide +kernel
theorem dX6_signHere_112 : decode cX6_signHere 112 = .ok (.ireturn, 1) := by decide +kernel
theorem dX6_signHere_113 : decode cX6_signHere 113 = .ok (.bipush (-7), 2) := by decide +kernel
theorem dX6_signHere_115 : decode cX6_signHere 115 = .ok (.ireturn, 1) := by decide +kernel
theorem dX6_signHere_116 : decode cX6_signHere 116 = .ok (.bipush (-8), 2) := by decide +kernel
theorem dX6_signHere_118 : decode cX6_signHere 118 = .ok (.ireturn, 1) := by decide +kernel
theorem dX6_signHere_119 : decode cX6_signHere 119 = .ok (.bipush (-9), 2) := by decide +kernel
theorem dX6_signHere_121 : decode cX6_signHere 121 = .ok (.ireturn, 1) := by decide +kernel
theorem dX6_signHere_122 : decode cX6_signHere 122 = .ok (.iconst 0, 1) := by decide +kernel
theorem dX6_signHere_123 : decode cX6_signHere 123 = .ok (.ireturn, 1) := by decide +kernel
theorem dX6_takesPart_0 : decode cX6_takesPart 0 = .ok (.aload_n 0, 1) := by decide +kernel
theorem dX6_takesPart_1 : decode cX6_takesPart 1 = .ok (.getfield 207, 3) := by decide +kernel
theorem dX6_takesPart_4 : decode cX6_takesPart 4 = .ok (.iconst 1, 1) := by decide +kernel
theorem dX6_takesPart_5 : decode cX6_takesPart 5 = .ok (.if_icmp .ne 31, 3) := by decide +kernel
theorem dX6_takesPart_8 : decode cX6_takesPart 8 = .ok (.aload_n 0, 1) := by decide +kernel
theorem dX6_takesPart_9 : decode cX6_takesPart 9 = .ok (.getfield 198, 3) := by decide +kernel
theorem dX6_takesPart_12 : decode cX6_takesPart 12 = .ok (.aload_n 0, 1) := by decide +kernel
theorem dX6_takesPart_13 : decode cX6_takesPart 13 = .ok (.getfield 201, 3) := by decide +kernel
theorem dX6_takesPart_16 : decode cX6_takesPart 16 = .ok (.isub, 1) := by decide +kernel
theorem dX6_takesPart_17 : decode cX6_takesPart 17 = .ok (.iconst 1, 1) := by decide +kernel
theorem dX6_takesPart_18 : decode cX6_takesPart 18 = .ok (.if_icmp .ne 18, 3) := by decide +kernel
theorem dX6_takesPart_21 : decode cX6_takesPart 21 = .ok (.aload_n 0, 1) := by decide +kernel
theorem dX6_takesPart_22 : decode cX6_takesPart 22 = .ok (.aload_n 0, 1) := by decide +kernel
theorem dX6_takesPart_23 : decode cX6_takesPart 23 = .ok (.getfield 213, 3) := by decide +kernel
theorem dX6_takesPart_26 : decode cX6_takesPart 26 = .ok (.invokevirtual 234, 3) := by decide +kernel
theorem dX6_takesPart_29 : decode cX6_takesPart 29 = .ok (.ifCond .lt 7, 3) := by decide +kernel
theorem dX6_takesPart_32 : decode cX6_takesPart 32 = .ok (.iconst 1, 1) := by decide +kernel
theorem dX6_takesPart_33 : decode cX6_takesPart 33 = .ok (.goto 4, 3) := by decide +kernel
theorem dX6_takesPart_36 : decode cX6_takesPart 36 = .ok (.iconst 0, 1) := by decide +kernel
theorem dX6_takesPart_37 : decode cX6_takesPart 37 = .ok (.istore_n 1, 1) := by decide +kernel
theorem dX6_takesPart_38 : decode cX6_takesPart 38 = .ok (.aload_n 0, 1) := by decide +kernel
theorem dX6_takesPart_39 : decode cX6_takesPart 39 = .ok (.getfield 207, 3) := by decide +kernel
theorem dX6_takesPart_42 : decode cX6_takesPart 42 = .ok (.iconst 2, 1) := by decide +kernel
theorem dX6_takesPart_43 : decode cX6_takesPart 43 = .ok (.if_icmp .eq 9, 3) := by decide +kernel
theorem dX6_takesPart_46 : decode cX6_takesPart 46 = .ok (.iload_n 1, 1) := by decide +kernel
theorem dX6_takesPart_47 : decode cX6_takesPart 47 = .ok (.ifCond .ne 5, 3) := by decide +kernel
theorem dX6_takesPart_50 : decode cX6_takesPart 50 = .ok (.iconst 0, 1) := by decide +kernel
theorem dX6_takesPart_51 : decode cX6_takesPart 51 = .ok (.ireturn, 1) := by decide +kernel
theorem dX6_takesPart_52 : decode cX6_takesPart 52 = .ok (.aload_n 0, 1) := by decide +kernel
theorem dX6_takesPart_53 : decode cX6_takesPart 53 = .ok (.getfield 38, 3) := by decide +kernel
theorem dX6_takesPart_56 : decode cX6_takesPart 56 = .ok (.aload_n 0, 1) := by decide +kernel
theorem dX6_takesPart_57 : decode cX6_takesPart 57 = .ok (.getfield 231, 3) := by decide +kernel
theorem dX6_takesPart_60 : decode cX6_takesPart 60 = .ok (.aload_n 0, 1) := by decide +kernel
theorem dX6_takesPart_61 : decode cX6_takesPart 61 = .ok (.getfield 207, 3) := by decide +kernel
theorem dX6_takesPart_64 : decode cX6_takesPart 64 = .ok (.iconst 2, 1) := by decide +kernel
theorem dX6_takesPart_65 : decode cX6_takesPart 65 = .ok (.if_icmp .ne 10, 3) := by decide +kernel
theorem dX6_takesPart_68 : decode cX6_takesPart 68 = .ok (.aload_n 0, 1) := by decide +kernel
theorem dX6_takesPart_69 : decode cX6_takesPart 69 = .ok (.getfield 213, 3) := by decide +kernel
theorem dX6_takesPart_72 : decode cX6_takesPart 72 = .ok (.goto 15, 3) := by decide +kernel
theorem dX6_takesPart_75 : decode cX6_takesPart 75 = .ok (.sipush 10000, 3) := by decide +kernel
theorem dX6_takesPart_78 : decode cX6_takesPart 78 = .ok (.aload_n 0, 1) := by decide +kernel
theorem dX6_takesPart_79 : decode cX6_takesPart 79 = .ok (.aload_n 0, 1) := by decide +kernel
theorem dX6_takesPart_80 : decode cX6_takesPart 80 = .ok (.getfield 213, 3) := by decide +kernel
theorem dX6_takesPart_83 : decode cX6_takesPart 83 = .ok (.invokevirtual 234, 3) := by decide +kernel
theorem dX6_takesPart_86 : decode cX6_takesPart 86 = .ok (.iadd, 1) := by decide +kernel
theorem dX6_takesPart_87 : decode cX6_takesPart 87 = .ok (.iastore, 1) := by decide +kernel
theorem dX6_takesPart_88 : decode cX6_takesPart 88 = .ok (.aload_n 0, 1) := by decide +kernel
theorem dX6_takesPart_89 : decode cX6_takesPart 89 = .ok (.dup, 1) := by decide +kernel
theorem dX6_takesPart_90 : decode cX6_takesPart 90 = .ok (.getfield 231, 3) := by decide +kernel
theorem dX6_takesPart_93 : decode cX6_takesPart 93 = .ok (.iconst 1, 1) := by decide +kernel
theorem dX6_takesPart_94 : decode cX6_takesPart 94 = .ok (.iadd, 1) := by decide +kernel
theorem dX6_takesPart_95 : decode cX6_takesPart 95 = .ok (.putfield 231, 3) := by decide +kernel
theorem dX6_takesPart_98 : decode cX6_takesPart 98 = .ok (.aload_n 0, 1) := by decide +kernel
theorem dX6_takesPart_99 : decode cX6_takesPart 99 = .ok (.dup, 1) := by decide +kernel
theorem dX6_takesPart_100 : decode cX6_takesPart 100 = .ok (.getfield 237, 3) := by decide +kernel
theorem dX6_takesPart_103 : decode cX6_takesPart 103 = .ok (.iconst 1, 1) := by decide +kernel
theorem dX6_takesPart_104 : decode cX6_takesPart 104 = .ok (.iadd, 1) := by decide +kernel
theorem dX6_takesPart_105 : decode cX6_takesPart 105 = .ok (.putfield 237, 3) := by decide +kernel
theorem dX6_takesPart_108 : decode cX6_takesPart 108 = .ok (.aload_n 0, 1) := by decide +kernel
theorem dX6_takesPart_109 : decode cX6_takesPart 109 = .ok (.bipush 6, 2) := by decide +kernel
theorem dX6_takesPart_111 : decode cX6_takesPart 111 = .ok (.invokevirtual 240, 3) := by decide +kernel
theorem dX6_takesPart_114 : decode cX6_takesPart 114 = .ok (.aload_n 0, 1) := by decide +kernel
theorem dX6_takesPart_115 : decode cX6_takesPart 115 = .ok (.invokevirtual 222, 3) := by decide +kernel
theorem dX6_takesPart_118 : decode cX6_takesPart 118 = .ok (.iconst 1, 1) := by decide +kernel
theorem dX6_takesPart_119 : decode cX6_takesPart 119 = .ok (.ireturn, 1) := by decide +kernel
theorem dX6_takesE_0 : decode cX6_takesE 0 = .ok (.iconst 0, 1) := by decide +kernel
theorem dX6_takesE_1 : decode cX6_takesE 1 = .ok (.istore_n 1, 1) := by decide +kernel
theorem dX6_takesE_2 : decode cX6_takesE 2 = .ok (.iconst 0, 1) := by decide +kernel
theorem dX6_takesE_3 : decode cX6_takesE 3 = .ok (.istore_n 2, 1) := by decide +kernel
theorem dX6_takesE_4 : decode cX6_takesE 4 = .ok (.iconst 1, 1) := by decide +kernel
theorem dX6_takesE_5 : decode cX6_takesE 5 = .ok (.istore_n 3, 1) := by decide +kernel
theorem dX6_takesE_6 : decode cX6_takesE 6 = .ok (.aload_n 0, 1) := by decide +kernel
theorem dX6_takesE_7 : decode cX6_takesE 7 = .ok (.iconst 0, 1) := by decide +kernel
theorem dX6_takesE_8 : decode cX6_takesE 8 = .ok (.putfield 231, 3) := by decide +kernel
theorem dX6_takesE_11 : decode cX6_takesE 11 = .ok (.aload_n 0, 1) := by decide +kernel
theorem dX6_takesE_12 : decode cX6_takesE 12 = .ok (.iconst 0, 1) := by decide +kernel
theorem dX6_takesE_13 : decode cX6_takesE 13 = .ok (.putfield 237, 3) := by decide +kernel
theorem dX6_takesE_16 : decode cX6_takesE 16 = .ok (.aload_n 0, 1) := by decide +kernel
theorem dX6_takesE_17 : decode cX6_takesE 17 = .ok (.iconst 0, 1) := by decide +kernel
theorem dX6_takesE_18 : decode cX6_takesE 18 = .ok (.putfield 225, 3) := by decide +kernel
theorem dX6_takesE_21 : decode cX6_takesE 21 = .ok (.aload_n 0, 1) := by decide +kernel
theorem dX6_takesE_22 : decode cX6_takesE 22 = .ok (.getfield 44, 3) := by decide +kernel
theorem dX6_takesE_25 : decode cX6_takesE 25 = .ok (.iconst 0, 1) := by decide +kernel
theorem dX6_takesE_26 : decode cX6_takesE 26 = .ok (.iconst 0, 1) := by decide +kernel
theorem dX6_takesE_27 : decode cX6_takesE 27 = .ok (.bastore, 1) := by decide +kernel
theorem dX6_takesE_28 : decode cX6_takesE 28 = .ok (.iload_n 3, 1) := by decide +kernel
theorem dX6_takesE_29 : decode cX6_takesE 29 = .ok (.ifCond .ne 10, 3) := by decide +kernel
theorem dX6_takesE_32 : decode cX6_takesE 32 = .ok (.aload_n 0, 1) := by decide +kernel
theorem dX6_takesE_33 : decode cX6_takesE 33 = .ok (.getfield 207, 3) := by decide +kernel
theorem dX6_takesE_36 : decode cX6_takesE 36 = .ok (.ifCond .eq 309, 3) := by decide +kernel
theorem dX6_takesE_39 : decode cX6_takesE 39 = .ok (.iload_n 3, 1) := by decide +kernel
theorem dX6_takesE_40 : decode cX6_takesE 40 = .ok (.ifCond .eq 140, 3) := by decide +kernel
theorem dX6_takesE_43 : decode cX6_takesE 43 = .ok (.aload_n 0, 1) := by decide +kernel
theorem dX6_takesE_44 : decode cX6_takesE 44 = .ok (.getfield 207, 3) := by decide +kernel
theorem dX6_takesE_47 : decode cX6_takesE 47 = .ok (.iconst 3, 1) := by decide +kernel
theorem dX6_takesE_48 : decode cX6_takesE 48 = .ok (.if_icmp .ne 49, 3) := by decide +kernel
theorem dX6_takesE_51 : decode cX6_takesE 51 = .ok (.aload_n 0, 1) := by decide +kernel
theorem dX6_takesE_52 : decode cX6_takesE 52 = .ok (.getfield 213, 3) := by decide +kernel
theorem dX6_takesE_55 : decode cX6_takesE 55 = .ok (.bipush 33, 2) := by decide +kernel
theorem dX6_takesE_57 : decode cX6_takesE 57 = .ok (.if_icmp .ne 40, 3) := by decide +kernel
theorem dX6_takesE_60 : decode cX6_takesE 60 = .ok (.iload_n 2, 1) := by decide +kernel
theorem dX6_takesE_61 : decode cX6_takesE 61 = .ok (.bipush 8, 2) := by decide +kernel
theorem dX6_takesE_63 : decode cX6_takesE 63 = .ok (.if_icmp .ge 34, 3) := by decide +kernel
theorem dX6_takesE_66 : decode cX6_takesE 66 = .ok (.aload_n 0, 1) := by decide +kernel
theorem dX6_takesE_67 : decode cX6_takesE 67 = .ok (.getfield 41, 3) := by decide +kernel
theorem dX6_takesE_70 : decode cX6_takesE 70 = .ok (.aload_n 0, 1) := by decide +kernel
theorem dX6_takesE_71 : decode cX6_takesE 71 = .ok (.getfield 225, 3) := by decide +kernel
theorem dX6_takesE_74 : decode cX6_takesE 74 = .ok (.bipush (-10), 2) := by decide +kernel
theorem dX6_takesE_76 : decode cX6_takesE 76 = .ok (.iastore, 1) := by decide +kernel
theorem dX6_takesE_77 : decode cX6_takesE 77 = .ok (.aload_n 0, 1) := by decide +kernel
theorem dX6_takesE_78 : decode cX6_takesE 78 = .ok (.dup, 1) := by decide +kernel
theorem dX6_takesE_79 : decode cX6_takesE 79 = .ok (.getfield 225, 3) := by decide +kernel
theorem dX6_takesE_82 : decode cX6_takesE 82 = .ok (.iconst 1, 1) := by decide +kernel
theorem dX6_takesE_83 : decode cX6_takesE 83 = .ok (.iadd, 1) := by decide +kernel
theorem dX6_takesE_84 : decode cX6_takesE 84 = .ok (.putfield 225, 3) := by decide +kernel
theorem dX6_takesE_87 : decode cX6_takesE 87 = .ok (.iinc 2 1, 3) := by decide +kernel
theorem dX6_takesE_90 : decode cX6_takesE 90 = .ok (.aload_n 0, 1) := by decide +kernel
theorem dX6_takesE_91 : decode cX6_takesE 91 = .ok (.invokevirtual 222, 3) := by decide +kernel
theorem dX6_takesE_94 : decode cX6_takesE 94 = .ok (.goto 78, 3) := by decide +kernel
theorem dX6_takesE_97 : decode cX6_takesE 97 = .ok (.aload_n 0, 1) := by decide +kernel
theorem dX6_takesE_98 : decode cX6_takesE 98 = .ok (.getfield 207, 3) := by decide +kernel
theorem dX6_takesE_101 : decode cX6_takesE 101 = .ok (.iconst 3, 1) := by decide +kernel
theorem dX6_takesE_102 : decode cX6_takesE 102 = .ok (.if_icmp .ne 56, 3) := by decide +kernel
theorem dX6_takesE_105 : decode cX6_takesE 105 = .ok (.aload_n 0, 1) := by decide +kernel
theorem dX6_takesE_106 : decode cX6_takesE 106 = .ok (.getfield 213, 3) := by decide +kernel
theorem dX6_takesE_109 : decode cX6_takesE 109 = .ok (.bipush 40, 2) := by decide +kernel
theorem dX6_takesE_111 : decode cX6_takesE 111 = .ok (.if_icmp .ne 47, 3) := by decide +kernel
theorem dX6_takesE_114 : decode cX6_takesE 114 = .ok (.iload_n 1, 1) := by decide +kernel
theorem dX6_takesE_115 : decode cX6_takesE 115 = .ok (.bipush 8, 2) := by decide +kernel
theorem dX6_takesE_117 : decode cX6_takesE 117 = .ok (.if_icmp .ge 41, 3) := by decide +kernel
theorem dX6_takesE_120 : decode cX6_takesE 120 = .ok (.aload_n 0, 1) := by decide +kernel
theorem dX6_takesE_121 : decode cX6_takesE 121 = .ok (.getfield 41, 3) := by decide +kernel
theorem dX6_takesE_124 : decode cX6_takesE 124 = .ok (.aload_n 0, 1) := by decide +kernel
theorem dX6_takesE_125 : decode cX6_takesE 125 = .ok (.getfield 225, 3) := by decide +kernel
theorem dX6_takesE_128 : decode cX6_takesE 128 = .ok (.bipush (-11), 2) := by decide +kernel
theorem dX6_takesE_130 : decode cX6_takesE 130 = .ok (.iastore, 1) := by decide +kernel
theorem dX6_takesE_131 : decode cX6_takesE 131 = .ok (.aload_n 0, 1) := by decide +kernel
end
section
theorem dX6_takesE_132 : decode cX6_takesE 132 = .ok (.dup, 1) := by decide +kernel
theorem dX6_takesE_133 : decode cX6_takesE 133 = .ok (.getfield 225, 3) := by decide +kernel
theorem dX6_takesE_136 : decode cX6_takesE 136 = .ok (.iconst 1, 1) := by decide +kernel
theorem dX6_takesE_137 : decode cX6_takesE 137 = .ok (.iadd, 1) := by decide +kernel
theorem dX6_takesE_138 : decode cX6_takesE 138 = .ok (.putfield 225, 3) := by decide +kernel
theorem dX6_takesE_141 : decode cX6_takesE 141 = .ok (.iinc 1 1, 3) := by decide +kernel
theorem dX6_takesE_144 : decode cX6_takesE 144 = .ok (.aload_n 0, 1) := by decide +kernel
theorem dX6_takesE_145 : decode cX6_takesE 145 = .ok (.getfield 44, 3) := by decide +kernel
theorem dX6_takesE_148 : decode cX6_takesE 148 = .ok (.iload_n 1, 1) := by decide +kernel
theorem dX6_takesE_149 : decode cX6_takesE 149 = .ok (.iconst 0, 1) := by decide +kernel
theorem dX6_takesE_150 : decode cX6_takesE 150 = .ok (.bastore, 1) := by decide +kernel
theorem dX6_takesE_151 : decode cX6_takesE 151 = .ok (.aload_n 0, 1) := by decide +kernel
theorem dX6_takesE_152 : decode cX6_takesE 152 = .ok (.invokevirtual 222, 3) := by decide +kernel
theorem dX6_takesE_155 : decode cX6_takesE 155 = .ok (.goto 17, 3) := by decide +kernel
theorem dX6_takesE_158 : decode cX6_takesE 158 = .ok (.aload_n 0, 1) := by decide +kernel
theorem dX6_takesE_159 : decode cX6_takesE 159 = .ok (.invokevirtual 243, 3) := by decide +kernel
theorem dX6_takesE_162 : decode cX6_takesE 162 = .ok (.ifCond .eq 8, 3) := by decide +kernel
theorem dX6_takesE_165 : decode cX6_takesE 165 = .ok (.iconst 0, 1) := by decide +kernel
theorem dX6_takesE_166 : decode cX6_takesE 166 = .ok (.istore_n 3, 1) := by decide +kernel
theorem dX6_takesE_167 : decode cX6_takesE 167 = .ok (.goto 5, 3) := by decide +kernel
theorem dX6_takesE_170 : decode cX6_takesE 170 = .ok (.iconst 0, 1) := by decide +kernel
theorem dX6_takesE_171 : decode cX6_takesE 171 = .ok (.ireturn, 1) := by decide +kernel
theorem dX6_takesE_172 : decode cX6_takesE 172 = .ok (.aload_n 0, 1) := by decide +kernel
theorem dX6_takesE_173 : decode cX6_takesE 173 = .ok (.invokevirtual 247, 3) := by decide +kernel
theorem dX6_takesE_176 : decode cX6_takesE 176 = .ok (.istore_n 2, 1) := by decide +kernel
theorem dX6_takesE_177 : decode cX6_takesE 177 = .ok (.goto (-149), 3) := by decide +kernel
theorem dX6_takesE_180 : decode cX6_takesE 180 = .ok (.aload_n 0, 1) := by decide +kernel
theorem dX6_takesE_181 : decode cX6_takesE 181 = .ok (.getfield 207, 3) := by decide +kernel
theorem dX6_takesE_184 : decode cX6_takesE 184 = .ok (.iconst 3, 1) := by decide +kernel
theorem dX6_takesE_185 : decode cX6_takesE 185 = .ok (.if_icmp .ne 52, 3) := by decide +kernel
theorem dX6_takesE_188 : decode cX6_takesE 188 = .ok (.aload_n 0, 1) := by decide +kernel
theorem dX6_takesE_189 : decode cX6_takesE 189 = .ok (.getfield 213, 3) := by decide +kernel
theorem dX6_takesE_192 : decode cX6_takesE 192 = .ok (.bipush 41, 2) := by decide +kernel
theorem dX6_takesE_194 : decode cX6_takesE 194 = .ok (.if_icmp .ne 43, 3) := by decide +kernel
theorem dX6_takesE_197 : decode cX6_takesE 197 = .ok (.iload_n 1, 1) := by decide +kernel
theorem dX6_takesE_198 : decode cX6_takesE 198 = .ok (.ifCond .le 39, 3) := by decide +kernel
theorem dX6_takesE_201 : decode cX6_takesE 201 = .ok (.aload_n 0, 1) := by decide +kernel
theorem dX6_takesE_202 : decode cX6_takesE 202 = .ok (.iconst 0, 1) := by decide +kernel
theorem dX6_takesE_203 : decode cX6_takesE 203 = .ok (.invokevirtual 240, 3) := by decide +kernel
theorem dX6_takesE_206 : decode cX6_takesE 206 = .ok (.aload_n 0, 1) := by decide +kernel
theorem dX6_takesE_207 : decode cX6_takesE 207 = .ok (.dup, 1) := by decide +kernel
theorem dX6_takesE_208 : decode cX6_takesE 208 = .ok (.getfield 225, 3) := by decide +kernel
theorem dX6_takesE_211 : decode cX6_takesE 211 = .ok (.iconst 1, 1) := by decide +kernel
theorem dX6_takesE_212 : decode cX6_takesE 212 = .ok (.isub, 1) := by decide +kernel
theorem dX6_takesE_213 : decode cX6_takesE 213 = .ok (.putfield 225, 3) := by decide +kernel
theorem dX6_takesE_216 : decode cX6_takesE 216 = .ok (.iinc 1 (-1), 3) := by decide +kernel
theorem dX6_takesE_219 : decode cX6_takesE 219 = .ok (.aload_n 0, 1) := by decide +kernel
theorem dX6_takesE_220 : decode cX6_takesE 220 = .ok (.bipush 6, 2) := by decide +kernel
theorem dX6_takesE_222 : decode cX6_takesE 222 = .ok (.invokevirtual 240, 3) := by decide +kernel
theorem dX6_takesE_225 : decode cX6_takesE 225 = .ok (.aload_n 0, 1) := by decide +kernel
theorem dX6_takesE_226 : decode cX6_takesE 226 = .ok (.invokevirtual 247, 3) := by decide +kernel
theorem dX6_takesE_229 : decode cX6_takesE 229 = .ok (.istore_n 2, 1) := by decide +kernel
theorem dX6_takesE_230 : decode cX6_takesE 230 = .ok (.aload_n 0, 1) := by decide +kernel
theorem dX6_takesE_231 : decode cX6_takesE 231 = .ok (.invokevirtual 222, 3) := by decide +kernel
theorem dX6_takesE_234 : decode cX6_takesE 234 = .ok (.goto (-206), 3) := by decide +kernel
theorem dX6_takesE_237 : decode cX6_takesE 237 = .ok (.aload_n 0, 1) := by decide +kernel
theorem dX6_takesE_238 : decode cX6_takesE 238 = .ok (.invokevirtual 250, 3) := by decide +kernel
theorem dX6_takesE_241 : decode cX6_takesE 241 = .ok (.istore 4, 2) := by decide +kernel
theorem dX6_takesE_243 : decode cX6_takesE 243 = .ok (.iload 4, 2) := by decide +kernel
theorem dX6_takesE_245 : decode cX6_takesE 245 = .ok (.ifCond .eq 21, 3) := by decide +kernel
theorem dX6_takesE_248 : decode cX6_takesE 248 = .ok (.iload 4, 2) := by decide +kernel
theorem dX6_takesE_250 : decode cX6_takesE 250 = .ok (.invokestatic 228, 3) := by decide +kernel
theorem dX6_takesE_253 : decode cX6_takesE 253 = .ok (.iconst 3, 1) := by decide +kernel
theorem dX6_takesE_254 : decode cX6_takesE 254 = .ok (.if_icmp .ne 14, 3) := by decide +kernel
theorem dX6_takesE_257 : decode cX6_takesE 257 = .ok (.aload_n 0, 1) := by decide +kernel
theorem dX6_takesE_258 : decode cX6_takesE 258 = .ok (.getfield 44, 3) := by decide +kernel
theorem dX6_takesE_261 : decode cX6_takesE 261 = .ok (.iload_n 1, 1) := by decide +kernel
theorem dX6_takesE_262 : decode cX6_takesE 262 = .ok (.baload, 1) := by decide +kernel
theorem dX6_takesE_263 : decode cX6_takesE 263 = .ok (.ifCond .eq 5, 3) := by decide +kernel
theorem dX6_takesE_266 : decode cX6_takesE 266 = .ok (.iconst 0, 1) := by decide +kernel
theorem dX6_takesE_267 : decode cX6_takesE 267 = .ok (.ireturn, 1) := by decide +kernel
theorem dX6_takesE_268 : decode cX6_takesE 268 = .ok (.aload_n 0, 1) := by decide +kernel
theorem dX6_takesE_269 : decode cX6_takesE 269 = .ok (.getfield 44, 3) := by decide +kernel
theorem dX6_takesE_272 : decode cX6_takesE 272 = .ok (.iload_n 1, 1) := by decide +kernel
theorem dX6_takesE_273 : decode cX6_takesE 273 = .ok (.iload 4, 2) := by decide +kernel
theorem dX6_takesE_275 : decode cX6_takesE 275 = .ok (.invokestatic 228, 3) := by decide +kernel
theorem dX6_takesE_278 : decode cX6_takesE 278 = .ok (.iconst 3, 1) := by decide +kernel
theorem dX6_takesE_279 : decode cX6_takesE 279 = .ok (.if_icmp .eq 21, 3) := by decide +kernel
theorem dX6_takesE_282 : decode cX6_takesE 282 = .ok (.iload 4, 2) := by decide +kernel
theorem dX6_takesE_284 : decode cX6_takesE 284 = .ok (.invokestatic 228, 3) := by decide +kernel
theorem dX6_takesE_287 : decode cX6_takesE 287 = .ok (.iconst 3, 1) := by decide +kernel
theorem dX6_takesE_288 : decode cX6_takesE 288 = .ok (.if_icmp .le 16, 3) := by decide +kernel
theorem dX6_takesE_291 : decode cX6_takesE 291 = .ok (.aload_n 0, 1) := by decide +kernel
theorem dX6_takesE_292 : decode cX6_takesE 292 = .ok (.getfield 44, 3) := by decide +kernel
theorem dX6_takesE_295 : decode cX6_takesE 295 = .ok (.iload_n 1, 1) := by decide +kernel
theorem dX6_takesE_296 : decode cX6_takesE 296 = .ok (.baload, 1) := by decide +kernel
theorem dX6_takesE_297 : decode cX6_takesE 297 = .ok (.ifCond .eq 7, 3) := by decide +kernel
theorem dX6_takesE_300 : decode cX6_takesE 300 = .ok (.iconst 1, 1) := by decide +kernel
theorem dX6_takesE_301 : decode cX6_takesE 301 = .ok (.goto 4, 3) := by decide +kernel
theorem dX6_takesE_304 : decode cX6_takesE 304 = .ok (.iconst 0, 1) := by decide +kernel
theorem dX6_takesE_305 : decode cX6_takesE 305 = .ok (.bastore, 1) := by decide +kernel
theorem dX6_takesE_306 : decode cX6_takesE 306 = .ok (.aload_n 0, 1) := by decide +kernel
theorem dX6_takesE_307 : decode cX6_takesE 307 = .ok (.iload 4, 2) := by decide +kernel
theorem dX6_takesE_309 : decode cX6_takesE 309 = .ok (.invokestatic 228, 3) := by decide +kernel
theorem dX6_takesE_312 : decode cX6_takesE 312 = .ok (.invokevirtual 240, 3) := by decide +kernel
theorem dX6_takesE_315 : decode cX6_takesE 315 = .ok (.aload_n 0, 1) := by decide +kernel
theorem dX6_takesE_316 : decode cX6_takesE 316 = .ok (.getfield 41, 3) := by decide +kernel
theorem dX6_takesE_319 : decode cX6_takesE 319 = .ok (.aload_n 0, 1) := by decide +kernel
theorem dX6_takesE_320 : decode cX6_takesE 320 = .ok (.getfield 225, 3) := by decide +kernel
theorem dX6_takesE_323 : decode cX6_takesE 323 = .ok (.iload 4, 2) := by decide +kernel
theorem dX6_takesE_325 : decode cX6_takesE 325 = .ok (.iastore, 1) := by decide +kernel
theorem dX6_takesE_326 : decode cX6_takesE 326 = .ok (.aload_n 0, 1) := by decide +kernel
theorem dX6_takesE_327 : decode cX6_takesE 327 = .ok (.dup, 1) := by decide +kernel
theorem dX6_takesE_328 : decode cX6_takesE 328 = .ok (.getfield 225, 3) := by decide +kernel
theorem dX6_takesE_331 : decode cX6_takesE 331 = .ok (.iconst 1, 1) := by decide +kernel
theorem dX6_takesE_332 : decode cX6_takesE 332 = .ok (.iadd, 1) := by decide +kernel
theorem dX6_takesE_333 : decode cX6_takesE 333 = .ok (.putfield 225, 3) := by decide +kernel
theorem dX6_takesE_336 : decode cX6_takesE 336 = .ok (.iconst 1, 1) := by decide +kernel
theorem dX6_takesE_337 : decode cX6_takesE 337 = .ok (.istore_n 3, 1) := by decide +kernel
theorem dX6_takesE_338 : decode cX6_takesE 338 = .ok (.aload_n 0, 1) := by decide +kernel
theorem dX6_takesE_339 : decode cX6_takesE 339 = .ok (.invokevirtual 222, 3) := by decide +kernel
theorem dX6_takesE_342 : decode cX6_takesE 342 = .ok (.goto (-314), 3) := by decide +kernel
theorem dX6_takesE_345 : decode cX6_takesE 345 = .ok (.aload_n 0, 1) := by decide +kernel
theorem dX6_takesE_346 : decode cX6_takesE 346 = .ok (.iconst 0, 1) := by decide +kernel
theorem dX6_takesE_347 : decode cX6_takesE 347 = .ok (.invokevirtual 240, 3) := by decide +kernel
theorem dX6_takesE_350 : decode cX6_takesE 350 = .ok (.iload_n 1, 1) := by decide +kernel
theorem dX6_takesE_351 : decode cX6_takesE 351 = .ok (.ifCond .ne 7, 3) := by decide +kernel
theorem dX6_takesE_354 : decode cX6_takesE 354 = .ok (.iconst 1, 1) := by decide +kernel
theorem dX6_takesE_355 : decode cX6_takesE 355 = .ok (.goto 4, 3) := by decide +kernel
theorem dX6_takesE_358 : decode cX6_takesE 358 = .ok (.iconst 0, 1) := by decide +kernel
theorem dX6_takesE_359 : decode cX6_takesE 359 = .ok (.ireturn, 1) := by decide +kernel
theorem dX6_notsOpen_0 : decode cX6_notsOpen 0 = .ok (.iconst 0, 1) := by decide +kernel
theorem dX6_notsOpen_1 : decode cX6_notsOpen 1 = .ok (.istore_n 1, 1) := by decide +kernel
theorem dX6_notsOpen_2 : decode cX6_notsOpen 2 = .ok (.iconst 0, 1) := by decide +kernel
theorem dX6_notsOpen_3 : decode cX6_notsOpen 3 = .ok (.istore_n 2, 1) := by decide +kernel
theorem dX6_notsOpen_4 : decode cX6_notsOpen 4 = .ok (.iload_n 2, 1) := by decide +kernel
theorem dX6_notsOpen_5 : decode cX6_notsOpen 5 = .ok (.aload_n 0, 1) := by decide +kernel
theorem dX6_notsOpen_6 : decode cX6_notsOpen 6 = .ok (.getfield 225, 3) := by decide +kernel
theorem dX6_notsOpen_9 : decode cX6_notsOpen 9 = .ok (.if_icmp .ge 28, 3) := by decide +kernel
theorem dX6_notsOpen_12 : decode cX6_notsOpen 12 = .ok (.iload_n 1, 1) := by decide +kernel
theorem dX6_notsOpen_13 : decode cX6_notsOpen 13 = .ok (.aload_n 0, 1) := by decide +kernel
theorem dX6_notsOpen_14 : decode cX6_notsOpen 14 = .ok (.getfield 41, 3) := by decide +kernel
theorem dX6_notsOpen_17 : decode cX6_notsOpen 17 = .ok (.iload_n 2, 1) := by decide +kernel
theorem dX6_notsOpen_18 : decode cX6_notsOpen 18 = .ok (.iaload, 1) := by decide +kernel
theorem dX6_notsOpen_19 : decode cX6_notsOpen 19 = .ok (.bipush (-10), 2) := by decide +kernel
theorem dX6_notsOpen_21 : decode cX6_notsOpen 21 = .ok (.if_icmp .ne 7, 3) := by decide +kernel
theorem dX6_notsOpen_24 : decode cX6_notsOpen 24 = .ok (.iconst 1, 1) := by decide +kernel
theorem dX6_notsOpen_25 : decode cX6_notsOpen 25 = .ok (.goto 4, 3) := by decide +kernel
theorem dX6_notsOpen_28 : decode cX6_notsOpen 28 = .ok (.iconst 0, 1) := by decide +kernel
theorem dX6_notsOpen_29 : decode cX6_notsOpen 29 = .ok (.iadd, 1) := by decide +kernel
theorem dX6_notsOpen_30 : decode cX6_notsOpen 30 = .ok (.istore_n 1, 1) := by decide +kernel
theorem dX6_notsOpen_31 : decode cX6_notsOpen 31 = .ok (.iinc 2 1, 3) := by decide +kernel
theorem dX6_notsOpen_34 : decode cX6_notsOpen 34 = .ok (.goto (-30), 3) := by decide +kernel
theorem dX6_notsOpen_37 : decode cX6_notsOpen 37 = .ok (.iload_n 1, 1) := by decide +kernel
theorem dX6_notsOpen_38 : decode cX6_notsOpen 38 = .ok (.ireturn, 1) := by decide +kernel
theorem dX6_text_0 : decode cX6_text 0 = .ok (.aload_n 0, 1) := by decide +kernel
theorem dX6_text_1 : decode cX6_text 1 = .ok (.iconst 0, 1) := by decide +kernel
theorem dX6_text_2 : decode cX6_text 2 = .ok (.putfield 198, 3) := by decide +kernel
theorem dX6_text_5 : decode cX6_text 5 = .ok (.aload_n 0, 1) := by decide +kernel
theorem dX6_text_6 : decode cX6_text 6 = .ok (.iconst (-1), 1) := by decide +kernel
theorem dX6_text_7 : decode cX6_text 7 = .ok (.putfield 204, 3) := by decide +kernel
theorem dX6_text_10 : decode cX6_text 10 = .ok (.aload_n 0, 1) := by decide +kernel
theorem dX6_text_11 : decode cX6_text 11 = .ok (.invokevirtual 222, 3) := by decide +kernel
theorem dX6_text_14 : decode cX6_text 14 = .ok (.aload_n 0, 1) := by decide +kernel
theorem dX6_text_15 : decode cX6_text 15 = .ok (.invokevirtual 253, 3) := by decide +kernel
theorem dX6_text_18 : decode cX6_text 18 = .ok (.ifCond .eq 14, 3) := by decide +kernel
theorem dX6_text_21 : decode cX6_text 21 = .ok (.aload_n 0, 1) := by decide +kernel
theorem dX6_text_22 : decode cX6_text 22 = .ok (.invokevirtual 256, 3) := by decide +kernel
theorem dX6_text_25 : decode cX6_text 25 = .ok (.ifCond .eq 7, 3) := by decide +kernel
theorem dX6_text_28 : decode cX6_text 28 = .ok (.iconst 1, 1) := by decide +kernel
theorem dX6_text_29 : decode cX6_text 29 = .ok (.goto 4, 3) := by decide +kernel
theorem dX6_text_32 : decode cX6_text 32 = .ok (.iconst 0, 1) := by decide +kernel
theorem dX6_text_33 : decode cX6_text 33 = .ok (.istore_n 1, 1) := by decide +kernel
theorem dX6_text_34 : decode cX6_text 34 = .ok (.aload_n 0, 1) := by decide +kernel
theorem dX6_text_35 : decode cX6_text 35 = .ok (.iconst 0, 1) := by decide +kernel
theorem dX6_text_36 : decode cX6_text 36 = .ok (.putfield 194, 3) := by decide +kernel
theorem dX6_text_39 : decode cX6_text 39 = .ok (.iload_n 1, 1) := by decide +kernel
theorem dX6_text_40 : decode cX6_text 40 = .ok (.ifCond .ne 11, 3) := by decide +kernel
theorem dX6_text_43 : decode cX6_text 43 = .ok (.bipush (-100), 2) := by decide +kernel
theorem dX6_text_45 : decode cX6_text 45 = .ok (.aload_n 0, 1) := by decide +kernel
theorem dX6_text_46 : decode cX6_text 46 = .ok (.getfield 201, 3) := by decide +kernel
theorem dX6_text_49 : decode cX6_text 49 = .ok (.isub, 1) := by decide +kernel
theorem dX6_text_50 : decode cX6_text 50 = .ok (.ireturn, 1) := by decide +kernel
theorem dX6_text_51 : decode cX6_text 51 = .ok (.aload_n 0, 1) := by decide +kernel
theorem dX6_text_52 : decode cX6_text 52 = .ok (.getfield 9, 3) := by decide +kernel
theorem dX6_text_55 : decode cX6_text 55 = .ok (.bipush 7, 2) := by decide +kernel
theorem dX6_text_57 : decode cX6_text 57 = .ok (.iaload, 1) := by decide +kernel
theorem dX6_text_58 : decode cX6_text 58 = .ok (.bipush 14, 2) := by decide +kernel
theorem dX6_text_60 : decode cX6_text 60 = .ok (.if_icmp .ne 6, 3) := by decide +kernel
theorem dX6_text_63 : decode cX6_text 63 = .ok (.ldc 91, 2) := by decide +kernel
theorem dX6_text_65 : decode cX6_text 65 = .ok (.ireturn, 1) := by decide +kernel
theorem dX6_text_66 : decode cX6_text 66 = .ok (.aload_n 0, 1) := by decide +kernel
theorem dX6_text_67 : decode cX6_text 67 = .ok (.getfield 9, 3) := by decide +kernel
theorem dX6_text_70 : decode cX6_text 70 = .ok (.bipush 7, 2) := by decide +kernel
theorem dX6_text_72 : decode cX6_text 72 = .ok (.iaload, 1) := by decide +kernel
theorem dX6_text_73 : decode cX6_text 73 = .ok (.istore_n 2, 1) := by decide +kernel
theorem dX6_text_74 : decode cX6_text 74 = .ok (.aload_n 0, 1) := by decide +kernel
theorem dX6_text_75 : decode cX6_text 75 = .ok (.getfield 9, 3) := by decide +kernel
theorem dX6_text_78 : decode cX6_text 78 = .ok (.bipush 40, 2) := by decide +kernel
theorem dX6_text_80 : decode cX6_text 80 = .ok (.iconst 2, 1) := by decide +kernel
theorem dX6_text_81 : decode cX6_text 81 = .ok (.iload_n 2, 1) := by decide +kernel
theorem dX6_text_82 : decode cX6_text 82 = .ok (.imul, 1) := by decide +kernel
theorem dX6_text_83 : decode cX6_text 83 = .ok (.iadd, 1) := by decide +kernel
theorem dX6_text_84 : decode cX6_text 84 = .ok (.sipush 1000, 3) := by decide +kernel
theorem dX6_text_87 : decode cX6_text 87 = .ok (.aload_n 0, 1) := by decide +kernel
theorem dX6_text_88 : decode cX6_text 88 = .ok (.getfield 219, 3) := by decide +kernel
theorem dX6_text_91 : decode cX6_text 91 = .ok (.imul, 1) := by decide +kernel
theorem dX6_text_92 : decode cX6_text 92 = .ok (.aload_n 0, 1) := by decide +kernel
theorem dX6_text_93 : decode cX6_text 93 = .ok (.getfield 231, 3) := by decide +kernel
theorem dX6_text_96 : decode cX6_text 96 = .ok (.iadd, 1) := by decide +kernel
theorem dX6_text_97 : decode cX6_text 97 = .ok (.iastore, 1) := by decide +kernel
theorem dX6_text_98 : decode cX6_text 98 = .ok (.aload_n 0, 1) := by decide +kernel
theorem dX6_text_99 : decode cX6_text 99 = .ok (.getfield 9, 3) := by decide +kernel
theorem dX6_text_102 : decode cX6_text 102 = .ok (.bipush 40, 2) := by decide +kernel
theorem dX6_text_104 : decode cX6_text 104 = .ok (.iconst 2, 1) := by decide +kernel
theorem dX6_text_105 : decode cX6_text 105 = .ok (.iload_n 2, 1) := by decide +kernel
theorem dX6_text_106 : decode cX6_text 106 = .ok (.imul, 1) := by decide +kernel
theorem dX6_text_107 : decode cX6_text 107 = .ok (.iadd, 1) := by decide +kernel
theorem dX6_text_108 : decode cX6_text 108 = .ok (.iconst 1, 1) := by decide +kernel
theorem dX6_text_109 : decode cX6_text 109 = .ok (.iadd, 1) := by decide +kernel
theorem dX6_text_110 : decode cX6_text 110 = .ok (.aload_n 0, 1) := by decide +kernel
theorem dX6_text_111 : decode cX6_text 111 = .ok (.getfield 237, 3) := by decide +kernel
theorem dX6_text_114 : decode cX6_text 114 = .ok (.iastore, 1) := by decide +kernel
theorem dX6_text_115 : decode cX6_text 115 = .ok (.iconst 0, 1) := by decide +kernel
theorem dX6_text_116 : decode cX6_text 116 = .ok (.istore_n 3, 1) := by decide +kernel
theorem dX6_text_117 : decode cX6_text 117 = .ok (.iload_n 3, 1) := by decide +kernel
theorem dX6_text_118 : decode cX6_text 118 = .ok (.aload_n 0, 1) := by decide +kernel
theorem dX6_text_119 : decode cX6_text 119 = .ok (.getfield 231, 3) := by decide +kernel
theorem dX6_text_122 : decode cX6_text 122 = .ok (.if_icmp .ge 29, 3) := by decide +kernel
theorem dX6_text_125 : decode cX6_text 125 = .ok (.aload_n 0, 1) := by decide +kernel
theorem dX6_text_126 : decode cX6_text 126 = .ok (.getfield 9, 3) := by decide +kernel
theorem dX6_text_129 : decode cX6_text 129 = .ok (.bipush 68, 2) := by decide +kernel
theorem dX6_text_131 : decode cX6_text 131 = .ok (.bipush 96, 2) := by decide +kernel
theorem dX6_text_133 : decode cX6_text 133 = .ok (.iload_n 2, 1) := by decide +kernel
theorem dX6_text_134 : decode cX6_text 134 = .ok (.imul, 1) := by decide +kernel
theorem dX6_text_135 : decode cX6_text 135 = .ok (.iadd, 1) := by decide +kernel
theorem dX6_text_136 : decode cX6_text 136 = .ok (.iload_n 3, 1) := by decide +kernel
theorem dX6_text_137 : decode cX6_text 137 = .ok (.iadd, 1) := by decide +kernel
theorem dX6_text_138 : decode cX6_text 138 = .ok (.aload_n 0, 1) := by decide +kernel
theorem dX6_text_139 : decode cX6_text 139 = .ok (.getfield 38, 3) := by decide +kernel
theorem dX6_text_142 : decode cX6_text 142 = .ok (.iload_n 3, 1) := by decide +kernel
theorem dX6_text_143 : decode cX6_text 143 = .ok (.iaload, 1) := by decide +kernel
theorem dX6_text_144 : decode cX6_text 144 = .ok (.iastore, 1) := by decide +kernel
theorem dX6_text_145 : decode cX6_text 145 = .ok (.iinc 3 1, 3) := by decide +kernel
theorem dX6_text_148 : decode cX6_text 148 = .ok (.goto (-31), 3) := by decide +kernel
theorem dX6_text_151 : decode cX6_text 151 = .ok (.aload_n 0, 1) := by decide +kernel
theorem dX6_text_152 : decode cX6_text 152 = .ok (.getfield 9, 3) := by decide +kernel
theorem dX6_text_155 : decode cX6_text 155 = .ok (.bipush 7, 2) := by decide +kernel
theorem dX6_text_157 : decode cX6_text 157 = .ok (.dup2, 1) := by decide +kernel
theorem dX6_text_158 : decode cX6_text 158 = .ok (.iaload, 1) := by decide +kernel
theorem dX6_text_159 : decode cX6_text 159 = .ok (.iconst 1, 1) := by decide +kernel
theorem dX6_text_160 : decode cX6_text 160 = .ok (.iadd, 1) := by decide +kernel
theorem dX6_text_161 : decode cX6_text 161 = .ok (.iastore, 1) := by decide +kernel
theorem dX6_text_162 : decode cX6_text 162 = .ok (.iload_n 2, 1) := by decide +kernel
theorem dX6_text_163 : decode cX6_text 163 = .ok (.ireturn, 1) := by decide +kernel
theorem dX6_textTold_0 : decode cX6_textTold 0 = .ok (.iload_n 1, 1) := by decide +kernel
theorem dX6_textTold_1 : decode cX6_textTold 1 = .ok (.iconst 0, 1) := by decide +kernel
theorem dX6_textTold_2 : decode cX6_textTold 2 = .ok (.aload_n 0, 1) := by decide +kernel
theorem dX6_textTold_3 : decode cX6_textTold 3 = .ok (.getfield 9, 3) := by decide +kernel
theorem dX6_textTold_6 : decode cX6_textTold 6 = .ok (.bipush 7, 2) := by decide +kernel
theorem dX6_textTold_8 : decode cX6_textTold 8 = .ok (.iaload, 1) := by decide +kernel
theorem dX6_textTold_9 : decode cX6_textTold 9 = .ok (.iconst 1, 1) := by decide +kernel
theorem dX6_textTold_10 : decode cX6_textTold 10 = .ok (.isub, 1) := by decide +kernel
theorem dX6_textTold_11 : decode cX6_textTold 11 = .ok (.invokestatic 82, 3) := by decide +kernel
theorem dX6_textTold_14 : decode cX6_textTold 14 = .ok (.ifCond .eq 12, 3) := by decide +kernel
theorem dX6_textTold_17 : decode cX6_textTold 17 = .ok (.iload_n 2, 1) := by decide +kernel
theorem dX6_textTold_18 : decode cX6_textTold 18 = .ok (.iconst 0, 1) := by decide +kernel
theorem dX6_textTold_19 : decode cX6_textTold 19 = .ok (.iconst 1, 1) := by decide +kernel
theorem dX6_textTold_20 : decode cX6_textTold 20 = .ok (.invokestatic 82, 3) := by decide +kernel
theorem dX6_textTold_23 : decode cX6_textTold 23 = .ok (.ifCond .ne 6, 3) := by decide +kernel
theorem dX6_textTold_26 : decode cX6_textTold 26 = .ok (.ldc 90, 2) := by decide +kernel
theorem dX6_textTold_28 : decode cX6_textTold 28 = .ok (.ireturn, 1) := by decide +kernel
theorem dX6_textTold_29 : decode cX6_textTold 29 = .ok (.iload_n 2, 1) := by decide +kernel
theorem dX6_textTold_30 : decode cX6_textTold 30 = .ok (.ifCond .ne 21, 3) := by decide +kernel
theorem dX6_textTold_33 : decode cX6_textTold 33 = .ok (.aload_n 0, 1) := by decide +kernel
theorem dX6_textTold_34 : decode cX6_textTold 34 = .ok (.getfield 9, 3) := by decide +kernel
theorem dX6_textTold_37 : decode cX6_textTold 37 = .ok (.bipush 40, 2) := by decide +kernel
theorem dX6_textTold_39 : decode cX6_textTold 39 = .ok (.iconst 2, 1) := by decide +kernel
theorem dX6_textTold_40 : decode cX6_textTold 40 = .ok (.iload_n 1, 1) := by decide +kernel
theorem dX6_textTold_41 : decode cX6_textTold 41 = .ok (.imul, 1) := by decide +kernel
theorem dX6_textTold_42 : decode cX6_textTold 42 = .ok (.iadd, 1) := by decide +kernel
theorem dX6_textTold_43 : decode cX6_textTold 43 = .ok (.iaload, 1) := by decide +kernel
theorem dX6_textTold_44 : decode cX6_textTold 44 = .ok (.sipush 1000, 3) := by decide +kernel
theorem dX6_textTold_47 : decode cX6_textTold 47 = .ok (.idiv, 1) := by decide +kernel
theorem dX6_textTold_48 : decode cX6_textTold 48 = .ok (.goto 16, 3) := by decide +kernel
theorem dX6_textTold_51 : decode cX6_textTold 51 = .ok (.aload_n 0, 1) := by decide +kernel
theorem dX6_textTold_52 : decode cX6_textTold 52 = .ok (.getfield 9, 3) := by decide +kernel
theorem dX6_textTold_55 : decode cX6_textTold 55 = .ok (.bipush 40, 2) := by decide +kernel
theorem dX6_textTold_57 : decode cX6_textTold 57 = .ok (.iconst 2, 1) := by decide +kernel
theorem dX6_textTold_58 : decode cX6_textTold 58 = .ok (.iload_n 1, 1) := by decide +kernel
theorem dX6_textTold_59 : decode cX6_textTold 59 = .ok (.imul, 1) := by decide +kernel
theorem dX6_textTold_60 : decode cX6_textTold 60 = .ok (.iadd, 1) := by decide +kernel
theorem dX6_textTold_61 : decode cX6_textTold 61 = .ok (.iconst 1, 1) := by decide +kernel
theorem dX6_textTold_62 : decode cX6_textTold 62 = .ok (.iadd, 1) := by decide +kernel
theorem dX6_textTold_63 : decode cX6_textTold 63 = .ok (.iaload, 1) := by decide +kernel
theorem dX6_textTold_64 : decode cX6_textTold 64 = .ok (.ireturn, 1) := by decide +kernel
theorem dX6_counts_0 : decode cX6_counts 0 = .ok (.aload_n 0, 1) := by decide +kernel
theorem dX6_counts_1 : decode cX6_counts 1 = .ok (.getfield 9, 3) := by decide +kernel
theorem dX6_counts_4 : decode cX6_counts 4 = .ok (.bipush 7, 2) := by decide +kernel
theorem dX6_counts_6 : decode cX6_counts 6 = .ok (.iaload, 1) := by decide +kernel
theorem dX6_counts_7 : decode cX6_counts 7 = .ok (.iconst 1, 1) := by decide +kernel
theorem dX6_counts_8 : decode cX6_counts 8 = .ok (.isub, 1) := by decide +kernel
theorem dX6_counts_9 : decode cX6_counts 9 = .ok (.istore_n 2, 1) := by decide +kernel
theorem dX6_counts_10 : decode cX6_counts 10 = .ok (.iload_n 2, 1) := by decide +kernel
theorem dX6_counts_11 : decode cX6_counts 11 = .ok (.ifCond .lt 30, 3) := by decide +kernel
theorem dX6_counts_14 : decode cX6_counts 14 = .ok (.aload_n 0, 1) := by decide +kernel
theorem dX6_counts_15 : decode cX6_counts 15 = .ok (.getfield 9, 3) := by decide +kernel
theorem dX6_counts_18 : decode cX6_counts 18 = .ok (.bipush 40, 2) := by decide +kernel
theorem dX6_counts_20 : decode cX6_counts 20 = .ok (.iconst 2, 1) := by decide +kernel
theorem dX6_counts_21 : decode cX6_counts 21 = .ok (.iload_n 2, 1) := by decide +kernel
theorem dX6_counts_22 : decode cX6_counts 22 = .ok (.imul, 1) := by decide +kernel
theorem dX6_counts_23 : decode cX6_counts 23 = .ok (.iadd, 1) := by decide +kernel
theorem dX6_counts_24 : decode cX6_counts 24 = .ok (.iaload, 1) := by decide +kernel
theorem dX6_counts_25 : decode cX6_counts 25 = .ok (.sipush 1000, 3) := by decide +kernel
theorem dX6_counts_28 : decode cX6_counts 28 = .ok (.idiv, 1) := by decide +kernel
theorem dX6_counts_29 : decode cX6_counts 29 = .ok (.iload_n 1, 1) := by decide +kernel
theorem dX6_counts_30 : decode cX6_counts 30 = .ok (.if_icmp .ne 5, 3) := by decide +kernel
theorem dX6_counts_33 : decode cX6_counts 33 = .ok (.iload_n 2, 1) := by decide +kernel
theorem dX6_counts_34 : decode cX6_counts 34 = .ok (.ireturn, 1) := by decide +kernel
theorem dX6_counts_35 : decode cX6_counts 35 = .ok (.iinc 2 (-1), 3) := by decide +kernel
theorem dX6_counts_38 : decode cX6_counts 38 = .ok (.goto (-28), 3) := by decide +kernel
theorem dX6_counts_41 : decode cX6_counts 41 = .ok (.iconst (-1), 1) := by decide +kernel
theorem dX6_counts_42 : decode cX6_counts 42 = .ok (.ireturn, 1) := by decide +kernel
theorem dX6_why_0 : decode cX6_why 0 = .ok (.iload_n 1, 1) := by decide +kernel
theorem dX6_why_1 : decode cX6_why 1 = .ok (.iconst 0, 1) := by decide +kernel
theorem dX6_why_2 : decode cX6_why 2 = .ok (.iconst 2, 1) := by decide +kernel
theorem dX6_why_3 : decode cX6_why 3 = .ok (.invokestatic 82, 3) := by decide +kernel
theorem dX6_why_6 : decode cX6_why 6 = .ok (.ifCond .ne 6, 3) := by decide +kernel
theorem dX6_why_9 : decode cX6_why 9 = .ok (.ldc 90, 2) := by decide +kernel
theorem dX6_why_11 : decode cX6_why 11 = .ok (.ireturn, 1) := by decide +kernel
theorem dX6_why_12 : decode cX6_why 12 = .ok (.aload_n 0, 1) := by decide +kernel
theorem dX6_why_13 : decode cX6_why 13 = .ok (.iload_n 1, 1) := by decide +kernel
theorem dX6_why_14 : decode cX6_why 14 = .ok (.invokevirtual 112, 3) := by decide +kernel
theorem dX6_why_17 : decode cX6_why 17 = .ok (.istore_n 2, 1) := by decide +kernel
theorem dX6_why_18 : decode cX6_why 18 = .ok (.iload_n 2, 1) := by decide +kernel
theorem dX6_why_19 : decode cX6_why 19 = .ok (.ifCond .ge 8, 3) := by decide +kernel
theorem dX6_why_22 : decode cX6_why 22 = .ok (.ldc 81, 2) := by decide +kernel
theorem dX6_why_24 : decode cX6_why 24 = .ok (.goto 4, 3) := by decide +kernel
theorem dX6_why_27 : decode cX6_why 27 = .ok (.iload_n 2, 1) := by decide +kernel
theorem dX6_why_28 : decode cX6_why 28 = .ok (.ireturn, 1) := by decide +kernel
theorem dX6_two_0 : decode cX6_two 0 = .ok (.iload_n 0, 1) := by decide +kernel
theorem dX6_two_1 : decode cX6_two 1 = .ok (.tableswitch 120 (-8) (-1) #[116, 112, 108, 97, 86, 75, 61, 47], 47) := by decide +kernel
theorem dX6_two_48 : decode cX6_two 48 = .ok (.iload_n 1, 1) := by decide +kernel
theorem dX6_two_49 : decode cX6_two 49 = .ok (.ifCond .ne 7, 3) := by decide +kernel
theorem dX6_two_52 : decode cX6_two 52 = .ok (.iload_n 2, 1) := by decide +kernel
theorem dX6_two_53 : decode cX6_two 53 = .ok (.ifCond .eq 7, 3) := by decide +kernel
theorem dX6_two_56 : decode cX6_two 56 = .ok (.iconst 1, 1) := by decide +kernel
theorem dX6_two_57 : decode cX6_two 57 = .ok (.goto 4, 3) := by decide +kernel
theorem dX6_two_60 : decode cX6_two 60 = .ok (.iconst 0, 1) := by decide +kernel
theorem dX6_two_61 : decode cX6_two 61 = .ok (.ireturn, 1) := by decide +kernel
theorem dX6_two_62 : decode cX6_two 62 = .ok (.iload_n 1, 1) := by decide +kernel
theorem dX6_two_63 : decode cX6_two 63 = .ok (.ifCond .eq 11, 3) := by decide +kernel
theorem dX6_two_66 : decode cX6_two 66 = .ok (.iload_n 2, 1) := by decide +kernel
theorem dX6_two_67 : decode cX6_two 67 = .ok (.ifCond .eq 7, 3) := by decide +kernel
theorem dX6_two_70 : decode cX6_two 70 = .ok (.iconst 1, 1) := by decide +kernel
theorem dX6_two_71 : decode cX6_two 71 = .ok (.goto 4, 3) := by decide +kernel
theorem dX6_two_74 : decode cX6_two 74 = .ok (.iconst 0, 1) := by decide +kernel
theorem dX6_two_75 : decode cX6_two 75 = .ok (.ireturn, 1) := by decide +kernel
theorem dX6_two_76 : decode cX6_two 76 = .ok (.iload_n 1, 1) := by decide +kernel
theorem dX6_two_77 : decode cX6_two 77 = .ok (.iload_n 2, 1) := by decide +kernel
theorem dX6_two_78 : decode cX6_two 78 = .ok (.if_icmp .ge 7, 3) := by decide +kernel
theorem dX6_two_81 : decode cX6_two 81 = .ok (.iconst 1, 1) := by decide +kernel
theorem dX6_two_82 : decode cX6_two 82 = .ok (.goto 4, 3) := by decide +kernel
theorem dX6_two_85 : decode cX6_two 85 = .ok (.iconst 0, 1) := by decide +kernel
theorem dX6_two_86 : decode cX6_two 86 = .ok (.ireturn, 1) := by decide +kernel
theorem dX6_two_87 : decode cX6_two 87 = .ok (.iload_n 1, 1) := by decide +kernel
theorem dX6_two_88 : decode cX6_two 88 = .ok (.iload_n 2, 1) := by decide +kernel
theorem dX6_two_89 : decode cX6_two 89 = .ok (.if_icmp .ne 7, 3) := by decide +kernel
theorem dX6_two_92 : decode cX6_two 92 = .ok (.iconst 1, 1) := by decide +kernel
theorem dX6_two_93 : decode cX6_two 93 = .ok (.goto 4, 3) := by decide +kernel
theorem dX6_two_96 : decode cX6_two 96 = .ok (.iconst 0, 1) := by decide +kernel
theorem dX6_two_97 : decode cX6_two 97 = .ok (.ireturn, 1) := by decide +kernel
theorem dX6_two_98 : decode cX6_two 98 = .ok (.iload_n 1, 1) := by decide +kernel
theorem dX6_two_99 : decode cX6_two 99 = .ok (.iload_n 2, 1) := by decide +kernel
theorem dX6_two_100 : decode cX6_two 100 = .ok (.if_icmp .le 7, 3) := by decide +kernel
theorem dX6_two_103 : decode cX6_two 103 = .ok (.iconst 1, 1) := by decide +kernel
theorem dX6_two_104 : decode cX6_two 104 = .ok (.goto 4, 3) := by decide +kernel
theorem dX6_two_107 : decode cX6_two 107 = .ok (.iconst 0, 1) := by decide +kernel
theorem dX6_two_108 : decode cX6_two 108 = .ok (.ireturn, 1) := by decide +kernel
theorem dX6_two_109 : decode cX6_two 109 = .ok (.iload_n 1, 1) := by decide +kernel
theorem dX6_two_110 : decode cX6_two 110 = .ok (.iload_n 2, 1) := by decide +kernel
theorem dX6_two_111 : decode cX6_two 111 = .ok (.iadd, 1) := by decide +kernel
theorem dX6_two_112 : decode cX6_two 112 = .ok (.ireturn, 1) := by decide +kernel
theorem dX6_two_113 : decode cX6_two 113 = .ok (.iload_n 1, 1) := by decide +kernel
theorem dX6_two_114 : decode cX6_two 114 = .ok (.iload_n 2, 1) := by decide +kernel
theorem dX6_two_115 : decode cX6_two 115 = .ok (.isub, 1) := by decide +kernel
theorem dX6_two_116 : decode cX6_two 116 = .ok (.ireturn, 1) := by decide +kernel
theorem dX6_two_117 : decode cX6_two 117 = .ok (.iload_n 1, 1) := by decide +kernel
theorem dX6_two_118 : decode cX6_two 118 = .ok (.iload_n 2, 1) := by decide +kernel
theorem dX6_two_119 : decode cX6_two 119 = .ok (.imul, 1) := by decide +kernel
theorem dX6_two_120 : decode cX6_two 120 = .ok (.ireturn, 1) := by decide +kernel
theorem dX6_two_121 : decode cX6_two 121 = .ok (.iload_n 2, 1) := by decide +kernel
theorem dX6_two_122 : decode cX6_two 122 = .ok (.ifCond .ne 7, 3) := by decide +kernel
theorem dX6_two_125 : decode cX6_two 125 = .ok (.iconst 0, 1) := by decide +kernel
theorem dX6_two_126 : decode cX6_two 126 = .ok (.goto 6, 3) := by decide +kernel
theorem dX6_two_129 : decode cX6_two 129 = .ok (.iload_n 1, 1) := by decide +kernel
theorem dX6_two_130 : decode cX6_two 130 = .ok (.iload_n 2, 1) := by decide +kernel
theorem dX6_two_131 : decode cX6_two 131 = .ok (.idiv, 1) := by decide +kernel
theorem dX6_two_132 : decode cX6_two 132 = .ok (.ireturn, 1) := by decide +kernel
theorem dX6_worksOut_0 : decode cX6_worksOut 0 = .ok (.iconst 0, 1) := by decide +kernel
theorem dX6_worksOut_1 : decode cX6_worksOut 1 = .ok (.istore_n 2, 1) := by decide +kernel
theorem dX6_worksOut_2 : decode cX6_worksOut 2 = .ok (.aload_n 0, 1) := by decide +kernel
theorem dX6_worksOut_3 : decode cX6_worksOut 3 = .ok (.getfield 9, 3) := by decide +kernel
theorem dX6_worksOut_6 : decode cX6_worksOut 6 = .ok (.bipush 40, 2) := by decide +kernel
theorem dX6_worksOut_8 : decode cX6_worksOut 8 = .ok (.iconst 2, 1) := by decide +kernel
theorem dX6_worksOut_9 : decode cX6_worksOut 9 = .ok (.iload_n 1, 1) := by decide +kernel
theorem dX6_worksOut_10 : decode cX6_worksOut 10 = .ok (.imul, 1) := by decide +kernel
theorem dX6_worksOut_11 : decode cX6_worksOut 11 = .ok (.iadd, 1) := by decide +kernel
theorem dX6_worksOut_12 : decode cX6_worksOut 12 = .ok (.iaload, 1) := by decide +kernel
theorem dX6_worksOut_13 : decode cX6_worksOut 13 = .ok (.sipush 1000, 3) := by decide +kernel
theorem dX6_worksOut_16 : decode cX6_worksOut 16 = .ok (.irem, 1) := by decide +kernel
theorem dX6_worksOut_17 : decode cX6_worksOut 17 = .ok (.istore_n 3, 1) := by decide +kernel
theorem dX6_worksOut_18 : decode cX6_worksOut 18 = .ok (.iconst 0, 1) := by decide +kernel
theorem dX6_worksOut_19 : decode cX6_worksOut 19 = .ok (.istore 4, 2) := by decide +kernel
theorem dX6_worksOut_21 : decode cX6_worksOut 21 = .ok (.iload 4, 2) := by decide +kernel
theorem dX6_worksOut_23 : decode cX6_worksOut 23 = .ok (.iload_n 3, 1) := by decide +kernel
theorem dX6_worksOut_24 : decode cX6_worksOut 24 = .ok (.if_icmp .ge 131, 3) := by decide +kernel
theorem dX6_worksOut_27 : decode cX6_worksOut 27 = .ok (.aload_n 0, 1) := by decide +kernel
theorem dX6_worksOut_28 : decode cX6_worksOut 28 = .ok (.getfield 9, 3) := by decide +kernel
theorem dX6_worksOut_31 : decode cX6_worksOut 31 = .ok (.bipush 68, 2) := by decide +kernel
theorem dX6_worksOut_33 : decode cX6_worksOut 33 = .ok (.bipush 96, 2) := by decide +kernel
theorem dX6_worksOut_35 : decode cX6_worksOut 35 = .ok (.iload_n 1, 1) := by decide +kernel
theorem dX6_worksOut_36 : decode cX6_worksOut 36 = .ok (.imul, 1) := by decide +kernel
theorem dX6_worksOut_37 : decode cX6_worksOut 37 = .ok (.iadd, 1) := by decide +kernel
theorem dX6_worksOut_38 : decode cX6_worksOut 38 = .ok (.iload 4, 2) := by decide +kernel
theorem dX6_worksOut_40 : decode cX6_worksOut 40 = .ok (.iadd, 1) := by decide +kernel
theorem dX6_worksOut_41 : decode cX6_worksOut 41 = .ok (.iaload, 1) := by decide +kernel
theorem dX6_worksOut_42 : decode cX6_worksOut 42 = .ok (.istore 5, 2) := by decide +kernel
theorem dX6_worksOut_44 : decode cX6_worksOut 44 = .ok (.iload 5, 2) := by decide +kernel
theorem dX6_worksOut_46 : decode cX6_worksOut 46 = .ok (.ifCond .lt 39, 3) := by decide +kernel
theorem dX6_worksOut_49 : decode cX6_worksOut 49 = .ok (.aload_n 0, 1) := by decide +kernel
theorem dX6_worksOut_50 : decode cX6_worksOut 50 = .ok (.getfield 48, 3) := by decide +kernel
theorem dX6_worksOut_53 : decode cX6_worksOut 53 = .ok (.iload_n 2, 1) := by decide +kernel
theorem dX6_worksOut_54 : decode cX6_worksOut 54 = .ok (.iload 5, 2) := by decide +kernel
theorem dX6_worksOut_56 : decode cX6_worksOut 56 = .ok (.sipush 10000, 3) := by decide +kernel
theorem dX6_worksOut_59 : decode cX6_worksOut 59 = .ok (.if_icmp .ge 8, 3) := by decide +kernel
theorem dX6_worksOut_62 : decode cX6_worksOut 62 = .ok (.iload 5, 2) := by decide +kernel
theorem dX6_worksOut_64 : decode cX6_worksOut 64 = .ok (.goto 14, 3) := by decide +kernel
theorem dX6_worksOut_67 : decode cX6_worksOut 67 = .ok (.aload_n 0, 1) := by decide +kernel
theorem dX6_worksOut_68 : decode cX6_worksOut 68 = .ok (.getfield 51, 3) := by decide +kernel
theorem dX6_worksOut_71 : decode cX6_worksOut 71 = .ok (.iload 5, 2) := by decide +kernel
theorem dX6_worksOut_73 : decode cX6_worksOut 73 = .ok (.sipush 10000, 3) := by decide +kernel
theorem dX6_worksOut_76 : decode cX6_worksOut 76 = .ok (.isub, 1) := by decide +kernel
theorem dX6_worksOut_77 : decode cX6_worksOut 77 = .ok (.iaload, 1) := by decide +kernel
theorem dX6_worksOut_78 : decode cX6_worksOut 78 = .ok (.iastore, 1) := by decide +kernel
theorem dX6_worksOut_79 : decode cX6_worksOut 79 = .ok (.iinc 2 1, 3) := by decide +kernel
theorem dX6_worksOut_82 : decode cX6_worksOut 82 = .ok (.goto 67, 3) := by decide +kernel
theorem dX6_worksOut_85 : decode cX6_worksOut 85 = .ok (.iload 5, 2) := by decide +kernel
theorem dX6_worksOut_87 : decode cX6_worksOut 87 = .ok (.bipush (-10), 2) := by decide +kernel
theorem dX6_worksOut_89 : decode cX6_worksOut 89 = .ok (.if_icmp .ne 30, 3) := by decide +kernel
theorem dX6_worksOut_92 : decode cX6_worksOut 92 = .ok (.aload_n 0, 1) := by decide +kernel
theorem dX6_worksOut_93 : decode cX6_worksOut 93 = .ok (.getfield 48, 3) := by decide +kernel
theorem dX6_worksOut_96 : decode cX6_worksOut 96 = .ok (.iload_n 2, 1) := by decide +kernel
theorem dX6_worksOut_97 : decode cX6_worksOut 97 = .ok (.iconst 1, 1) := by decide +kernel
theorem dX6_worksOut_98 : decode cX6_worksOut 98 = .ok (.isub, 1) := by decide +kernel
theorem dX6_worksOut_99 : decode cX6_worksOut 99 = .ok (.aload_n 0, 1) := by decide +kernel
theorem dX6_worksOut_100 : decode cX6_worksOut 100 = .ok (.getfield 48, 3) := by decide +kernel
theorem dX6_worksOut_103 : decode cX6_worksOut 103 = .ok (.iload_n 2, 1) := by decide +kernel
theorem dX6_worksOut_104 : decode cX6_worksOut 104 = .ok (.iconst 1, 1) := by decide +kernel
theorem dX6_worksOut_105 : decode cX6_worksOut 105 = .ok (.isub, 1) := by decide +kernel
theorem dX6_worksOut_106 : decode cX6_worksOut 106 = .ok (.iaload, 1) := by decide +kernel
theorem dX6_worksOut_107 : decode cX6_worksOut 107 = .ok (.ifCond .ne 7, 3) := by decide +kernel
theorem dX6_worksOut_110 : decode cX6_worksOut 110 = .ok (.iconst 1, 1) := by decide +kernel
theorem dX6_worksOut_111 : decode cX6_worksOut 111 = .ok (.goto 4, 3) := by decide +kernel
theorem dX6_worksOut_114 : decode cX6_worksOut 114 = .ok (.iconst 0, 1) := by decide +kernel
theorem dX6_worksOut_115 : decode cX6_worksOut 115 = .ok (.iastore, 1) := by decide +kernel
theorem dX6_worksOut_116 : decode cX6_worksOut 116 = .ok (.goto 33, 3) := by decide +kernel
theorem dX6_worksOut_119 : decode cX6_worksOut 119 = .ok (.iinc 2 (-1), 3) := by decide +kernel
theorem dX6_worksOut_122 : decode cX6_worksOut 122 = .ok (.aload_n 0, 1) := by decide +kernel
theorem dX6_worksOut_123 : decode cX6_worksOut 123 = .ok (.getfield 48, 3) := by decide +kernel
theorem dX6_worksOut_126 : decode cX6_worksOut 126 = .ok (.iload_n 2, 1) := by decide +kernel
theorem dX6_worksOut_127 : decode cX6_worksOut 127 = .ok (.iconst 1, 1) := by decide +kernel
theorem dX6_worksOut_128 : decode cX6_worksOut 128 = .ok (.isub, 1) := by decide +kernel
theorem dX6_worksOut_129 : decode cX6_worksOut 129 = .ok (.iload 5, 2) := by decide +kernel
theorem dX6_worksOut_131 : decode cX6_worksOut 131 = .ok (.aload_n 0, 1) := by decide +kernel
theorem dX6_worksOut_132 : decode cX6_worksOut 132 = .ok (.getfield 48, 3) := by decide +kernel
theorem dX6_worksOut_135 : decode cX6_worksOut 135 = .ok (.iload_n 2, 1) := by decide +kernel
theorem dX6_worksOut_136 : decode cX6_worksOut 136 = .ok (.iconst 1, 1) := by decide +kernel
theorem dX6_worksOut_137 : decode cX6_worksOut 137 = .ok (.isub, 1) := by decide +kernel
theorem dX6_worksOut_138 : decode cX6_worksOut 138 = .ok (.iaload, 1) := by decide +kernel
theorem dX6_worksOut_139 : decode cX6_worksOut 139 = .ok (.aload_n 0, 1) := by decide +kernel
theorem dX6_worksOut_140 : decode cX6_worksOut 140 = .ok (.getfield 48, 3) := by decide +kernel
theorem dX6_worksOut_143 : decode cX6_worksOut 143 = .ok (.iload_n 2, 1) := by decide +kernel
theorem dX6_worksOut_144 : decode cX6_worksOut 144 = .ok (.iaload, 1) := by decide +kernel
theorem dX6_worksOut_145 : decode cX6_worksOut 145 = .ok (.invokestatic 259, 3) := by decide +kernel
theorem dX6_worksOut_148 : decode cX6_worksOut 148 = .ok (.iastore, 1) := by decide +kernel
theorem dX6_worksOut_149 : decode cX6_worksOut 149 = .ok (.iinc 4 1, 3) := by decide +kernel
theorem dX6_worksOut_152 : decode cX6_worksOut 152 = .ok (.goto (-131), 3) := by decide +kernel
theorem dX6_worksOut_155 : decode cX6_worksOut 155 = .ok (.aload_n 0, 1) := by decide +kernel
theorem dX6_worksOut_156 : decode cX6_worksOut 156 = .ok (.getfield 48, 3) := by decide +kernel
theorem dX6_worksOut_159 : decode cX6_worksOut 159 = .ok (.iconst 0, 1) := by decide +kernel
theorem dX6_worksOut_160 : decode cX6_worksOut 160 = .ok (.iaload, 1) := by decide +kernel
theorem dX6_worksOut_161 : decode cX6_worksOut 161 = .ok (.ireturn, 1) := by decide +kernel
theorem dX6_isSheet_0 : decode cX6_isSheet 0 = .ok (.iload_n 0, 1) := by decide +kernel
theorem dX6_isSheet_1 : decode cX6_isSheet 1 = .ok (.iconst 0, 1) := by decide +kernel
theorem dX6_isSheet_2 : decode cX6_isSheet 2 = .ok (.iconst 3, 1) := by decide +kernel
theorem dX6_isSheet_3 : decode cX6_isSheet 3 = .ok (.invokestatic 82, 3) := by decide +kernel
theorem dX6_isSheet_6 : decode cX6_isSheet 6 = .ok (.ireturn, 1) := by decide +kernel
theorem dX6_isSlot_0 : decode cX6_isSlot 0 = .ok (.iload_n 0, 1) := by decide +kernel
theorem dX6_isSlot_1 : decode cX6_isSlot 1 = .ok (.iconst 0, 1) := by decide +kernel
theorem dX6_isSlot_2 : decode cX6_isSlot 2 = .ok (.iconst 4, 1) := by decide +kernel
theorem dX6_isSlot_3 : decode cX6_isSlot 3 = .ok (.invokestatic 82, 3) := by decide +kernel
theorem dX6_isSlot_6 : decode cX6_isSlot 6 = .ok (.ireturn, 1) := by decide +kernel
theorem dX6_sheet_0 : decode cX6_sheet 0 = .ok (.iload_n 1, 1) := by decide +kernel
theorem dX6_sheet_1 : decode cX6_sheet 1 = .ok (.invokestatic 177, 3) := by decide +kernel
theorem dX6_sheet_4 : decode cX6_sheet 4 = .ok (.ifCond .eq 22, 3) := by decide +kernel
theorem dX6_sheet_7 : decode cX6_sheet 7 = .ok (.iload_n 2, 1) := by decide +kernel
theorem dX6_sheet_8 : decode cX6_sheet 8 = .ok (.iconst (-1), 1) := by decide +kernel
theorem dX6_sheet_9 : decode cX6_sheet 9 = .ok (.iconst 1, 1) := by decide +kernel
theorem dX6_sheet_10 : decode cX6_sheet 10 = .ok (.invokestatic 82, 3) := by decide +kernel
theorem dX6_sheet_13 : decode cX6_sheet 13 = .ok (.ifCond .eq 13, 3) := by decide +kernel
theorem dX6_sheet_16 : decode cX6_sheet 16 = .ok (.iload_n 2, 1) := by decide +kernel
theorem dX6_sheet_17 : decode cX6_sheet 17 = .ok (.ifCond .lt 12, 3) := by decide +kernel
theorem dX6_sheet_20 : decode cX6_sheet 20 = .ok (.iload_n 3, 1) := by decide +kernel
theorem dX6_sheet_21 : decode cX6_sheet 21 = .ok (.bipush 24, 2) := by decide +kernel
theorem dX6_sheet_23 : decode cX6_sheet 23 = .ok (.if_icmp .le 6, 3) := by decide +kernel
theorem dX6_sheet_26 : decode cX6_sheet 26 = .ok (.ldc 90, 2) := by decide +kernel
theorem dX6_sheet_28 : decode cX6_sheet 28 = .ok (.ireturn, 1) := by decide +kernel
theorem dX6_sheet_29 : decode cX6_sheet 29 = .ok (.iload_n 2, 1) := by decide +kernel
theorem dX6_sheet_30 : decode cX6_sheet 30 = .ok (.ifCond .lt 11, 3) := by decide +kernel
theorem dX6_sheet_33 : decode cX6_sheet 33 = .ok (.iload_n 3, 1) := by decide +kernel
theorem dX6_sheet_34 : decode cX6_sheet 34 = .ok (.ifCond .ge 7, 3) := by decide +kernel
theorem dX6_sheet_37 : decode cX6_sheet 37 = .ok (.ldc_w 262, 3) := by decide +kernel
theorem dX6_sheet_40 : decode cX6_sheet 40 = .ok (.ireturn, 1) := by decide +kernel
theorem dX6_sheet_41 : decode cX6_sheet 41 = .ok (.aload_n 0, 1) := by decide +kernel
theorem dX6_sheet_42 : decode cX6_sheet 42 = .ok (.getfield 54, 3) := by decide +kernel
theorem dX6_sheet_45 : decode cX6_sheet 45 = .ok (.iload_n 1, 1) := by decide +kernel
theorem dX6_sheet_46 : decode cX6_sheet 46 = .ok (.iload_n 2, 1) := by decide +kernel
theorem dX6_sheet_47 : decode cX6_sheet 47 = .ok (.iastore, 1) := by decide +kernel
theorem dX6_sheet_48 : decode cX6_sheet 48 = .ok (.aload_n 0, 1) := by decide +kernel
theorem dX6_sheet_49 : decode cX6_sheet 49 = .ok (.getfield 57, 3) := by decide +kernel
theorem dX6_sheet_52 : decode cX6_sheet 52 = .ok (.iload_n 1, 1) := by decide +kernel
theorem dX6_sheet_53 : decode cX6_sheet 53 = .ok (.iload_n 2, 1) := by decide +kernel
theorem dX6_sheet_54 : decode cX6_sheet 54 = .ok (.ifCond .ge 7, 3) := by decide +kernel
theorem dX6_sheet_57 : decode cX6_sheet 57 = .ok (.iconst 0, 1) := by decide +kernel
theorem dX6_sheet_58 : decode cX6_sheet 58 = .ok (.goto 4, 3) := by decide +kernel
theorem dX6_sheet_61 : decode cX6_sheet 61 = .ok (.iload_n 3, 1) := by decide +kernel
theorem dX6_sheet_62 : decode cX6_sheet 62 = .ok (.iastore, 1) := by decide +kernel
theorem dX6_sheet_63 : decode cX6_sheet 63 = .ok (.iconst 0, 1) := by decide +kernel
theorem dX6_sheet_64 : decode cX6_sheet 64 = .ok (.istore 4, 2) := by decide +kernel
theorem dX6_sheet_66 : decode cX6_sheet 66 = .ok (.iload 4, 2) := by decide +kernel
theorem dX6_sheet_68 : decode cX6_sheet 68 = .ok (.bipush 24, 2) := by decide +kernel
theorem dX6_sheet_70 : decode cX6_sheet 70 = .ok (.if_icmp .ge 22, 3) := by decide +kernel
theorem dX6_sheet_73 : decode cX6_sheet 73 = .ok (.aload_n 0, 1) := by decide +kernel
theorem dX6_sheet_74 : decode cX6_sheet 74 = .ok (.getfield 60, 3) := by decide +kernel
theorem dX6_sheet_77 : decode cX6_sheet 77 = .ok (.bipush 24, 2) := by decide +kernel
theorem dX6_sheet_79 : decode cX6_sheet 79 = .ok (.iload_n 1, 1) := by decide +kernel
theorem dX6_sheet_80 : decode cX6_sheet 80 = .ok (.imul, 1) := by decide +kernel
theorem dX6_sheet_81 : decode cX6_sheet 81 = .ok (.iload 4, 2) := by decide +kernel
theorem dX6_sheet_83 : decode cX6_sheet 83 = .ok (.iadd, 1) := by decide +kernel
theorem dX6_sheet_84 : decode cX6_sheet 84 = .ok (.iconst 0, 1) := by decide +kernel
theorem dX6_sheet_85 : decode cX6_sheet 85 = .ok (.iastore, 1) := by decide +kernel
theorem dX6_sheet_86 : decode cX6_sheet 86 = .ok (.iinc 4 1, 3) := by decide +kernel
theorem dX6_sheet_89 : decode cX6_sheet 89 = .ok (.goto (-23), 3) := by decide +kernel
theorem dX6_sheet_92 : decode cX6_sheet 92 = .ok (.aload_n 0, 1) := by decide +kernel
theorem dX6_sheet_93 : decode cX6_sheet 93 = .ok (.getfield 57, 3) := by decide +kernel
theorem dX6_sheet_96 : decode cX6_sheet 96 = .ok (.iload_n 1, 1) := by decide +kernel
theorem dX6_sheet_97 : decode cX6_sheet 97 = .ok (.iaload, 1) := by decide +kernel
theorem dX6_sheet_98 : decode cX6_sheet 98 = .ok (.ireturn, 1) := by decide +kernel
theorem dX6_mark_0 : decode cX6_mark 0 = .ok (.iload_n 1, 1) := by decide +kernel
theorem dX6_mark_1 : decode cX6_mark 1 = .ok (.invokestatic 177, 3) := by decide +kernel
theorem dX6_mark_4 : decode cX6_mark 4 = .ok (.ifCond .ne 6, 3) := by decide +kernel
theorem dX6_mark_7 : decode cX6_mark 7 = .ok (.ldc 90, 2) := by decide +kernel
theorem dX6_mark_9 : decode cX6_mark 9 = .ok (.ireturn, 1) := by decide +kernel
theorem dX6_mark_10 : decode cX6_mark 10 = .ok (.aload_n 0, 1) := by decide +kernel
theorem dX6_mark_11 : decode cX6_mark 11 = .ok (.getfield 54, 3) := by decide +kernel
theorem dX6_mark_14 : decode cX6_mark 14 = .ok (.iload_n 1, 1) := by decide +kernel
theorem dX6_mark_15 : decode cX6_mark 15 = .ok (.iaload, 1) := by decide +kernel
theorem dX6_mark_16 : decode cX6_mark 16 = .ok (.ifCond .ge 6, 3) := by decide +kernel
theorem dX6_mark_19 : decode cX6_mark 19 = .ok (.ldc 180, 2) := by decide +kernel
theorem dX6_mark_21 : decode cX6_mark 21 = .ok (.ireturn, 1) := by decide +kernel
theorem dX6_mark_22 : decode cX6_mark 22 = .ok (.iload_n 2, 1) := by decide +kernel
theorem dX6_mark_23 : decode cX6_mark 23 = .ok (.iconst 0, 1) := by decide +kernel
theorem dX6_mark_24 : decode cX6_mark 24 = .ok (.aload_n 0, 1) := by decide +kernel
theorem dX6_mark_25 : decode cX6_mark 25 = .ok (.getfield 57, 3) := by decide +kernel
theorem dX6_mark_28 : decode cX6_mark 28 = .ok (.iload_n 1, 1) := by decide +kernel
theorem dX6_mark_29 : decode cX6_mark 29 = .ok (.iaload, 1) := by decide +kernel
theorem dX6_mark_30 : decode cX6_mark 30 = .ok (.iconst 1, 1) := by decide +kernel
theorem dX6_mark_31 : decode cX6_mark 31 = .ok (.isub, 1) := by decide +kernel
theorem dX6_mark_32 : decode cX6_mark 32 = .ok (.invokestatic 82, 3) := by decide +kernel
theorem dX6_mark_35 : decode cX6_mark 35 = .ok (.ifCond .ne 7, 3) := by decide +kernel
theorem dX6_mark_38 : decode cX6_mark 38 = .ok (.ldc_w 263, 3) := by decide +kernel
theorem dX6_mark_41 : decode cX6_mark 41 = .ok (.ireturn, 1) := by decide +kernel
theorem dX6_mark_42 : decode cX6_mark 42 = .ok (.aload_n 0, 1) := by decide +kernel
theorem dX6_mark_43 : decode cX6_mark 43 = .ok (.getfield 54, 3) := by decide +kernel
theorem dX6_mark_46 : decode cX6_mark 46 = .ok (.iload_n 1, 1) := by decide +kernel
theorem dX6_mark_47 : decode cX6_mark 47 = .ok (.iaload, 1) := by decide +kernel
theorem dX6_mark_48 : decode cX6_mark 48 = .ok (.ifCond .ne 12, 3) := by decide +kernel
theorem dX6_mark_51 : decode cX6_mark 51 = .ok (.iload_n 3, 1) := by decide +kernel
theorem dX6_mark_52 : decode cX6_mark 52 = .ok (.ldc 81, 2) := by decide +kernel
theorem dX6_mark_54 : decode cX6_mark 54 = .ok (.if_icmp .ne 6, 3) := by decide +kernel
theorem dX6_mark_57 : decode cX6_mark 57 = .ok (.ldc 147, 2) := by decide +kernel
theorem dX6_mark_59 : decode cX6_mark 59 = .ok (.ireturn, 1) := by decide +kernel
theorem dX6_mark_60 : decode cX6_mark 60 = .ok (.aload_n 0, 1) := by decide +kernel
theorem dX6_mark_61 : decode cX6_mark 61 = .ok (.getfield 54, 3) := by decide +kernel
theorem dX6_mark_64 : decode cX6_mark 64 = .ok (.iload_n 1, 1) := by decide +kernel
theorem dX6_mark_65 : decode cX6_mark 65 = .ok (.iaload, 1) := by decide +kernel
theorem dX6_mark_66 : decode cX6_mark 66 = .ok (.iconst 1, 1) := by decide +kernel
theorem dX6_mark_67 : decode cX6_mark 67 = .ok (.if_icmp .ne 24, 3) := by decide +kernel
theorem dX6_mark_70 : decode cX6_mark 70 = .ok (.iload_n 3, 1) := by decide +kernel
theorem dX6_mark_71 : decode cX6_mark 71 = .ok (.ldc 81, 2) := by decide +kernel
theorem dX6_mark_73 : decode cX6_mark 73 = .ok (.if_icmp .eq 18, 3) := by decide +kernel
theorem dX6_mark_76 : decode cX6_mark 76 = .ok (.iload_n 3, 1) := by decide +kernel
theorem dX6_mark_77 : decode cX6_mark 77 = .ok (.ldc_w 264, 3) := by decide +kernel
theorem dX6_mark_80 : decode cX6_mark 80 = .ok (.ldc 100, 2) := by decide +kernel
theorem dX6_mark_82 : decode cX6_mark 82 = .ok (.invokestatic 82, 3) := by decide +kernel
theorem dX6_mark_85 : decode cX6_mark 85 = .ok (.ifCond .ne 6, 3) := by decide +kernel
theorem dX6_mark_88 : decode cX6_mark 88 = .ok (.ldc 90, 2) := by decide +kernel
theorem dX6_mark_90 : decode cX6_mark 90 = .ok (.ireturn, 1) := by decide +kernel
theorem dX6_mark_91 : decode cX6_mark 91 = .ok (.aload_n 0, 1) := by decide +kernel
theorem dX6_mark_92 : decode cX6_mark 92 = .ok (.getfield 60, 3) := by decide +kernel
theorem dX6_mark_95 : decode cX6_mark 95 = .ok (.bipush 24, 2) := by decide +kernel
theorem dX6_mark_97 : decode cX6_mark 97 = .ok (.iload_n 1, 1) := by decide +kernel
theorem dX6_mark_98 : decode cX6_mark 98 = .ok (.imul, 1) := by decide +kernel
theorem dX6_mark_99 : decode cX6_mark 99 = .ok (.iload_n 2, 1) := by decide +kernel
theorem dX6_mark_100 : decode cX6_mark 100 = .ok (.iadd, 1) := by decide +kernel
theorem dX6_mark_101 : decode cX6_mark 101 = .ok (.aload_n 0, 1) := by decide +kernel
theorem dX6_mark_102 : decode cX6_mark 102 = .ok (.getfield 54, 3) := by decide +kernel
theorem dX6_mark_105 : decode cX6_mark 105 = .ok (.iload_n 1, 1) := by decide +kernel
theorem dX6_mark_106 : decode cX6_mark 106 = .ok (.iaload, 1) := by decide +kernel
theorem dX6_mark_107 : decode cX6_mark 107 = .ok (.ifCond .ne 8, 3) := by decide +kernel
theorem dX6_mark_110 : decode cX6_mark 110 = .ok (.iload_n 3, 1) := by decide +kernel
theorem dX6_mark_111 : decode cX6_mark 111 = .ok (.i2s, 1) := by decide +kernel
theorem dX6_mark_112 : decode cX6_mark 112 = .ok (.goto 4, 3) := by decide +kernel
theorem dX6_mark_115 : decode cX6_mark 115 = .ok (.iload_n 3, 1) := by decide +kernel
theorem dX6_mark_116 : decode cX6_mark 116 = .ok (.iastore, 1) := by decide +kernel
theorem dX6_mark_117 : decode cX6_mark 117 = .ok (.iconst 1, 1) := by decide +kernel
theorem dX6_mark_118 : decode cX6_mark 118 = .ok (.ireturn, 1) := by decide +kernel
theorem dX6_pour_0 : decode cX6_pour 0 = .ok (.iload_n 1, 1) := by decide +kernel
theorem dX6_pour_1 : decode cX6_pour 1 = .ok (.invokestatic 177, 3) := by decide +kernel
theorem dX6_pour_4 : decode cX6_pour 4 = .ok (.ifCond .ne 6, 3) := by decide +kernel
theorem dX6_pour_7 : decode cX6_pour 7 = .ok (.ldc 90, 2) := by decide +kernel
theorem dX6_pour_9 : decode cX6_pour 9 = .ok (.ireturn, 1) := by decide +kernel
theorem dX6_pour_10 : decode cX6_pour 10 = .ok (.aload_n 0, 1) := by decide +kernel
theorem dX6_pour_11 : decode cX6_pour 11 = .ok (.getfield 54, 3) := by decide +kernel
theorem dX6_pour_14 : decode cX6_pour 14 = .ok (.iload_n 1, 1) := by decide +kernel
theorem dX6_pour_15 : decode cX6_pour 15 = .ok (.iaload, 1) := by decide +kernel
theorem dX6_pour_16 : decode cX6_pour 16 = .ok (.ifCond .ge 6, 3) := by decide +kernel
theorem dX6_pour_19 : decode cX6_pour 19 = .ok (.ldc 180, 2) := by decide +kernel
theorem dX6_pour_21 : decode cX6_pour 21 = .ok (.ireturn, 1) := by decide +kernel
theorem dX6_pour_22 : decode cX6_pour 22 = .ok (.iconst 0, 1) := by decide +kernel
theorem dX6_pour_23 : decode cX6_pour 23 = .ok (.istore_n 2, 1) := by decide +kernel
theorem dX6_pour_24 : decode cX6_pour 24 = .ok (.iconst 0, 1) := by decide +kernel
theorem dX6_pour_25 : decode cX6_pour 25 = .ok (.istore_n 3, 1) := by decide +kernel
theorem dX6_pour_26 : decode cX6_pour 26 = .ok (.iload_n 3, 1) := by decide +kernel
theorem dX6_pour_27 : decode cX6_pour 27 = .ok (.aload_n 0, 1) := by decide +kernel
theorem dX6_pour_28 : decode cX6_pour 28 = .ok (.getfield 57, 3) := by decide +kernel
theorem dX6_pour_31 : decode cX6_pour 31 = .ok (.iload_n 1, 1) := by decide +kernel
theorem dX6_pour_32 : decode cX6_pour 32 = .ok (.iaload, 1) := by decide +kernel
theorem dX6_pour_33 : decode cX6_pour 33 = .ok (.if_icmp .ge 85, 3) := by decide +kernel
theorem dX6_pour_36 : decode cX6_pour 36 = .ok (.iload_n 3, 1) := by decide +kernel
theorem dX6_pour_37 : decode cX6_pour 37 = .ok (.aload_n 0, 1) := by decide +kernel
theorem dX6_pour_38 : decode cX6_pour 38 = .ok (.getfield 9, 3) := by decide +kernel
theorem dX6_pour_41 : decode cX6_pour 41 = .ok (.iconst 1, 1) := by decide +kernel
theorem dX6_pour_42 : decode cX6_pour 42 = .ok (.iaload, 1) := by decide +kernel
theorem dX6_pour_43 : decode cX6_pour 43 = .ok (.if_icmp .ge 75, 3) := by decide +kernel
theorem dX6_pour_46 : decode cX6_pour 46 = .ok (.aload_n 0, 1) := by decide +kernel
theorem dX6_pour_47 : decode cX6_pour 47 = .ok (.getfield 60, 3) := by decide +kernel
theorem dX6_pour_50 : decode cX6_pour 50 = .ok (.bipush 24, 2) := by decide +kernel
theorem dX6_pour_52 : decode cX6_pour 52 = .ok (.iload_n 1, 1) := by decide +kernel
theorem dX6_pour_53 : decode cX6_pour 53 = .ok (.imul, 1) := by decide +kernel
theorem dX6_pour_54 : decode cX6_pour 54 = .ok (.iload_n 3, 1) := by decide +kernel
theorem dX6_pour_55 : decode cX6_pour 55 = .ok (.iadd, 1) := by decide +kernel
theorem dX6_pour_56 : decode cX6_pour 56 = .ok (.iaload, 1) := by decide +kernel
theorem dX6_pour_57 : decode cX6_pour 57 = .ok (.istore 4, 2) := by decide +kernel
theorem dX6_pour_59 : decode cX6_pour 59 = .ok (.iload 4, 2) := by decide +kernel
theorem dX6_pour_61 : decode cX6_pour 61 = .ok (.ldc 81, 2) := by decide +kernel
theorem dX6_pour_63 : decode cX6_pour 63 = .ok (.if_icmp .ne 12, 3) := by decide +kernel
theorem dX6_pour_66 : decode cX6_pour 66 = .ok (.aload_n 0, 1) := by decide +kernel
theorem dX6_pour_67 : decode cX6_pour 67 = .ok (.iload_n 3, 1) := by decide +kernel
theorem dX6_pour_68 : decode cX6_pour 68 = .ok (.iconst 2, 1) := by decide +kernel
theorem dX6_pour_69 : decode cX6_pour 69 = .ok (.invokevirtual 96, 3) := by decide +kernel
theorem dX6_pour_72 : decode cX6_pour 72 = .ok (.goto 11, 3) := by decide +kernel
theorem dX6_pour_75 : decode cX6_pour 75 = .ok (.iload 4, 2) := by decide +kernel
theorem dX6_pour_77 : decode cX6_pour 77 = .ok (.iconst 0, 1) := by decide +kernel
theorem dX6_pour_78 : decode cX6_pour 78 = .ok (.ldc 100, 2) := by decide +kernel
theorem dX6_pour_80 : decode cX6_pour 80 = .ok (.invokestatic 101, 3) := by decide +kernel
theorem dX6_pour_83 : decode cX6_pour 83 = .ok (.istore 5, 2) := by decide +kernel
theorem dX6_pour_85 : decode cX6_pour 85 = .ok (.iload_n 2, 1) := by decide +kernel
theorem dX6_pour_86 : decode cX6_pour 86 = .ok (.aload_n 0, 1) := by decide +kernel
theorem dX6_pour_87 : decode cX6_pour 87 = .ok (.bipush 8, 2) := by decide +kernel
theorem dX6_pour_89 : decode cX6_pour 89 = .ok (.iconst 4, 1) := by decide +kernel
theorem dX6_pour_90 : decode cX6_pour 90 = .ok (.iload_n 3, 1) := by decide +kernel
theorem dX6_pour_91 : decode cX6_pour 91 = .ok (.imul, 1) := by decide +kernel
theorem dX6_pour_92 : decode cX6_pour 92 = .ok (.iadd, 1) := by decide +kernel
theorem dX6_pour_93 : decode cX6_pour 93 = .ok (.iconst 2, 1) := by decide +kernel
theorem dX6_pour_94 : decode cX6_pour 94 = .ok (.iadd, 1) := by decide +kernel
theorem dX6_pour_95 : decode cX6_pour 95 = .ok (.iload 5, 2) := by decide +kernel
theorem dX6_pour_97 : decode cX6_pour 97 = .ok (.invokevirtual 148, 3) := by decide +kernel
theorem dX6_pour_100 : decode cX6_pour 100 = .ok (.iload 5, 2) := by decide +kernel
theorem dX6_pour_102 : decode cX6_pour 102 = .ok (.if_icmp .ne 7, 3) := by decide +kernel
theorem dX6_pour_105 : decode cX6_pour 105 = .ok (.iconst 0, 1) := by decide +kernel
theorem dX6_pour_106 : decode cX6_pour 106 = .ok (.goto 4, 3) := by decide +kernel
theorem dX6_pour_109 : decode cX6_pour 109 = .ok (.iconst 1, 1) := by decide +kernel
theorem dX6_pour_110 : decode cX6_pour 110 = .ok (.iadd, 1) := by decide +kernel
theorem dX6_pour_111 : decode cX6_pour 111 = .ok (.istore_n 2, 1) := by decide +kernel
theorem dX6_pour_112 : decode cX6_pour 112 = .ok (.iinc 3 1, 3) := by decide +kernel
theorem dX6_pour_115 : decode cX6_pour 115 = .ok (.goto (-89), 3) := by decide +kernel
theorem dX6_pour_118 : decode cX6_pour 118 = .ok (.iload_n 2, 1) := by decide +kernel
theorem dX6_pour_119 : decode cX6_pour 119 = .ok (.ireturn, 1) := by decide +kernel
theorem dX6_reads_0 : decode cX6_reads 0 = .ok (.iload_n 1, 1) := by decide +kernel
theorem dX6_reads_1 : decode cX6_reads 1 = .ok (.invokestatic 177, 3) := by decide +kernel
theorem dX6_reads_4 : decode cX6_reads 4 = .ok (.ifCond .ne 6, 3) := by decide +kernel
theorem dX6_reads_7 : decode cX6_reads 7 = .ok (.ldc 90, 2) := by decide +kernel
theorem dX6_reads_9 : decode cX6_reads 9 = .ok (.ireturn, 1) := by decide +kernel
theorem dX6_reads_10 : decode cX6_reads 10 = .ok (.aload_n 0, 1) := by decide +kernel
theorem dX6_reads_11 : decode cX6_reads 11 = .ok (.getfield 54, 3) := by decide +kernel
theorem dX6_reads_14 : decode cX6_reads 14 = .ok (.iload_n 1, 1) := by decide +kernel
theorem dX6_reads_15 : decode cX6_reads 15 = .ok (.iaload, 1) := by decide +kernel
theorem dX6_reads_16 : decode cX6_reads 16 = .ok (.ifCond .ge 6, 3) := by decide +kernel
theorem dX6_reads_19 : decode cX6_reads 19 = .ok (.ldc 180, 2) := by decide +kernel
theorem dX6_reads_21 : decode cX6_reads 21 = .ok (.ireturn, 1) := by decide +kernel
theorem dX6_reads_22 : decode cX6_reads 22 = .ok (.aload_n 0, 1) := by decide +kernel
theorem dX6_reads_23 : decode cX6_reads 23 = .ok (.invokevirtual 165, 3) := by decide +kernel
theorem dX6_reads_26 : decode cX6_reads 26 = .ok (.ldc 81, 2) := by decide +kernel
theorem dX6_reads_28 : decode cX6_reads 28 = .ok (.istore_n 2, 1) := by decide +kernel
theorem dX6_reads_29 : decode cX6_reads 29 = .ok (.iconst 0, 1) := by decide +kernel
theorem dX6_reads_30 : decode cX6_reads 30 = .ok (.istore_n 3, 1) := by decide +kernel
theorem dX6_reads_31 : decode cX6_reads 31 = .ok (.iload_n 3, 1) := by decide +kernel
theorem dX6_reads_32 : decode cX6_reads 32 = .ok (.aload_n 0, 1) := by decide +kernel
theorem dX6_reads_33 : decode cX6_reads 33 = .ok (.getfield 57, 3) := by decide +kernel
theorem dX6_reads_36 : decode cX6_reads 36 = .ok (.iload_n 1, 1) := by decide +kernel
theorem dX6_reads_37 : decode cX6_reads 37 = .ok (.iaload, 1) := by decide +kernel
theorem dX6_reads_38 : decode cX6_reads 38 = .ok (.if_icmp .ge 55, 3) := by decide +kernel
theorem dX6_reads_41 : decode cX6_reads 41 = .ok (.iload_n 2, 1) := by decide +kernel
theorem dX6_reads_42 : decode cX6_reads 42 = .ok (.ldc 81, 2) := by decide +kernel
theorem dX6_reads_44 : decode cX6_reads 44 = .ok (.if_icmp .ne 49, 3) := by decide +kernel
theorem dX6_reads_47 : decode cX6_reads 47 = .ok (.aload_n 0, 1) := by decide +kernel
theorem dX6_reads_48 : decode cX6_reads 48 = .ok (.getfield 60, 3) := by decide +kernel
theorem dX6_reads_51 : decode cX6_reads 51 = .ok (.bipush 24, 2) := by decide +kernel
theorem dX6_reads_53 : decode cX6_reads 53 = .ok (.iload_n 1, 1) := by decide +kernel
theorem dX6_reads_54 : decode cX6_reads 54 = .ok (.imul, 1) := by decide +kernel
theorem dX6_reads_55 : decode cX6_reads 55 = .ok (.iload_n 3, 1) := by decide +kernel
theorem dX6_reads_56 : decode cX6_reads 56 = .ok (.iadd, 1) := by decide +kernel
theorem dX6_reads_57 : decode cX6_reads 57 = .ok (.iaload, 1) := by decide +kernel
theorem dX6_reads_58 : decode cX6_reads 58 = .ok (.istore 4, 2) := by decide +kernel
theorem dX6_reads_60 : decode cX6_reads 60 = .ok (.iload 4, 2) := by decide +kernel
theorem dX6_reads_62 : decode cX6_reads 62 = .ok (.ldc 81, 2) := by decide +kernel
theorem dX6_reads_64 : decode cX6_reads 64 = .ok (.if_icmp .eq 16, 3) := by decide +kernel
theorem dX6_reads_67 : decode cX6_reads 67 = .ok (.iload 4, 2) := by decide +kernel
theorem dX6_reads_69 : decode cX6_reads 69 = .ok (.aload_n 0, 1) := by decide +kernel
theorem dX6_reads_70 : decode cX6_reads 70 = .ok (.invokevirtual 162, 3) := by decide +kernel
theorem dX6_reads_73 : decode cX6_reads 73 = .ok (.if_icmp .eq 7, 3) := by decide +kernel
theorem dX6_reads_76 : decode cX6_reads 76 = .ok (.iload_n 3, 1) := by decide +kernel
theorem dX6_reads_77 : decode cX6_reads 77 = .ok (.goto 5, 3) := by decide +kernel
theorem dX6_reads_80 : decode cX6_reads 80 = .ok (.ldc 81, 2) := by decide +kernel
theorem dX6_reads_82 : decode cX6_reads 82 = .ok (.istore_n 2, 1) := by decide +kernel
theorem dX6_reads_83 : decode cX6_reads 83 = .ok (.aload_n 0, 1) := by decide +kernel
theorem dX6_reads_84 : decode cX6_reads 84 = .ok (.invokevirtual 155, 3) := by decide +kernel
theorem dX6_reads_87 : decode cX6_reads 87 = .ok (.iinc 3 1, 3) := by decide +kernel
theorem dX6_reads_90 : decode cX6_reads 90 = .ok (.goto (-59), 3) := by decide +kernel
theorem dX6_reads_93 : decode cX6_reads 93 = .ok (.aload_n 0, 1) := by decide +kernel
theorem dX6_reads_94 : decode cX6_reads 94 = .ok (.invokevirtual 168, 3) := by decide +kernel
theorem dX6_reads_97 : decode cX6_reads 97 = .ok (.iload_n 2, 1) := by decide +kernel
theorem dX6_reads_98 : decode cX6_reads 98 = .ok (.ireturn, 1) := by decide +kernel
theorem dX6_copy_0 : decode cX6_copy 0 = .ok (.iload_n 1, 1) := by decide +kernel
theorem dX6_copy_1 : decode cX6_copy 1 = .ok (.invokestatic 177, 3) := by decide +kernel
theorem dX6_copy_4 : decode cX6_copy 4 = .ok (.ifCond .eq 10, 3) := by decide +kernel
theorem dX6_copy_7 : decode cX6_copy 7 = .ok (.iload_n 3, 1) := by decide +kernel
theorem dX6_copy_8 : decode cX6_copy 8 = .ok (.invokestatic 177, 3) := by decide +kernel
theorem dX6_copy_11 : decode cX6_copy 11 = .ok (.ifCond .ne 6, 3) := by decide +kernel
theorem dX6_copy_14 : decode cX6_copy 14 = .ok (.ldc 90, 2) := by decide +kernel
theorem dX6_copy_16 : decode cX6_copy 16 = .ok (.ireturn, 1) := by decide +kernel
theorem dX6_copy_17 : decode cX6_copy 17 = .ok (.aload_n 0, 1) := by decide +kernel
theorem dX6_copy_18 : decode cX6_copy 18 = .ok (.getfield 54, 3) := by decide +kernel
theorem dX6_copy_21 : decode cX6_copy 21 = .ok (.iload_n 1, 1) := by decide +kernel
theorem dX6_copy_22 : decode cX6_copy 22 = .ok (.iaload, 1) := by decide +kernel
theorem dX6_copy_23 : decode cX6_copy 23 = .ok (.ifCond .lt 12, 3) := by decide +kernel
theorem dX6_copy_26 : decode cX6_copy 26 = .ok (.aload_n 0, 1) := by decide +kernel
theorem dX6_copy_27 : decode cX6_copy 27 = .ok (.getfield 54, 3) := by decide +kernel
theorem dX6_copy_30 : decode cX6_copy 30 = .ok (.iload_n 3, 1) := by decide +kernel
theorem dX6_copy_31 : decode cX6_copy 31 = .ok (.iaload, 1) := by decide +kernel
theorem dX6_copy_32 : decode cX6_copy 32 = .ok (.ifCond .ge 6, 3) := by decide +kernel
theorem dX6_copy_35 : decode cX6_copy 35 = .ok (.ldc 180, 2) := by decide +kernel
theorem dX6_copy_37 : decode cX6_copy 37 = .ok (.ireturn, 1) := by decide +kernel
theorem dX6_copy_38 : decode cX6_copy 38 = .ok (.aload_n 0, 1) := by decide +kernel
theorem dX6_copy_39 : decode cX6_copy 39 = .ok (.getfield 54, 3) := by decide +kernel
theorem dX6_copy_42 : decode cX6_copy 42 = .ok (.iload_n 1, 1) := by decide +kernel
theorem dX6_copy_43 : decode cX6_copy 43 = .ok (.iaload, 1) := by decide +kernel
theorem dX6_copy_44 : decode cX6_copy 44 = .ok (.aload_n 0, 1) := by decide +kernel
theorem dX6_copy_45 : decode cX6_copy 45 = .ok (.getfield 54, 3) := by decide +kernel
theorem dX6_copy_48 : decode cX6_copy 48 = .ok (.iload_n 3, 1) := by decide +kernel
theorem dX6_copy_49 : decode cX6_copy 49 = .ok (.iaload, 1) := by decide +kernel
theorem dX6_copy_50 : decode cX6_copy 50 = .ok (.if_icmp .eq 6, 3) := by decide +kernel
theorem dX6_copy_53 : decode cX6_copy 53 = .ok (.ldc 147, 2) := by decide +kernel
theorem dX6_copy_55 : decode cX6_copy 55 = .ok (.ireturn, 1) := by decide +kernel
theorem dX6_copy_56 : decode cX6_copy 56 = .ok (.iload_n 2, 1) := by decide +kernel
theorem dX6_copy_57 : decode cX6_copy 57 = .ok (.ifCond .lt 40, 3) := by decide +kernel
theorem dX6_copy_60 : decode cX6_copy 60 = .ok (.iload 4, 2) := by decide +kernel
theorem dX6_copy_62 : decode cX6_copy 62 = .ok (.ifCond .lt 35, 3) := by decide +kernel
theorem dX6_copy_65 : decode cX6_copy 65 = .ok (.iload 5, 2) := by decide +kernel
theorem dX6_copy_67 : decode cX6_copy 67 = .ok (.ifCond .lt 30, 3) := by decide +kernel
theorem dX6_copy_70 : decode cX6_copy 70 = .ok (.iload_n 2, 1) := by decide +kernel
theorem dX6_copy_71 : decode cX6_copy 71 = .ok (.aload_n 0, 1) := by decide +kernel
theorem dX6_copy_72 : decode cX6_copy 72 = .ok (.getfield 57, 3) := by decide +kernel
theorem dX6_copy_75 : decode cX6_copy 75 = .ok (.iload_n 1, 1) := by decide +kernel
theorem dX6_copy_76 : decode cX6_copy 76 = .ok (.iaload, 1) := by decide +kernel
theorem dX6_copy_77 : decode cX6_copy 77 = .ok (.iload 5, 2) := by decide +kernel
theorem dX6_copy_79 : decode cX6_copy 79 = .ok (.isub, 1) := by decide +kernel
theorem dX6_copy_80 : decode cX6_copy 80 = .ok (.if_icmp .gt 17, 3) := by decide +kernel
theorem dX6_copy_83 : decode cX6_copy 83 = .ok (.iload 4, 2) := by decide +kernel
theorem dX6_copy_85 : decode cX6_copy 85 = .ok (.aload_n 0, 1) := by decide +kernel
theorem dX6_copy_86 : decode cX6_copy 86 = .ok (.getfield 57, 3) := by decide +kernel
theorem dX6_copy_89 : decode cX6_copy 89 = .ok (.iload_n 3, 1) := by decide +kernel
theorem dX6_copy_90 : decode cX6_copy 90 = .ok (.iaload, 1) := by decide +kernel
theorem dX6_copy_91 : decode cX6_copy 91 = .ok (.iload 5, 2) := by decide +kernel
theorem dX6_copy_93 : decode cX6_copy 93 = .ok (.isub, 1) := by decide +kernel
theorem dX6_copy_94 : decode cX6_copy 94 = .ok (.if_icmp .le 7, 3) := by decide +kernel
theorem dX6_copy_97 : decode cX6_copy 97 = .ok (.ldc_w 263, 3) := by decide +kernel
theorem dX6_copy_100 : decode cX6_copy 100 = .ok (.ireturn, 1) := by decide +kernel
theorem dX6_copy_101 : decode cX6_copy 101 = .ok (.iconst 0, 1) := by decide +kernel
theorem dX6_copy_102 : decode cX6_copy 102 = .ok (.istore 6, 2) := by decide +kernel
theorem dX6_copy_104 : decode cX6_copy 104 = .ok (.iload 6, 2) := by decide +kernel
theorem dX6_copy_106 : decode cX6_copy 106 = .ok (.iload 5, 2) := by decide +kernel
theorem dX6_copy_108 : decode cX6_copy 108 = .ok (.if_icmp .ge 30, 3) := by decide +kernel
theorem dX6_copy_111 : decode cX6_copy 111 = .ok (.aload_n 0, 1) := by decide +kernel
theorem dX6_copy_112 : decode cX6_copy 112 = .ok (.getfield 75, 3) := by decide +kernel
theorem dX6_copy_115 : decode cX6_copy 115 = .ok (.iload 6, 2) := by decide +kernel
theorem dX6_copy_117 : decode cX6_copy 117 = .ok (.aload_n 0, 1) := by decide +kernel
theorem dX6_copy_118 : decode cX6_copy 118 = .ok (.getfield 60, 3) := by decide +kernel
theorem dX6_copy_121 : decode cX6_copy 121 = .ok (.bipush 24, 2) := by decide +kernel
theorem dX6_copy_123 : decode cX6_copy 123 = .ok (.iload_n 1, 1) := by decide +kernel
theorem dX6_copy_124 : decode cX6_copy 124 = .ok (.imul, 1) := by decide +kernel
theorem dX6_copy_125 : decode cX6_copy 125 = .ok (.iload_n 2, 1) := by decide +kernel
theorem dX6_copy_126 : decode cX6_copy 126 = .ok (.iadd, 1) := by decide +kernel
theorem dX6_copy_127 : decode cX6_copy 127 = .ok (.iload 6, 2) := by decide +kernel
theorem dX6_copy_129 : decode cX6_copy 129 = .ok (.iadd, 1) := by decide +kernel
theorem dX6_copy_130 : decode cX6_copy 130 = .ok (.iaload, 1) := by decide +kernel
theorem dX6_copy_131 : decode cX6_copy 131 = .ok (.iastore, 1) := by decide +kernel
theorem dX6_copy_132 : decode cX6_copy 132 = .ok (.iinc 6 1, 3) := by decide +kernel
theorem dX6_copy_135 : decode cX6_copy 135 = .ok (.goto (-31), 3) := by decide +kernel
theorem dX6_copy_138 : decode cX6_copy 138 = .ok (.iconst 0, 1) := by decide +kernel
theorem dX6_copy_139 : decode cX6_copy 139 = .ok (.istore 6, 2) := by decide +kernel
theorem dX6_copy_141 : decode cX6_copy 141 = .ok (.iload 6, 2) := by decide +kernel
theorem dX6_copy_143 : decode cX6_copy 143 = .ok (.iload 5, 2) := by decide +kernel
theorem dX6_copy_145 : decode cX6_copy 145 = .ok (.if_icmp .ge 31, 3) := by decide +kernel
theorem dX6_copy_148 : decode cX6_copy 148 = .ok (.aload_n 0, 1) := by decide +kernel
theorem dX6_copy_149 : decode cX6_copy 149 = .ok (.getfield 60, 3) := by decide +kernel
theorem dX6_copy_152 : decode cX6_copy 152 = .ok (.bipush 24, 2) := by decide +kernel
theorem dX6_copy_154 : decode cX6_copy 154 = .ok (.iload_n 3, 1) := by decide +kernel
theorem dX6_copy_155 : decode cX6_copy 155 = .ok (.imul, 1) := by decide +kernel
theorem dX6_copy_156 : decode cX6_copy 156 = .ok (.iload 4, 2) := by decide +kernel
theorem dX6_copy_158 : decode cX6_copy 158 = .ok (.iadd, 1) := by decide +kernel
theorem dX6_copy_159 : decode cX6_copy 159 = .ok (.iload 6, 2) := by decide +kernel
theorem dX6_copy_161 : decode cX6_copy 161 = .ok (.iadd, 1) := by decide +kernel
theorem dX6_copy_162 : decode cX6_copy 162 = .ok (.aload_n 0, 1) := by decide +kernel
theorem dX6_copy_163 : decode cX6_copy 163 = .ok (.getfield 75, 3) := by decide +kernel
theorem dX6_copy_166 : decode cX6_copy 166 = .ok (.iload 6, 2) := by decide +kernel
theorem dX6_copy_168 : decode cX6_copy 168 = .ok (.iaload, 1) := by decide +kernel
theorem dX6_copy_169 : decode cX6_copy 169 = .ok (.iastore, 1) := by decide +kernel
theorem dX6_copy_170 : decode cX6_copy 170 = .ok (.iinc 6 1, 3) := by decide +kernel
theorem dX6_copy_173 : decode cX6_copy 173 = .ok (.goto (-32), 3) := by decide +kernel
theorem dX6_copy_176 : decode cX6_copy 176 = .ok (.iload 5, 2) := by decide +kernel
theorem dX6_copy_178 : decode cX6_copy 178 = .ok (.ireturn, 1) := by decide +kernel
theorem dX6_lay_0 : decode cX6_lay 0 = .ok (.iload_n 1, 1) := by decide +kernel
theorem dX6_lay_1 : decode cX6_lay 1 = .ok (.invokestatic 265, 3) := by decide +kernel
theorem dX6_lay_4 : decode cX6_lay 4 = .ok (.ifCond .eq 37, 3) := by decide +kernel
theorem dX6_lay_7 : decode cX6_lay 7 = .ok (.iload_n 2, 1) := by decide +kernel
theorem dX6_lay_8 : decode cX6_lay 8 = .ok (.iconst 0, 1) := by decide +kernel
theorem dX6_lay_9 : decode cX6_lay 9 = .ok (.iconst 3, 1) := by decide +kernel
theorem dX6_lay_10 : decode cX6_lay 10 = .ok (.invokestatic 82, 3) := by decide +kernel
theorem dX6_lay_13 : decode cX6_lay 13 = .ok (.ifCond .eq 28, 3) := by decide +kernel
theorem dX6_lay_16 : decode cX6_lay 16 = .ok (.iload_n 2, 1) := by decide +kernel
theorem dX6_lay_17 : decode cX6_lay 17 = .ok (.iconst 1, 1) := by decide +kernel
theorem dX6_lay_18 : decode cX6_lay 18 = .ok (.if_icmp .ne 11, 3) := by decide +kernel
theorem dX6_lay_21 : decode cX6_lay 21 = .ok (.aload_n 0, 1) := by decide +kernel
theorem dX6_lay_22 : decode cX6_lay 22 = .ok (.iload_n 3, 1) := by decide +kernel
theorem dX6_lay_23 : decode cX6_lay 23 = .ok (.invokevirtual 104, 3) := by decide +kernel
theorem dX6_lay_26 : decode cX6_lay 26 = .ok (.ifCond .eq 15, 3) := by decide +kernel
theorem dX6_lay_29 : decode cX6_lay 29 = .ok (.iload_n 2, 1) := by decide +kernel
theorem dX6_lay_30 : decode cX6_lay 30 = .ok (.iconst 2, 1) := by decide +kernel
theorem dX6_lay_31 : decode cX6_lay 31 = .ok (.if_icmp .ne 13, 3) := by decide +kernel
theorem dX6_lay_34 : decode cX6_lay 34 = .ok (.iload_n 3, 1) := by decide +kernel
theorem dX6_lay_35 : decode cX6_lay 35 = .ok (.invokestatic 177, 3) := by decide +kernel
theorem dX6_lay_38 : decode cX6_lay 38 = .ok (.ifCond .ne 6, 3) := by decide +kernel
theorem dX6_lay_41 : decode cX6_lay 41 = .ok (.ldc 90, 2) := by decide +kernel
theorem dX6_lay_43 : decode cX6_lay 43 = .ok (.ireturn, 1) := by decide +kernel
theorem dX6_lay_44 : decode cX6_lay 44 = .ok (.iload_n 2, 1) := by decide +kernel
theorem dX6_lay_45 : decode cX6_lay 45 = .ok (.iconst 2, 1) := by decide +kernel
theorem dX6_lay_46 : decode cX6_lay 46 = .ok (.if_icmp .ne 15, 3) := by decide +kernel
theorem dX6_lay_49 : decode cX6_lay 49 = .ok (.aload_n 0, 1) := by decide +kernel
theorem dX6_lay_50 : decode cX6_lay 50 = .ok (.getfield 54, 3) := by decide +kernel
theorem dX6_lay_53 : decode cX6_lay 53 = .ok (.iload_n 3, 1) := by decide +kernel
theorem dX6_lay_54 : decode cX6_lay 54 = .ok (.iaload, 1) := by decide +kernel
theorem dX6_lay_55 : decode cX6_lay 55 = .ok (.ifCond .ge 6, 3) := by decide +kernel
theorem dX6_lay_58 : decode cX6_lay 58 = .ok (.ldc 180, 2) := by decide +kernel
theorem dX6_lay_60 : decode cX6_lay 60 = .ok (.ireturn, 1) := by decide +kernel
theorem dX6_lay_61 : decode cX6_lay 61 = .ok (.aload_n 0, 1) := by decide +kernel
theorem dX6_lay_62 : decode cX6_lay 62 = .ok (.getfield 63, 3) := by decide +kernel
theorem dX6_lay_65 : decode cX6_lay 65 = .ok (.iload_n 1, 1) := by decide +kernel
theorem dX6_lay_66 : decode cX6_lay 66 = .ok (.iaload, 1) := by decide +kernel
theorem dX6_lay_67 : decode cX6_lay 67 = .ok (.istore 4, 2) := by decide +kernel
theorem dX6_lay_69 : decode cX6_lay 69 = .ok (.aload_n 0, 1) := by decide +kernel
theorem dX6_lay_70 : decode cX6_lay 70 = .ok (.getfield 63, 3) := by decide +kernel
theorem dX6_lay_73 : decode cX6_lay 73 = .ok (.iload_n 1, 1) := by decide +kernel
theorem dX6_lay_74 : decode cX6_lay 74 = .ok (.iload_n 2, 1) := by decide +kernel
theorem dX6_lay_75 : decode cX6_lay 75 = .ok (.iastore, 1) := by decide +kernel
theorem dX6_lay_76 : decode cX6_lay 76 = .ok (.aload_n 0, 1) := by decide +kernel
theorem dX6_lay_77 : decode cX6_lay 77 = .ok (.getfield 66, 3) := by decide +kernel
theorem dX6_lay_80 : decode cX6_lay 80 = .ok (.iload_n 1, 1) := by decide +kernel
theorem dX6_lay_81 : decode cX6_lay 81 = .ok (.iload_n 2, 1) := by decide +kernel
theorem dX6_lay_82 : decode cX6_lay 82 = .ok (.iconst 1, 1) := by decide +kernel
theorem dX6_lay_83 : decode cX6_lay 83 = .ok (.if_icmp .ne 12, 3) := by decide +kernel
theorem dX6_lay_86 : decode cX6_lay 86 = .ok (.aload_n 0, 1) := by decide +kernel
theorem dX6_lay_87 : decode cX6_lay 87 = .ok (.iload_n 3, 1) := by decide +kernel
theorem dX6_lay_88 : decode cX6_lay 88 = .ok (.iconst 0, 1) := by decide +kernel
theorem dX6_lay_89 : decode cX6_lay 89 = .ok (.invokevirtual 96, 3) := by decide +kernel
theorem dX6_lay_92 : decode cX6_lay 92 = .ok (.goto 18, 3) := by decide +kernel
theorem dX6_lay_95 : decode cX6_lay 95 = .ok (.iload_n 2, 1) := by decide +kernel
theorem dX6_lay_96 : decode cX6_lay 96 = .ok (.iconst 2, 1) := by decide +kernel
theorem dX6_lay_97 : decode cX6_lay 97 = .ok (.if_icmp .ne 12, 3) := by decide +kernel
theorem dX6_lay_100 : decode cX6_lay 100 = .ok (.aload_n 0, 1) := by decide +kernel
theorem dX6_lay_101 : decode cX6_lay 101 = .ok (.getfield 57, 3) := by decide +kernel
theorem dX6_lay_104 : decode cX6_lay 104 = .ok (.iload_n 3, 1) := by decide +kernel
theorem dX6_lay_105 : decode cX6_lay 105 = .ok (.iaload, 1) := by decide +kernel
theorem dX6_lay_106 : decode cX6_lay 106 = .ok (.goto 4, 3) := by decide +kernel
theorem dX6_lay_109 : decode cX6_lay 109 = .ok (.iload_n 3, 1) := by decide +kernel
theorem dX6_lay_110 : decode cX6_lay 110 = .ok (.iastore, 1) := by decide +kernel
theorem dX6_lay_111 : decode cX6_lay 111 = .ok (.aload_n 0, 1) := by decide +kernel
theorem dX6_lay_112 : decode cX6_lay 112 = .ok (.getfield 69, 3) := by decide +kernel
theorem dX6_lay_115 : decode cX6_lay 115 = .ok (.iload_n 1, 1) := by decide +kernel
theorem dX6_lay_116 : decode cX6_lay 116 = .ok (.iload_n 2, 1) := by decide +kernel
theorem dX6_lay_117 : decode cX6_lay 117 = .ok (.iconst 1, 1) := by decide +kernel
theorem dX6_lay_118 : decode cX6_lay 118 = .ok (.if_icmp .ne 11, 3) := by decide +kernel
theorem dX6_lay_121 : decode cX6_lay 121 = .ok (.aload_n 0, 1) := by decide +kernel
theorem dX6_lay_122 : decode cX6_lay 122 = .ok (.iload_n 3, 1) := by decide +kernel
theorem dX6_lay_123 : decode cX6_lay 123 = .ok (.invokevirtual 125, 3) := by decide +kernel
theorem dX6_lay_126 : decode cX6_lay 126 = .ok (.goto 4, 3) := by decide +kernel
theorem dX6_lay_129 : decode cX6_lay 129 = .ok (.iconst 0, 1) := by decide +kernel
theorem dX6_lay_130 : decode cX6_lay 130 = .ok (.iastore, 1) := by decide +kernel
theorem dX6_lay_131 : decode cX6_lay 131 = .ok (.iconst 0, 1) := by decide +kernel
theorem dX6_lay_132 : decode cX6_lay 132 = .ok (.istore 5, 2) := by decide +kernel
theorem dX6_lay_134 : decode cX6_lay 134 = .ok (.iload 5, 2) := by decide +kernel
theorem dX6_lay_136 : decode cX6_lay 136 = .ok (.bipush 24, 2) := by decide +kernel
theorem dX6_lay_138 : decode cX6_lay 138 = .ok (.if_icmp .ge 38, 3) := by decide +kernel
theorem dX6_lay_141 : decode cX6_lay 141 = .ok (.iload_n 2, 1) := by decide +kernel
theorem dX6_lay_142 : decode cX6_lay 142 = .ok (.iconst 2, 1) := by decide +kernel
theorem dX6_lay_143 : decode cX6_lay 143 = .ok (.if_icmp .ne 33, 3) := by decide +kernel
theorem dX6_lay_146 : decode cX6_lay 146 = .ok (.aload_n 0, 1) := by decide +kernel
theorem dX6_lay_147 : decode cX6_lay 147 = .ok (.getfield 72, 3) := by decide +kernel
theorem dX6_lay_150 : decode cX6_lay 150 = .ok (.bipush 24, 2) := by decide +kernel
theorem dX6_lay_152 : decode cX6_lay 152 = .ok (.iload_n 1, 1) := by decide +kernel
theorem dX6_lay_153 : decode cX6_lay 153 = .ok (.imul, 1) := by decide +kernel
theorem dX6_lay_154 : decode cX6_lay 154 = .ok (.iload 5, 2) := by decide +kernel
theorem dX6_lay_156 : decode cX6_lay 156 = .ok (.iadd, 1) := by decide +kernel
theorem dX6_lay_157 : decode cX6_lay 157 = .ok (.aload_n 0, 1) := by decide +kernel
theorem dX6_lay_158 : decode cX6_lay 158 = .ok (.getfield 60, 3) := by decide +kernel
theorem dX6_lay_161 : decode cX6_lay 161 = .ok (.bipush 24, 2) := by decide +kernel
theorem dX6_lay_163 : decode cX6_lay 163 = .ok (.iload_n 3, 1) := by decide +kernel
theorem dX6_lay_164 : decode cX6_lay 164 = .ok (.imul, 1) := by decide +kernel
theorem dX6_lay_165 : decode cX6_lay 165 = .ok (.iload 5, 2) := by decide +kernel
theorem dX6_lay_167 : decode cX6_lay 167 = .ok (.iadd, 1) := by decide +kernel
theorem dX6_lay_168 : decode cX6_lay 168 = .ok (.iaload, 1) := by decide +kernel
theorem dX6_lay_169 : decode cX6_lay 169 = .ok (.iastore, 1) := by decide +kernel
theorem dX6_lay_170 : decode cX6_lay 170 = .ok (.iinc 5 1, 3) := by decide +kernel
theorem dX6_lay_173 : decode cX6_lay 173 = .ok (.goto (-39), 3) := by decide +kernel
theorem dX6_lay_176 : decode cX6_lay 176 = .ok (.iload 4, 2) := by decide +kernel
theorem dX6_lay_178 : decode cX6_lay 178 = .ok (.ireturn, 1) := by decide +kernel
theorem dX6_ask_0 : decode cX6_ask 0 = .ok (.iload_n 1, 1) := by decide +kernel
theorem dX6_ask_1 : decode cX6_ask 1 = .ok (.invokestatic 265, 3) := by decide +kernel
theorem dX6_ask_4 : decode cX6_ask 4 = .ok (.ifCond .eq 12, 3) := by decide +kernel
theorem dX6_ask_7 : decode cX6_ask 7 = .ok (.iload_n 2, 1) := by decide +kernel
theorem dX6_ask_8 : decode cX6_ask 8 = .ok (.iconst 0, 1) := by decide +kernel
theorem dX6_ask_9 : decode cX6_ask 9 = .ok (.iconst 5, 1) := by decide +kernel
theorem dX6_ask_10 : decode cX6_ask 10 = .ok (.invokestatic 82, 3) := by decide +kernel
theorem dX6_ask_13 : decode cX6_ask 13 = .ok (.ifCond .ne 6, 3) := by decide +kernel
theorem dX6_ask_16 : decode cX6_ask 16 = .ok (.ldc 90, 2) := by decide +kernel
theorem dX6_ask_18 : decode cX6_ask 18 = .ok (.ireturn, 1) := by decide +kernel
theorem dX6_ask_19 : decode cX6_ask 19 = .ok (.aload_n 0, 1) := by decide +kernel
theorem dX6_ask_20 : decode cX6_ask 20 = .ok (.getfield 63, 3) := by decide +kernel
theorem dX6_ask_23 : decode cX6_ask 23 = .ok (.iload_n 1, 1) := by decide +kernel
theorem dX6_ask_24 : decode cX6_ask 24 = .ok (.iaload, 1) := by decide +kernel
theorem dX6_ask_25 : decode cX6_ask 25 = .ok (.ifCond .ne 6, 3) := by decide +kernel
theorem dX6_ask_28 : decode cX6_ask 28 = .ok (.ldc 180, 2) := by decide +kernel
theorem dX6_ask_30 : decode cX6_ask 30 = .ok (.ireturn, 1) := by decide +kernel
theorem dX6_ask_31 : decode cX6_ask 31 = .ok (.aload_n 0, 1) := by decide +kernel
theorem dX6_ask_32 : decode cX6_ask 32 = .ok (.getfield 63, 3) := by decide +kernel
theorem dX6_ask_35 : decode cX6_ask 35 = .ok (.iload_n 1, 1) := by decide +kernel
theorem dX6_ask_36 : decode cX6_ask 36 = .ok (.iaload, 1) := by decide +kernel
theorem dX6_ask_37 : decode cX6_ask 37 = .ok (.iconst 1, 1) := by decide +kernel
theorem dX6_ask_38 : decode cX6_ask 38 = .ok (.if_icmp .ne 25, 3) := by decide +kernel
theorem dX6_ask_41 : decode cX6_ask 41 = .ok (.aload_n 0, 1) := by decide +kernel
theorem dX6_ask_42 : decode cX6_ask 42 = .ok (.getfield 66, 3) := by decide +kernel
theorem dX6_ask_45 : decode cX6_ask 45 = .ok (.iload_n 1, 1) := by decide +kernel
theorem dX6_ask_46 : decode cX6_ask 46 = .ok (.iaload, 1) := by decide +kernel
theorem dX6_ask_47 : decode cX6_ask 47 = .ok (.iload_n 2, 1) := by decide +kernel
theorem dX6_ask_48 : decode cX6_ask 48 = .ok (.invokestatic 143, 3) := by decide +kernel
theorem dX6_ask_51 : decode cX6_ask 51 = .ok (.ifCond .eq 12, 3) := by decide +kernel
theorem dX6_ask_54 : decode cX6_ask 54 = .ok (.aload_n 0, 1) := by decide +kernel
theorem dX6_ask_55 : decode cX6_ask 55 = .ok (.getfield 69, 3) := by decide +kernel
theorem dX6_ask_58 : decode cX6_ask 58 = .ok (.iload_n 1, 1) := by decide +kernel
theorem dX6_ask_59 : decode cX6_ask 59 = .ok (.iaload, 1) := by decide +kernel
theorem dX6_ask_60 : decode cX6_ask 60 = .ok (.goto 5, 3) := by decide +kernel
theorem dX6_ask_63 : decode cX6_ask 63 = .ok (.ldc 147, 2) := by decide +kernel
theorem dX6_ask_65 : decode cX6_ask 65 = .ok (.ireturn, 1) := by decide +kernel
theorem dX6_item_0 : decode cX6_item 0 = .ok (.iload_n 1, 1) := by decide +kernel
theorem dX6_item_1 : decode cX6_item 1 = .ok (.invokestatic 265, 3) := by decide +kernel
theorem dX6_item_4 : decode cX6_item 4 = .ok (.ifCond .ne 6, 3) := by decide +kernel
theorem dX6_item_7 : decode cX6_item 7 = .ok (.ldc 90, 2) := by decide +kernel
theorem dX6_item_9 : decode cX6_item 9 = .ok (.ireturn, 1) := by decide +kernel
theorem dX6_item_10 : decode cX6_item 10 = .ok (.aload_n 0, 1) := by decide +kernel
theorem dX6_item_11 : decode cX6_item 11 = .ok (.getfield 63, 3) := by decide +kernel
theorem dX6_item_14 : decode cX6_item 14 = .ok (.iload_n 1, 1) := by decide +kernel
theorem dX6_item_15 : decode cX6_item 15 = .ok (.iaload, 1) := by decide +kernel
theorem dX6_item_16 : decode cX6_item 16 = .ok (.ifCond .ne 6, 3) := by decide +kernel
theorem dX6_item_19 : decode cX6_item 19 = .ok (.ldc 180, 2) := by decide +kernel
theorem dX6_item_21 : decode cX6_item 21 = .ok (.ireturn, 1) := by decide +kernel
theorem dX6_item_22 : decode cX6_item 22 = .ok (.aload_n 0, 1) := by decide +kernel
theorem dX6_item_23 : decode cX6_item 23 = .ok (.getfield 63, 3) := by decide +kernel
theorem dX6_item_26 : decode cX6_item 26 = .ok (.iload_n 1, 1) := by decide +kernel
theorem dX6_item_27 : decode cX6_item 27 = .ok (.iaload, 1) := by decide +kernel
theorem dX6_item_28 : decode cX6_item 28 = .ok (.iconst 2, 1) := by decide +kernel
theorem dX6_item_29 : decode cX6_item 29 = .ok (.if_icmp .eq 6, 3) := by decide +kernel
theorem dX6_item_32 : decode cX6_item 32 = .ok (.ldc 147, 2) := by decide +kernel
theorem dX6_item_34 : decode cX6_item 34 = .ok (.ireturn, 1) := by decide +kernel
theorem dX6_item_35 : decode cX6_item 35 = .ok (.iload_n 2, 1) := by decide +kernel
theorem dX6_item_36 : decode cX6_item 36 = .ok (.iconst 0, 1) := by decide +kernel
theorem dX6_item_37 : decode cX6_item 37 = .ok (.aload_n 0, 1) := by decide +kernel
theorem dX6_item_38 : decode cX6_item 38 = .ok (.getfield 66, 3) := by decide +kernel
theorem dX6_item_41 : decode cX6_item 41 = .ok (.iload_n 1, 1) := by decide +kernel
theorem dX6_item_42 : decode cX6_item 42 = .ok (.iaload, 1) := by decide +kernel
theorem dX6_item_43 : decode cX6_item 43 = .ok (.iconst 1, 1) := by decide +kernel
theorem dX6_item_44 : decode cX6_item 44 = .ok (.isub, 1) := by decide +kernel
theorem dX6_item_45 : decode cX6_item 45 = .ok (.invokestatic 82, 3) := by decide +kernel
theorem dX6_item_48 : decode cX6_item 48 = .ok (.ifCond .ne 7, 3) := by decide +kernel
theorem dX6_item_51 : decode cX6_item 51 = .ok (.ldc_w 263, 3) := by decide +kernel
theorem dX6_item_54 : decode cX6_item 54 = .ok (.ireturn, 1) := by decide +kernel
theorem dX6_item_55 : decode cX6_item 55 = .ok (.aload_n 0, 1) := by decide +kernel
theorem dX6_item_56 : decode cX6_item 56 = .ok (.getfield 72, 3) := by decide +kernel
theorem dX6_item_59 : decode cX6_item 59 = .ok (.bipush 24, 2) := by decide +kernel
theorem dX6_item_61 : decode cX6_item 61 = .ok (.iload_n 1, 1) := by decide +kernel
theorem dX6_item_62 : decode cX6_item 62 = .ok (.imul, 1) := by decide +kernel
theorem dX6_item_63 : decode cX6_item 63 = .ok (.iload_n 2, 1) := by decide +kernel
theorem dX6_item_64 : decode cX6_item 64 = .ok (.iadd, 1) := by decide +kernel
theorem dX6_item_65 : decode cX6_item 65 = .ok (.iaload, 1) := by decide +kernel
theorem dX6_item_66 : decode cX6_item 66 = .ok (.istore_n 3, 1) := by decide +kernel
theorem dX6_item_67 : decode cX6_item 67 = .ok (.iload_n 3, 1) := by decide +kernel
theorem dX6_item_68 : decode cX6_item 68 = .ok (.ldc 81, 2) := by decide +kernel
theorem dX6_item_70 : decode cX6_item 70 = .ok (.if_icmp .ne 8, 3) := by decide +kernel
theorem dX6_item_73 : decode cX6_item 73 = .ok (.ldc 147, 2) := by decide +kernel
theorem dX6_item_75 : decode cX6_item 75 = .ok (.goto 4, 3) := by decide +kernel
theorem dX6_item_78 : decode cX6_item 78 = .ok (.iload_n 3, 1) := by decide +kernel
theorem dX6_item_79 : decode cX6_item 79 = .ok (.ireturn, 1) := by decide +kernel
theorem dX6_rest_0 : decode cX6_rest 0 = .ok (.iload_n 1, 1) := by decide +kernel
theorem dX6_rest_1 : decode cX6_rest 1 = .ok (.invokestatic 265, 3) := by decide +kernel
theorem dX6_rest_4 : decode cX6_rest 4 = .ok (.ifCond .ne 6, 3) := by decide +kernel
theorem dX6_rest_7 : decode cX6_rest 7 = .ok (.ldc 90, 2) := by decide +kernel
theorem dX6_rest_9 : decode cX6_rest 9 = .ok (.ireturn, 1) := by decide +kernel
theorem dX6_rest_10 : decode cX6_rest 10 = .ok (.aload_n 0, 1) := by decide +kernel
theorem dX6_rest_11 : decode cX6_rest 11 = .ok (.getfield 63, 3) := by decide +kernel
theorem dX6_rest_14 : decode cX6_rest 14 = .ok (.iload_n 1, 1) := by decide +kernel
theorem dX6_rest_15 : decode cX6_rest 15 = .ok (.iaload, 1) := by decide +kernel
theorem dX6_rest_16 : decode cX6_rest 16 = .ok (.ifCond .ne 6, 3) := by decide +kernel
theorem dX6_rest_19 : decode cX6_rest 19 = .ok (.ldc 180, 2) := by decide +kernel
theorem dX6_rest_21 : decode cX6_rest 21 = .ok (.ireturn, 1) := by decide +kernel
theorem dX6_rest_22 : decode cX6_rest 22 = .ok (.aload_n 0, 1) := by decide +kernel
theorem dX6_rest_23 : decode cX6_rest 23 = .ok (.getfield 63, 3) := by decide +kernel
theorem dX6_rest_26 : decode cX6_rest 26 = .ok (.iload_n 1, 1) := by decide +kernel
theorem dX6_rest_27 : decode cX6_rest 27 = .ok (.iaload, 1) := by decide +kernel
theorem dX6_rest_28 : decode cX6_rest 28 = .ok (.iconst 3, 1) := by decide +kernel
theorem dX6_rest_29 : decode cX6_rest 29 = .ok (.if_icmp .eq 6, 3) := by decide +kernel
theorem dX6_rest_32 : decode cX6_rest 32 = .ok (.ldc 147, 2) := by decide +kernel
theorem dX6_rest_34 : decode cX6_rest 34 = .ok (.ireturn, 1) := by decide +kernel
theorem dX6_rest_35 : decode cX6_rest 35 = .ok (.iload_n 2, 1) := by decide +kernel
theorem dX6_rest_36 : decode cX6_rest 36 = .ok (.ifCond .ne 8, 3) := by decide +kernel
theorem dX6_rest_39 : decode cX6_rest 39 = .ok (.ldc 189, 2) := by decide +kernel
theorem dX6_rest_41 : decode cX6_rest 41 = .ok (.goto 20, 3) := by decide +kernel
theorem dX6_rest_44 : decode cX6_rest 44 = .ok (.iload_n 2, 1) := by decide +kernel
theorem dX6_rest_45 : decode cX6_rest 45 = .ok (.iconst (-1), 1) := by decide +kernel
theorem dX6_rest_46 : decode cX6_rest 46 = .ok (.if_icmp .ne 7, 3) := by decide +kernel
theorem dX6_rest_49 : decode cX6_rest 49 = .ok (.iconst 0, 1) := by decide +kernel
theorem dX6_rest_50 : decode cX6_rest 50 = .ok (.goto 11, 3) := by decide +kernel
theorem dX6_rest_53 : decode cX6_rest 53 = .ok (.aload_n 0, 1) := by decide +kernel
theorem dX6_rest_54 : decode cX6_rest 54 = .ok (.getfield 66, 3) := by decide +kernel
theorem dX6_rest_57 : decode cX6_rest 57 = .ok (.iload_n 1, 1) := by decide +kernel
theorem dX6_rest_58 : decode cX6_rest 58 = .ok (.iaload, 1) := by decide +kernel
theorem dX6_rest_59 : decode cX6_rest 59 = .ok (.iload_n 2, 1) := by decide +kernel
theorem dX6_rest_60 : decode cX6_rest 60 = .ok (.irem, 1) := by decide +kernel
theorem dX6_rest_61 : decode cX6_rest 61 = .ok (.ireturn, 1) := by decide +kernel
theorem dX6_tell_0 : decode cX6_tell 0 = .ok (.aload_n 0, 1) := by decide +kernel
theorem dX6_tell_1 : decode cX6_tell 1 = .ok (.getfield 268, 3) := by decide +kernel
theorem dX6_tell_4 : decode cX6_tell 4 = .ok (.bipush 60, 2) := by decide +kernel
theorem dX6_tell_6 : decode cX6_tell 6 = .ok (.if_icmp .ne 6, 3) := by decide +kernel
theorem dX6_tell_9 : decode cX6_tell 9 = .ok (.ldc 91, 2) := by decide +kernel
theorem dX6_tell_11 : decode cX6_tell 11 = .ok (.ireturn, 1) := by decide +kernel
theorem dX6_tell_12 : decode cX6_tell 12 = .ok (.aload_n 0, 1) := by decide +kernel
theorem dX6_tell_13 : decode cX6_tell 13 = .ok (.getfield 78, 3) := by decide +kernel
theorem dX6_tell_16 : decode cX6_tell 16 = .ok (.aload_n 0, 1) := by decide +kernel
theorem dX6_tell_17 : decode cX6_tell 17 = .ok (.getfield 268, 3) := by decide +kernel
theorem dX6_tell_20 : decode cX6_tell 20 = .ok (.iload_n 1, 1) := by decide +kernel
theorem dX6_tell_21 : decode cX6_tell 21 = .ok (.iastore, 1) := by decide +kernel
theorem dX6_tell_22 : decode cX6_tell 22 = .ok (.aload_n 0, 1) := by decide +kernel
theorem dX6_tell_23 : decode cX6_tell 23 = .ok (.dup, 1) := by decide +kernel
theorem dX6_tell_24 : decode cX6_tell 24 = .ok (.getfield 268, 3) := by decide +kernel
theorem dX6_tell_27 : decode cX6_tell 27 = .ok (.iconst 1, 1) := by decide +kernel
theorem dX6_tell_28 : decode cX6_tell 28 = .ok (.iadd, 1) := by decide +kernel
theorem dX6_tell_29 : decode cX6_tell 29 = .ok (.putfield 268, 3) := by decide +kernel
theorem dX6_tell_32 : decode cX6_tell 32 = .ok (.aload_n 0, 1) := by decide +kernel
theorem dX6_tell_33 : decode cX6_tell 33 = .ok (.getfield 268, 3) := by decide +kernel
theorem dX6_tell_36 : decode cX6_tell 36 = .ok (.ireturn, 1) := by decide +kernel
theorem dX6_check_0 : decode cX6_check 0 = .ok (.aload_n 0, 1) := by decide +kernel
theorem dX6_check_1 : decode cX6_check 1 = .ok (.getfield 268, 3) := by decide +kernel
theorem dX6_check_4 : decode cX6_check 4 = .ok (.istore_n 2, 1) := by decide +kernel
theorem dX6_check_5 : decode cX6_check 5 = .ok (.aload_n 0, 1) := by decide +kernel
theorem dX6_check_6 : decode cX6_check 6 = .ok (.iconst 0, 1) := by decide +kernel
theorem dX6_check_7 : decode cX6_check 7 = .ok (.putfield 268, 3) := by decide +kernel
theorem dX6_check_10 : decode cX6_check 10 = .ok (.iload_n 1, 1) := by decide +kernel
theorem dX6_check_11 : decode cX6_check 11 = .ok (.iconst 1, 1) := by decide +kernel
theorem dX6_check_12 : decode cX6_check 12 = .ok (.bipush 30, 2) := by decide +kernel
theorem dX6_check_14 : decode cX6_check 14 = .ok (.invokestatic 82, 3) := by decide +kernel
theorem dX6_check_17 : decode cX6_check 17 = .ok (.ifCond .ne 6, 3) := by decide +kernel
theorem dX6_check_20 : decode cX6_check 20 = .ok (.ldc 90, 2) := by decide +kernel
theorem dX6_check_22 : decode cX6_check 22 = .ok (.ireturn, 1) := by decide +kernel
theorem dX6_check_23 : decode cX6_check 23 = .ok (.aload_n 0, 1) := by decide +kernel
theorem dX6_check_24 : decode cX6_check 24 = .ok (.getfield 185, 3) := by decide +kernel
theorem dX6_check_27 : decode cX6_check 27 = .ok (.ifCond .ne 6, 3) := by decide +kernel
theorem dX6_check_30 : decode cX6_check 30 = .ok (.ldc 189, 2) := by decide +kernel
theorem dX6_check_32 : decode cX6_check 32 = .ok (.ireturn, 1) := by decide +kernel
theorem dX6_check_33 : decode cX6_check 33 = .ok (.aload_n 0, 1) := by decide +kernel
theorem dX6_check_34 : decode cX6_check 34 = .ok (.getfield 9, 3) := by decide +kernel
theorem dX6_check_37 : decode cX6_check 37 = .ok (.aload_n 0, 1) := by decide +kernel
theorem dX6_check_38 : decode cX6_check 38 = .ok (.getfield 16, 3) := by decide +kernel
theorem dX6_check_41 : decode cX6_check 41 = .ok (.invokestatic 190, 3) := by decide +kernel
theorem dX6_check_44 : decode cX6_check 44 = .ok (.aload_n 0, 1) := by decide +kernel
theorem dX6_check_45 : decode cX6_check 45 = .ok (.getfield 13, 3) := by decide +kernel
theorem dX6_check_48 : decode cX6_check 48 = .ok (.aload_n 0, 1) := by decide +kernel
theorem dX6_check_49 : decode cX6_check 49 = .ok (.getfield 9, 3) := by decide +kernel
theorem dX6_check_52 : decode cX6_check 52 = .ok (.invokestatic 190, 3) := by decide +kernel
theorem dX6_check_55 : decode cX6_check 55 = .ok (.iconst 2, 1) := by decide +kernel
theorem dX6_check_56 : decode cX6_check 56 = .ok (.sipush 9999, 3) := by decide +kernel
theorem dX6_check_59 : decode cX6_check 59 = .ok (.aload_n 0, 1) := by decide +kernel
theorem dX6_check_60 : decode cX6_check 60 = .ok (.getfield 9, 3) := by decide +kernel
theorem dX6_check_63 : decode cX6_check 63 = .ok (.iconst 4, 1) := by decide +kernel
theorem dX6_check_64 : decode cX6_check 64 = .ok (.iaload, 1) := by decide +kernel
theorem dX6_check_65 : decode cX6_check 65 = .ok (.isub, 1) := by decide +kernel
theorem dX6_check_66 : decode cX6_check 66 = .ok (.iconst 0, 1) := by decide +kernel
theorem dX6_check_67 : decode cX6_check 67 = .ok (.iload_n 1, 1) := by decide +kernel
theorem dX6_check_68 : decode cX6_check 68 = .ok (.invokestatic 101, 3) := by decide +kernel
theorem dX6_check_71 : decode cX6_check 71 = .ok (.imul, 1) := by decide +kernel
theorem dX6_check_72 : decode cX6_check 72 = .ok (.istore_n 3, 1) := by decide +kernel
theorem dX6_check_73 : decode cX6_check 73 = .ok (.iconst 0, 1) := by decide +kernel
theorem dX6_check_74 : decode cX6_check 74 = .ok (.istore 4, 2) := by decide +kernel
theorem dX6_check_76 : decode cX6_check 76 = .ok (.iconst 0, 1) := by decide +kernel
theorem dX6_check_77 : decode cX6_check 77 = .ok (.istore 5, 2) := by decide +kernel
theorem dX6_check_79 : decode cX6_check 79 = .ok (.iconst 2, 1) := by decide +kernel
theorem dX6_check_80 : decode cX6_check 80 = .ok (.iload 5, 2) := by decide +kernel
theorem dX6_check_82 : decode cX6_check 82 = .ok (.imul, 1) := by decide +kernel
theorem dX6_check_83 : decode cX6_check 83 = .ok (.iload_n 3, 1) := by decide +kernel
theorem dX6_check_84 : decode cX6_check 84 = .ok (.if_icmp .ge 93, 3) := by decide +kernel
theorem dX6_check_87 : decode cX6_check 87 = .ok (.iload 4, 2) := by decide +kernel
theorem dX6_check_89 : decode cX6_check 89 = .ok (.iconst 2, 1) := by decide +kernel
theorem dX6_check_90 : decode cX6_check 90 = .ok (.iload 5, 2) := by decide +kernel
theorem dX6_check_92 : decode cX6_check 92 = .ok (.imul, 1) := by decide +kernel
theorem dX6_check_93 : decode cX6_check 93 = .ok (.if_icmp .ne 84, 3) := by decide +kernel
theorem dX6_check_96 : decode cX6_check 96 = .ok (.aload_n 0, 1) := by decide +kernel
theorem dX6_check_97 : decode cX6_check 97 = .ok (.invokevirtual 155, 3) := by decide +kernel
theorem dX6_check_100 : decode cX6_check 100 = .ok (.iload 4, 2) := by decide +kernel
theorem dX6_check_102 : decode cX6_check 102 = .ok (.iload 4, 2) := by decide +kernel
theorem dX6_check_104 : decode cX6_check 104 = .ok (.iload_n 2, 1) := by decide +kernel
theorem dX6_check_105 : decode cX6_check 105 = .ok (.if_icmp .ge 21, 3) := by decide +kernel
theorem dX6_check_108 : decode cX6_check 108 = .ok (.aload_n 0, 1) := by decide +kernel
theorem dX6_check_109 : decode cX6_check 109 = .ok (.getfield 78, 3) := by decide +kernel
theorem dX6_check_112 : decode cX6_check 112 = .ok (.iload 4, 2) := by decide +kernel
theorem dX6_check_114 : decode cX6_check 114 = .ok (.iaload, 1) := by decide +kernel
theorem dX6_check_115 : decode cX6_check 115 = .ok (.aload_n 0, 1) := by decide +kernel
theorem dX6_check_116 : decode cX6_check 116 = .ok (.invokevirtual 162, 3) := by decide +kernel
theorem dX6_check_119 : decode cX6_check 119 = .ok (.if_icmp .ne 7, 3) := by decide +kernel
theorem dX6_check_122 : decode cX6_check 122 = .ok (.iconst 1, 1) := by decide +kernel
theorem dX6_check_123 : decode cX6_check 123 = .ok (.goto 4, 3) := by decide +kernel
theorem dX6_check_126 : decode cX6_check 126 = .ok (.iconst 0, 1) := by decide +kernel
theorem dX6_check_127 : decode cX6_check 127 = .ok (.iadd, 1) := by decide +kernel
theorem dX6_check_128 : decode cX6_check 128 = .ok (.istore 4, 2) := by decide +kernel
theorem dX6_check_130 : decode cX6_check 130 = .ok (.iload 4, 2) := by decide +kernel
theorem dX6_check_132 : decode cX6_check 132 = .ok (.iload 4, 2) := by decide +kernel
theorem dX6_check_134 : decode cX6_check 134 = .ok (.iconst 2, 1) := by decide +kernel
theorem dX6_check_135 : decode cX6_check 135 = .ok (.iload 5, 2) := by decide +kernel
theorem dX6_check_137 : decode cX6_check 137 = .ok (.imul, 1) := by decide +kernel
theorem dX6_check_138 : decode cX6_check 138 = .ok (.iconst 1, 1) := by decide +kernel
theorem dX6_check_139 : decode cX6_check 139 = .ok (.iadd, 1) := by decide +kernel
theorem dX6_check_140 : decode cX6_check 140 = .ok (.if_icmp .ne 27, 3) := by decide +kernel
theorem dX6_check_143 : decode cX6_check 143 = .ok (.iload 4, 2) := by decide +kernel
theorem dX6_check_145 : decode cX6_check 145 = .ok (.iload_n 2, 1) := by decide +kernel
theorem dX6_check_146 : decode cX6_check 146 = .ok (.if_icmp .ge 21, 3) := by decide +kernel
theorem dX6_check_149 : decode cX6_check 149 = .ok (.aload_n 0, 1) := by decide +kernel
theorem dX6_check_150 : decode cX6_check 150 = .ok (.getfield 78, 3) := by decide +kernel
theorem dX6_check_153 : decode cX6_check 153 = .ok (.iload 4, 2) := by decide +kernel
theorem dX6_check_155 : decode cX6_check 155 = .ok (.iaload, 1) := by decide +kernel
theorem dX6_check_156 : decode cX6_check 156 = .ok (.aload_n 0, 1) := by decide +kernel
theorem dX6_check_157 : decode cX6_check 157 = .ok (.invokevirtual 128, 3) := by decide +kernel
theorem dX6_check_160 : decode cX6_check 160 = .ok (.if_icmp .ne 7, 3) := by decide +kernel
theorem dX6_check_163 : decode cX6_check 163 = .ok (.iconst 1, 1) := by decide +kernel
theorem dX6_check_164 : decode cX6_check 164 = .ok (.goto 4, 3) := by decide +kernel
theorem dX6_check_167 : decode cX6_check 167 = .ok (.iconst 0, 1) := by decide +kernel
theorem dX6_check_168 : decode cX6_check 168 = .ok (.iadd, 1) := by decide +kernel
theorem dX6_check_169 : decode cX6_check 169 = .ok (.istore 4, 2) := by decide +kernel
theorem dX6_check_171 : decode cX6_check 171 = .ok (.iinc 5 1, 3) := by decide +kernel
theorem dX6_check_174 : decode cX6_check 174 = .ok (.goto (-95), 3) := by decide +kernel
theorem dX6_check_177 : decode cX6_check 177 = .ok (.aload_n 0, 1) := by decide +kernel
theorem dX6_check_178 : decode cX6_check 178 = .ok (.getfield 16, 3) := by decide +kernel
theorem dX6_check_181 : decode cX6_check 181 = .ok (.aload_n 0, 1) := by decide +kernel
theorem dX6_check_182 : decode cX6_check 182 = .ok (.getfield 9, 3) := by decide +kernel
theorem dX6_check_185 : decode cX6_check 185 = .ok (.invokestatic 190, 3) := by decide +kernel
theorem dX6_check_188 : decode cX6_check 188 = .ok (.iload 4, 2) := by decide +kernel
theorem dX6_check_190 : decode cX6_check 190 = .ok (.iload_n 2, 1) := by decide +kernel
theorem dX6_check_191 : decode cX6_check 191 = .ok (.if_icmp .ne 13, 3) := by decide +kernel
theorem dX6_check_194 : decode cX6_check 194 = .ok (.iload 4, 2) := by decide +kernel
theorem dX6_check_196 : decode cX6_check 196 = .ok (.iload_n 3, 1) := by decide +kernel
theorem dX6_check_197 : decode cX6_check 197 = .ok (.if_icmp .ne 7, 3) := by decide +kernel
theorem dX6_check_200 : decode cX6_check 200 = .ok (.iconst 0, 1) := by decide +kernel
theorem dX6_check_201 : decode cX6_check 201 = .ok (.goto 7, 3) := by decide +kernel
theorem dX6_check_204 : decode cX6_check 204 = .ok (.iconst 1, 1) := by decide +kernel
theorem dX6_check_205 : decode cX6_check 205 = .ok (.iload 4, 2) := by decide +kernel
theorem dX6_check_207 : decode cX6_check 207 = .ok (.iadd, 1) := by decide +kernel
theorem dX6_check_208 : decode cX6_check 208 = .ok (.ireturn, 1) := by decide +kernel
theorem dX6_keep_0 : decode cX6_keep 0 = .ok (.aload_n 0, 1) := by decide +kernel
theorem dX6_keep_1 : decode cX6_keep 1 = .ok (.getfield 9, 3) := by decide +kernel
theorem dX6_keep_4 : decode cX6_keep 4 = .ok (.aload_n 0, 1) := by decide +kernel
theorem dX6_keep_5 : decode cX6_keep 5 = .ok (.getfield 13, 3) := by decide +kernel
theorem dX6_keep_8 : decode cX6_keep 8 = .ok (.invokestatic 190, 3) := by decide +kernel
theorem dX6_keep_11 : decode cX6_keep 11 = .ok (.aload_n 0, 1) := by decide +kernel
theorem dX6_keep_12 : decode cX6_keep 12 = .ok (.iconst 1, 1) := by decide +kernel
theorem dX6_keep_13 : decode cX6_keep 13 = .ok (.putfield 185, 3) := by decide +kernel
theorem dX6_keep_16 : decode cX6_keep 16 = .ok (.aload_n 0, 1) := by decide +kernel
theorem dX6_keep_17 : decode cX6_keep 17 = .ok (.getfield 9, 3) := by decide +kernel
theorem dX6_keep_20 : decode cX6_keep 20 = .ok (.iconst 1, 1) := by decide +kernel
theorem dX6_keep_21 : decode cX6_keep 21 = .ok (.iaload, 1) := by decide +kernel
theorem dX6_keep_22 : decode cX6_keep 22 = .ok (.ireturn, 1) := by decide +kernel
theorem dX6_back_0 : decode cX6_back 0 = .ok (.aload_n 0, 1) := by decide +kernel
theorem dX6_back_1 : decode cX6_back 1 = .ok (.getfield 185, 3) := by decide +kernel
theorem dX6_back_4 : decode cX6_back 4 = .ok (.ifCond .ne 6, 3) := by decide +kernel
theorem dX6_back_7 : decode cX6_back 7 = .ok (.ldc 189, 2) := by decide +kernel
theorem dX6_back_9 : decode cX6_back 9 = .ok (.ireturn, 1) := by decide +kernel
theorem dX6_back_10 : decode cX6_back 10 = .ok (.aload_n 0, 1) := by decide +kernel
theorem dX6_back_11 : decode cX6_back 11 = .ok (.getfield 13, 3) := by decide +kernel
theorem dX6_back_14 : decode cX6_back 14 = .ok (.aload_n 0, 1) := by decide +kernel
theorem dX6_back_15 : decode cX6_back 15 = .ok (.getfield 9, 3) := by decide +kernel
theorem dX6_back_18 : decode cX6_back 18 = .ok (.invokestatic 190, 3) := by decide +kernel
theorem dX6_back_21 : decode cX6_back 21 = .ok (.aload_n 0, 1) := by decide +kernel
theorem dX6_back_22 : decode cX6_back 22 = .ok (.getfield 9, 3) := by decide +kernel
theorem dX6_back_25 : decode cX6_back 25 = .ok (.iconst 1, 1) := by decide +kernel
theorem dX6_back_26 : decode cX6_back 26 = .ok (.iaload, 1) := by decide +kernel
theorem dX6_back_27 : decode cX6_back 27 = .ok (.ireturn, 1) := by decide +kernel
theorem dX6_count_0 : decode cX6_count 0 = .ok (.iload_n 1, 1) := by decide +kernel
theorem dX6_count_1 : decode cX6_count 1 = .ok (.tableswitch 100 0 7 #[47, 54, 61, 68, 75, 83, 88, 93], 47) := by decide +kernel
theorem dX6_count_48 : decode cX6_count 48 = .ok (.aload_n 0, 1) := by decide +kernel
theorem dX6_count_49 : decode cX6_count 49 = .ok (.getfield 9, 3) := by decide +kernel
theorem dX6_count_52 : decode cX6_count 52 = .ok (.iconst 1, 1) := by decide +kernel
theorem dX6_count_53 : decode cX6_count 53 = .ok (.iaload, 1) := by decide +kernel
theorem dX6_count_54 : decode cX6_count 54 = .ok (.ireturn, 1) := by decide +kernel
theorem dX6_count_55 : decode cX6_count 55 = .ok (.aload_n 0, 1) := by decide +kernel
theorem dX6_count_56 : decode cX6_count 56 = .ok (.getfield 9, 3) := by decide +kernel
theorem dX6_count_59 : decode cX6_count 59 = .ok (.iconst 4, 1) := by decide +kernel
theorem dX6_count_60 : decode cX6_count 60 = .ok (.iaload, 1) := by decide +kernel
theorem dX6_count_61 : decode cX6_count 61 = .ok (.ireturn, 1) := by decide +kernel
theorem dX6_count_62 : decode cX6_count 62 = .ok (.aload_n 0, 1) := by decide +kernel
theorem dX6_count_63 : decode cX6_count 63 = .ok (.getfield 9, 3) := by decide +kernel
theorem dX6_count_66 : decode cX6_count 66 = .ok (.iconst 2, 1) := by decide +kernel
theorem dX6_count_67 : decode cX6_count 67 = .ok (.iaload, 1) := by decide +kernel
theorem dX6_count_68 : decode cX6_count 68 = .ok (.ireturn, 1) := by decide +kernel
theorem dX6_count_69 : decode cX6_count 69 = .ok (.aload_n 0, 1) := by decide +kernel
theorem dX6_count_70 : decode cX6_count 70 = .ok (.getfield 9, 3) := by decide +kernel
theorem dX6_count_73 : decode cX6_count 73 = .ok (.iconst 3, 1) := by decide +kernel
theorem dX6_count_74 : decode cX6_count 74 = .ok (.iaload, 1) := by decide +kernel
theorem dX6_count_75 : decode cX6_count 75 = .ok (.ireturn, 1) := by decide +kernel
theorem dX6_count_76 : decode cX6_count 76 = .ok (.aload_n 0, 1) := by decide +kernel
theorem dX6_count_77 : decode cX6_count 77 = .ok (.getfield 9, 3) := by decide +kernel
theorem dX6_count_80 : decode cX6_count 80 = .ok (.bipush 7, 2) := by decide +kernel
theorem dX6_count_82 : decode cX6_count 82 = .ok (.iaload, 1) := by decide +kernel
theorem dX6_count_83 : decode cX6_count 83 = .ok (.ireturn, 1) := by decide +kernel
theorem dX6_count_84 : decode cX6_count 84 = .ok (.aload_n 0, 1) := by decide +kernel
theorem dX6_count_85 : decode cX6_count 85 = .ok (.getfield 268, 3) := by decide +kernel
theorem dX6_count_88 : decode cX6_count 88 = .ok (.ireturn, 1) := by decide +kernel
theorem dX6_count_89 : decode cX6_count 89 = .ok (.aload_n 0, 1) := by decide +kernel
theorem dX6_count_90 : decode cX6_count 90 = .ok (.getfield 194, 3) := by decide +kernel
theorem dX6_count_93 : decode cX6_count 93 = .ok (.ireturn, 1) := by decide +kernel
theorem dX6_count_94 : decode cX6_count 94 = .ok (.aload_n 0, 1) := by decide +kernel
theorem dX6_count_95 : decode cX6_count 95 = .ok (.getfield 9, 3) := by decide +kernel
theorem dX6_count_98 : decode cX6_count 98 = .ok (.iconst 0, 1) := by decide +kernel
theorem dX6_count_99 : decode cX6_count 99 = .ok (.iaload, 1) := by decide +kernel
theorem dX6_count_100 : decode cX6_count 100 = .ok (.ireturn, 1) := by decide +kernel
theorem dX6_count_101 : decode cX6_count 101 = .ok (.ldc 90, 2) := by decide +kernel
theorem dX6_count_103 : decode cX6_count 103 = .ok (.ireturn, 1) := by decide +kernel
theorem dJ11_isValidCodePoint_9a6ad_0 : decode cJ11_isValidCodePoint_9a6ad 0 = .ok (.iload_n 0, 1) := by decide +kernel
theorem dJ11_isValidCodePoint_9a6ad_1 : decode cJ11_isValidCodePoint_9a6ad 1 = .ok (.bipush 16, 2) := by decide +kernel
theorem dJ11_isValidCodePoint_9a6ad_3 : decode cJ11_isValidCodePoint_9a6ad 3 = .ok (.iushr, 1) := by decide +kernel
theorem dJ11_isValidCodePoint_9a6ad_4 : decode cJ11_isValidCodePoint_9a6ad 4 = .ok (.istore_n 1, 1) := by decide +kernel
theorem dJ11_isValidCodePoint_9a6ad_5 : decode cJ11_isValidCodePoint_9a6ad 5 = .ok (.iload_n 1, 1) := by decide +kernel
theorem dJ11_isValidCodePoint_9a6ad_6 : decode cJ11_isValidCodePoint_9a6ad 6 = .ok (.bipush 17, 2) := by decide +kernel
theorem dJ11_isValidCodePoint_9a6ad_8 : decode cJ11_isValidCodePoint_9a6ad 8 = .ok (.if_icmp .ge 7, 3) := by decide +kernel
theorem dJ11_isValidCodePoint_9a6ad_11 : decode cJ11_isValidCodePoint_9a6ad 11 = .ok (.iconst 1, 1) := by decide +kernel
theorem dJ11_isValidCodePoint_9a6ad_12 : decode cJ11_isValidCodePoint_9a6ad 12 = .ok (.goto 4, 3) := by decide +kernel
theorem dJ11_isValidCodePoint_9a6ad_15 : decode cJ11_isValidCodePoint_9a6ad 15 = .ok (.iconst 0, 1) := by decide +kernel
theorem dJ11_isValidCodePoint_9a6ad_16 : decode cJ11_isValidCodePoint_9a6ad 16 = .ok (.ireturn, 1) := by decide +kernel
theorem dJ11_highSurrogate_5068e_0 : decode cJ11_highSurrogate_5068e 0 = .ok (.iload_n 0, 1) := by decide +kernel
theorem dJ11_highSurrogate_5068e_1 : decode cJ11_highSurrogate_5068e 1 = .ok (.bipush 10, 2) := by decide +kernel
theorem dJ11_highSurrogate_5068e_3 : decode cJ11_highSurrogate_5068e 3 = .ok (.iushr, 1) := by decide +kernel
theorem dJ11_highSurrogate_5068e_4 : decode cJ11_highSurrogate_5068e 4 = .ok (.ldc 110, 2) := by decide +kernel
theorem dJ11_highSurrogate_5068e_6 : decode cJ11_highSurrogate_5068e 6 = .ok (.iadd, 1) := by decide +kernel
theorem dJ11_highSurrogate_5068e_7 : decode cJ11_highSurrogate_5068e 7 = .ok (.i2c, 1) := by decide +kernel
theorem dJ11_highSurrogate_5068e_8 : decode cJ11_highSurrogate_5068e 8 = .ok (.ireturn, 1) := by decide +kernel
theorem dJ11_lowSurrogate_5068e_0 : decode cJ11_lowSurrogate_5068e 0 = .ok (.iload_n 0, 1) := by decide +kernel
theorem dJ11_lowSurrogate_5068e_1 : decode cJ11_lowSurrogate_5068e 1 = .ok (.sipush 1023, 3) := by decide +kernel
theorem dJ11_lowSurrogate_5068e_4 : decode cJ11_lowSurrogate_5068e 4 = .ok (.iand, 1) := by decide +kernel
theorem dJ11_lowSurrogate_5068e_5 : decode cJ11_lowSurrogate_5068e 5 = .ok (.ldc 76, 2) := by decide +kernel
theorem dJ11_lowSurrogate_5068e_7 : decode cJ11_lowSurrogate_5068e 7 = .ok (.iadd, 1) := by decide +kernel
theorem dJ11_lowSurrogate_5068e_8 : decode cJ11_lowSurrogate_5068e 8 = .ok (.i2c, 1) := by decide +kernel
theorem dJ11_lowSurrogate_5068e_9 : decode cJ11_lowSurrogate_5068e 9 = .ok (.ireturn, 1) := by decide +kernel
theorem dJ9_abs_0f7a4_0 : decode cJ9_abs_0f7a4 0 = .ok (.iload_n 0, 1) := by decide +kernel
theorem dJ9_abs_0f7a4_1 : decode cJ9_abs_0f7a4 1 = .ok (.ifCond .ge 8, 3) := by decide +kernel
theorem dJ9_abs_0f7a4_4 : decode cJ9_abs_0f7a4 4 = .ok (.iload_n 0, 1) := by decide +kernel
theorem dJ9_abs_0f7a4_5 : decode cJ9_abs_0f7a4 5 = .ok (.ineg, 1) := by decide +kernel
theorem dJ9_abs_0f7a4_6 : decode cJ9_abs_0f7a4 6 = .ok (.goto 4, 3) := by decide +kernel
theorem dJ9_abs_0f7a4_9 : decode cJ9_abs_0f7a4 9 = .ok (.iload_n 0, 1) := by decide +kernel
theorem dJ9_abs_0f7a4_10 : decode cJ9_abs_0f7a4 10 = .ok (.ireturn, 1) := by decide +kernel
theorem dJ9_max_7cf53_0 : decode cJ9_max_7cf53 0 = .ok (.iload_n 0, 1) := by decide +kernel
theorem dJ9_max_7cf53_1 : decode cJ9_max_7cf53 1 = .ok (.iload_n 1, 1) := by decide +kernel
theorem dJ9_max_7cf53_2 : decode cJ9_max_7cf53 2 = .ok (.if_icmp .lt 7, 3) := by decide +kernel
theorem dJ9_max_7cf53_5 : decode cJ9_max_7cf53 5 = .ok (.iload_n 0, 1) := by decide +kernel
theorem dJ9_max_7cf53_6 : decode cJ9_max_7cf53 6 = .ok (.goto 4, 3) := by decide +kernel
theorem dJ9_max_7cf53_9 : decode cJ9_max_7cf53 9 = .ok (.iload_n 1, 1) := by decide +kernel
theorem dJ9_max_7cf53_10 : decode cJ9_max_7cf53 10 = .ok (.ireturn, 1) := by decide +kernel
theorem dJ9_min_7cf53_0 : decode cJ9_min_7cf53 0 = .ok (.iload_n 0, 1) := by decide +kernel
theorem dJ9_min_7cf53_1 : decode cJ9_min_7cf53 1 = .ok (.iload_n 1, 1) := by decide +kernel
theorem dJ9_min_7cf53_2 : decode cJ9_min_7cf53 2 = .ok (.if_icmp .gt 7, 3) := by decide +kernel
theorem dJ9_min_7cf53_5 : decode cJ9_min_7cf53 5 = .ok (.iload_n 0, 1) := by decide +kernel
theorem dJ9_min_7cf53_6 : decode cJ9_min_7cf53 6 = .ok (.goto 4, 3) := by decide +kernel
theorem dJ9_min_7cf53_9 : decode cJ9_min_7cf53 9 = .ok (.iload_n 1, 1) := by decide +kernel
theorem dJ9_min_7cf53_10 : decode cJ9_min_7cf53 10 = .ok (.ireturn, 1) := by decide +kernel
theorem dJ0_length_8abf5_0 : decode cJ0_length_8abf5 0 = .ok (.aload_n 0, 1) := by decide +kernel
theorem dJ0_length_8abf5_1 : decode cJ0_length_8abf5 1 = .ok (.getfield 9, 3) := by decide +kernel
theorem dJ0_length_8abf5_4 : decode cJ0_length_8abf5 4 = .ok (.arraylength, 1) := by decide +kernel
theorem dJ0_length_8abf5_5 : decode cJ0_length_8abf5 5 = .ok (.aload_n 0, 1) := by decide +kernel
theorem dJ0_length_8abf5_6 : decode cJ0_length_8abf5 6 = .ok (.invokevirtual 335, 3) := by decide +kernel
theorem dJ0_length_8abf5_9 : decode cJ0_length_8abf5 9 = .ok (.ishr, 1) := by decide +kernel
theorem dJ0_length_8abf5_10 : decode cJ0_length_8abf5 10 = .ok (.ireturn, 1) := by decide +kernel
theorem dJ0_charAt_5068e_0 : decode cJ0_charAt_5068e 0 = .ok (.aload_n 0, 1) := by decide +kernel
theorem dJ0_charAt_5068e_1 : decode cJ0_charAt_5068e 1 = .ok (.invokevirtual 492, 3) := by decide +kernel
theorem dJ0_charAt_5068e_4 : decode cJ0_charAt_5068e 4 = .ok (.ifCond .eq 12, 3) := by decide +kernel
theorem dJ0_charAt_5068e_7 : decode cJ0_charAt_5068e 7 = .ok (.aload_n 0, 1) := by decide +kernel
theorem dJ0_charAt_5068e_8 : decode cJ0_charAt_5068e 8 = .ok (.getfield 9, 3) := by decide +kernel
theorem dJ0_charAt_5068e_11 : decode cJ0_charAt_5068e 11 = .ok (.iload_n 1, 1) := by decide +kernel
theorem dJ0_charAt_5068e_12 : decode cJ0_charAt_5068e 12 = .ok (.invokestatic 495, 3) := by decide +kernel
theorem dJ0_charAt_5068e_15 : decode cJ0_charAt_5068e 15 = .ok (.ireturn, 1) := by decide +kernel
theorem dJ0_charAt_5068e_16 : decode cJ0_charAt_5068e 16 = .ok (.aload_n 0, 1) := by decide +kernel
theorem dJ0_charAt_5068e_17 : decode cJ0_charAt_5068e 17 = .ok (.getfield 9, 3) := by decide +kernel
theorem dJ0_charAt_5068e_20 : decode cJ0_charAt_5068e 20 = .ok (.iload_n 1, 1) := by decide +kernel
theorem dJ0_charAt_5068e_21 : decode cJ0_charAt_5068e 21 = .ok (.invokestatic 498, 3) := by decide +kernel
theorem dJ0_charAt_5068e_24 : decode cJ0_charAt_5068e 24 = .ok (.ireturn, 1) := by decide +kernel
theorem dJ0_indexOf_0f7a4_0 : decode cJ0_indexOf_0f7a4 0 = .ok (.aload_n 0, 1) := by decide +kernel
theorem dJ0_indexOf_0f7a4_1 : decode cJ0_indexOf_0f7a4 1 = .ok (.iload_n 1, 1) := by decide +kernel
theorem dJ0_indexOf_0f7a4_2 : decode cJ0_indexOf_0f7a4 2 = .ok (.iconst 0, 1) := by decide +kernel
theorem dJ0_indexOf_0f7a4_3 : decode cJ0_indexOf_0f7a4 3 = .ok (.invokevirtual 633, 3) := by decide +kernel
theorem dJ0_indexOf_0f7a4_6 : decode cJ0_indexOf_0f7a4 6 = .ok (.ireturn, 1) := by decide +kernel
theorem dJ0_indexOf_7cf53_0 : decode cJ0_indexOf_7cf53 0 = .ok (.aload_n 0, 1) := by decide +kernel
theorem dJ0_indexOf_7cf53_1 : decode cJ0_indexOf_7cf53 1 = .ok (.invokevirtual 492, 3) := by decide +kernel
theorem dJ0_indexOf_7cf53_4 : decode cJ0_indexOf_7cf53 4 = .ok (.ifCond .eq 19, 3) := by decide +kernel
theorem dJ0_indexOf_7cf53_7 : decode cJ0_indexOf_7cf53 7 = .ok (.aload_n 0, 1) := by decide +kernel
theorem dJ0_indexOf_7cf53_8 : decode cJ0_indexOf_7cf53 8 = .ok (.getfield 9, 3) := by decide +kernel
theorem dJ0_indexOf_7cf53_11 : decode cJ0_indexOf_7cf53 11 = .ok (.iload_n 1, 1) := by decide +kernel
theorem dJ0_indexOf_7cf53_12 : decode cJ0_indexOf_7cf53 12 = .ok (.iload_n 2, 1) := by decide +kernel
theorem dJ0_indexOf_7cf53_13 : decode cJ0_indexOf_7cf53 13 = .ok (.aload_n 0, 1) := by decide +kernel
theorem dJ0_indexOf_7cf53_14 : decode cJ0_indexOf_7cf53 14 = .ok (.invokevirtual 505, 3) := by decide +kernel
theorem dJ0_indexOf_7cf53_17 : decode cJ0_indexOf_7cf53 17 = .ok (.invokestatic 637, 3) := by decide +kernel
theorem dJ0_indexOf_7cf53_20 : decode cJ0_indexOf_7cf53 20 = .ok (.goto 16, 3) := by decide +kernel
theorem dJ0_indexOf_7cf53_23 : decode cJ0_indexOf_7cf53 23 = .ok (.aload_n 0, 1) := by decide +kernel
theorem dJ0_indexOf_7cf53_24 : decode cJ0_indexOf_7cf53 24 = .ok (.getfield 9, 3) := by decide +kernel
theorem dJ0_indexOf_7cf53_27 : decode cJ0_indexOf_7cf53 27 = .ok (.iload_n 1, 1) := by decide +kernel
theorem dJ0_indexOf_7cf53_28 : decode cJ0_indexOf_7cf53 28 = .ok (.iload_n 2, 1) := by decide +kernel
theorem dJ0_indexOf_7cf53_29 : decode cJ0_indexOf_7cf53 29 = .ok (.aload_n 0, 1) := by decide +kernel
theorem dJ0_indexOf_7cf53_30 : decode cJ0_indexOf_7cf53 30 = .ok (.invokevirtual 505, 3) := by decide +kernel
theorem dJ0_indexOf_7cf53_33 : decode cJ0_indexOf_7cf53 33 = .ok (.invokestatic 640, 3) := by decide +kernel
theorem dJ0_indexOf_7cf53_36 : decode cJ0_indexOf_7cf53 36 = .ok (.ireturn, 1) := by decide +kernel
theorem dJ0_coder_7d493_0 : decode cJ0_coder_7d493 0 = .ok (.getstatic 38, 3) := by decide +kernel
theorem dJ0_coder_7d493_3 : decode cJ0_coder_7d493 3 = .ok (.ifCond .eq 10, 3) := by decide +kernel
theorem dJ0_coder_7d493_6 : decode cJ0_coder_7d493 6 = .ok (.aload_n 0, 1) := by decide +kernel
theorem dJ0_coder_7d493_7 : decode cJ0_coder_7d493 7 = .ok (.getfield 15, 3) := by decide +kernel
theorem dJ0_coder_7d493_10 : decode cJ0_coder_7d493 10 = .ok (.goto 4, 3) := by decide +kernel
theorem dJ0_coder_7d493_13 : decode cJ0_coder_7d493 13 = .ok (.iconst 1, 1) := by decide +kernel
theorem dJ0_coder_7d493_14 : decode cJ0_coder_7d493 14 = .ok (.ireturn, 1) := by decide +kernel
theorem dJ0_isLatin1_aae02_0 : decode cJ0_isLatin1_aae02 0 = .ok (.getstatic 38, 3) := by decide +kernel
theorem dJ0_isLatin1_aae02_3 : decode cJ0_isLatin1_aae02 3 = .ok (.ifCond .eq 14, 3) := by decide +kernel
theorem dJ0_isLatin1_aae02_6 : decode cJ0_isLatin1_aae02 6 = .ok (.aload_n 0, 1) := by decide +kernel
theorem dJ0_isLatin1_aae02_7 : decode cJ0_isLatin1_aae02 7 = .ok (.getfield 15, 3) := by decide +kernel
theorem dJ0_isLatin1_aae02_10 : decode cJ0_isLatin1_aae02 10 = .ok (.ifCond .ne 7, 3) := by decide +kernel
theorem dJ0_isLatin1_aae02_13 : decode cJ0_isLatin1_aae02 13 = .ok (.iconst 1, 1) := by decide +kernel
theorem dJ0_isLatin1_aae02_14 : decode cJ0_isLatin1_aae02 14 = .ok (.goto 4, 3) := by decide +kernel
theorem dJ0_isLatin1_aae02_17 : decode cJ0_isLatin1_aae02 17 = .ok (.iconst 0, 1) := by decide +kernel
theorem dJ0_isLatin1_aae02_18 : decode cJ0_isLatin1_aae02 18 = .ok (.ireturn, 1) := by decide +kernel
theorem dJ0_checkIndex_df160_0 : decode cJ0_checkIndex_df160 0 = .ok (.iload_n 0, 1) := by decide +kernel
theorem dJ0_checkIndex_df160_1 : decode cJ0_checkIndex_df160 1 = .ok (.iload_n 1, 1) := by decide +kernel
theorem dJ0_checkIndex_df160_2 : decode cJ0_checkIndex_df160 2 = .ok (.getstatic 1053, 3) := by decide +kernel
theorem dJ0_checkIndex_df160_5 : decode cJ0_checkIndex_df160 5 = .ok (.invokestatic 1059, 3) := by decide +kernel
theorem dJ0_checkIndex_df160_8 : decode cJ0_checkIndex_df160 8 = .ok (.pop, 1) := by decide +kernel
theorem dJ0_checkIndex_df160_9 : decode cJ0_checkIndex_df160 9 = .ok (.return_, 1) := by decide +kernel
theorem dJ0_checkBoundsBeginEnd_23922_0 : decode cJ0_checkBoundsBeginEnd_23922 0 = .ok (.iload_n 0, 1) := by decide +kernel
theorem dJ0_checkBoundsBeginEnd_23922_1 : decode cJ0_checkBoundsBeginEnd_23922 1 = .ok (.iload_n 1, 1) := by decide +kernel
theorem dJ0_checkBoundsBeginEnd_23922_2 : decode cJ0_checkBoundsBeginEnd_23922 2 = .ok (.iload_n 2, 1) := by decide +kernel
theorem dJ0_checkBoundsBeginEnd_23922_3 : decode cJ0_checkBoundsBeginEnd_23922 3 = .ok (.getstatic 1053, 3) := by decide +kernel
theorem dJ0_checkBoundsBeginEnd_23922_6 : decode cJ0_checkBoundsBeginEnd_23922 6 = .ok (.invokestatic 1062, 3) := by decide +kernel
theorem dJ0_checkBoundsBeginEnd_23922_9 : decode cJ0_checkBoundsBeginEnd_23922 9 = .ok (.pop, 1) := by decide +kernel
theorem dJ0_checkBoundsBeginEnd_23922_10 : decode cJ0_checkBoundsBeginEnd_23922 10 = .ok (.return_, 1) := by decide +kernel
theorem dJ1_charAt_3b067_0 : decode cJ1_charAt_3b067 0 = .ok (.iload_n 1, 1) := by decide +kernel
theorem dJ1_charAt_3b067_1 : decode cJ1_charAt_3b067 1 = .ok (.aload_n 0, 1) := by decide +kernel
theorem dJ1_charAt_3b067_2 : decode cJ1_charAt_3b067 2 = .ok (.arraylength, 1) := by decide +kernel
theorem dJ1_charAt_3b067_3 : decode cJ1_charAt_3b067 3 = .ok (.invokestatic 9, 3) := by decide +kernel
theorem dJ1_charAt_3b067_6 : decode cJ1_charAt_3b067 6 = .ok (.aload_n 0, 1) := by decide +kernel
theorem dJ1_charAt_3b067_7 : decode cJ1_charAt_3b067 7 = .ok (.iload_n 1, 1) := by decide +kernel
theorem dJ1_charAt_3b067_8 : decode cJ1_charAt_3b067 8 = .ok (.baload, 1) := by decide +kernel
theorem dJ1_charAt_3b067_9 : decode cJ1_charAt_3b067 9 = .ok (.sipush 255, 3) := by decide +kernel
theorem dJ1_charAt_3b067_12 : decode cJ1_charAt_3b067 12 = .ok (.iand, 1) := by decide +kernel
end
section
theorem dJ1_charAt_3b067_13 : decode cJ1_charAt_3b067 13 = .ok (.i2c, 1) := by decide +kernel
theorem dJ1_charAt_3b067_14 : decode cJ1_charAt_3b067 14 = .ok (.ireturn, 1) := by decide +kernel
theorem dJ1_canEncode_9a6ad_0 : decode cJ1_canEncode_9a6ad 0 = .ok (.iload_n 0, 1) := by decide +kernel
theorem dJ1_canEncode_9a6ad_1 : decode cJ1_canEncode_9a6ad 1 = .ok (.ifCond .lt 14, 3) := by decide +kernel
theorem dJ1_canEncode_9a6ad_4 : decode cJ1_canEncode_9a6ad 4 = .ok (.iload_n 0, 1) := by decide +kernel
theorem dJ1_canEncode_9a6ad_5 : decode cJ1_canEncode_9a6ad 5 = .ok (.sipush 255, 3) := by decide +kernel
theorem dJ1_canEncode_9a6ad_8 : decode cJ1_canEncode_9a6ad 8 = .ok (.if_icmp .gt 7, 3) := by decide +kernel
theorem dJ1_canEncode_9a6ad_11 : decode cJ1_canEncode_9a6ad 11 = .ok (.iconst 1, 1) := by decide +kernel
theorem dJ1_canEncode_9a6ad_12 : decode cJ1_canEncode_9a6ad 12 = .ok (.goto 4, 3) := by decide +kernel
theorem dJ1_canEncode_9a6ad_15 : decode cJ1_canEncode_9a6ad 15 = .ok (.iconst 0, 1) := by decide +kernel
theorem dJ1_canEncode_9a6ad_16 : decode cJ1_canEncode_9a6ad 16 = .ok (.ireturn, 1) := by decide +kernel
theorem dJ1_indexOf_4cfef_0 : decode cJ1_indexOf_4cfef 0 = .ok (.iload_n 1, 1) := by decide +kernel
theorem dJ1_indexOf_4cfef_1 : decode cJ1_indexOf_4cfef 1 = .ok (.invokestatic 88, 3) := by decide +kernel
theorem dJ1_indexOf_4cfef_4 : decode cJ1_indexOf_4cfef 4 = .ok (.ifCond .ne 5, 3) := by decide +kernel
theorem dJ1_indexOf_4cfef_7 : decode cJ1_indexOf_4cfef 7 = .ok (.iconst (-1), 1) := by decide +kernel
theorem dJ1_indexOf_4cfef_8 : decode cJ1_indexOf_4cfef 8 = .ok (.ireturn, 1) := by decide +kernel
theorem dJ1_indexOf_4cfef_9 : decode cJ1_indexOf_4cfef 9 = .ok (.iload_n 2, 1) := by decide +kernel
theorem dJ1_indexOf_4cfef_10 : decode cJ1_indexOf_4cfef 10 = .ok (.iconst 0, 1) := by decide +kernel
theorem dJ1_indexOf_4cfef_11 : decode cJ1_indexOf_4cfef 11 = .ok (.invokestatic 92, 3) := by decide +kernel
theorem dJ1_indexOf_4cfef_14 : decode cJ1_indexOf_4cfef 14 = .ok (.istore_n 2, 1) := by decide +kernel
theorem dJ1_indexOf_4cfef_15 : decode cJ1_indexOf_4cfef 15 = .ok (.iload_n 3, 1) := by decide +kernel
theorem dJ1_indexOf_4cfef_16 : decode cJ1_indexOf_4cfef 16 = .ok (.aload_n 0, 1) := by decide +kernel
theorem dJ1_indexOf_4cfef_17 : decode cJ1_indexOf_4cfef 17 = .ok (.arraylength, 1) := by decide +kernel
theorem dJ1_indexOf_4cfef_18 : decode cJ1_indexOf_4cfef 18 = .ok (.invokestatic 38, 3) := by decide +kernel
theorem dJ1_indexOf_4cfef_21 : decode cJ1_indexOf_4cfef 21 = .ok (.istore_n 3, 1) := by decide +kernel
theorem dJ1_indexOf_4cfef_22 : decode cJ1_indexOf_4cfef 22 = .ok (.iload_n 2, 1) := by decide +kernel
theorem dJ1_indexOf_4cfef_23 : decode cJ1_indexOf_4cfef 23 = .ok (.iload_n 3, 1) := by decide +kernel
theorem dJ1_indexOf_4cfef_24 : decode cJ1_indexOf_4cfef 24 = .ok (.if_icmp .lt 5, 3) := by decide +kernel
theorem dJ1_indexOf_4cfef_27 : decode cJ1_indexOf_4cfef 27 = .ok (.iconst (-1), 1) := by decide +kernel
theorem dJ1_indexOf_4cfef_28 : decode cJ1_indexOf_4cfef 28 = .ok (.ireturn, 1) := by decide +kernel
theorem dJ1_indexOf_4cfef_29 : decode cJ1_indexOf_4cfef 29 = .ok (.aload_n 0, 1) := by decide +kernel
theorem dJ1_indexOf_4cfef_30 : decode cJ1_indexOf_4cfef 30 = .ok (.iload_n 1, 1) := by decide +kernel
theorem dJ1_indexOf_4cfef_31 : decode cJ1_indexOf_4cfef 31 = .ok (.iload_n 2, 1) := by decide +kernel
theorem dJ1_indexOf_4cfef_32 : decode cJ1_indexOf_4cfef 32 = .ok (.iload_n 3, 1) := by decide +kernel
theorem dJ1_indexOf_4cfef_33 : decode cJ1_indexOf_4cfef 33 = .ok (.invokestatic 95, 3) := by decide +kernel
theorem dJ1_indexOf_4cfef_36 : decode cJ1_indexOf_4cfef 36 = .ok (.ireturn, 1) := by decide +kernel
theorem dJ1_indexOfChar_4cfef_0 : decode cJ1_indexOfChar_4cfef 0 = .ok (.iload_n 1, 1) := by decide +kernel
theorem dJ1_indexOfChar_4cfef_1 : decode cJ1_indexOfChar_4cfef 1 = .ok (.i2b, 1) := by decide +kernel
theorem dJ1_indexOfChar_4cfef_2 : decode cJ1_indexOfChar_4cfef 2 = .ok (.istore 4, 2) := by decide +kernel
theorem dJ1_indexOfChar_4cfef_4 : decode cJ1_indexOfChar_4cfef 4 = .ok (.iload_n 2, 1) := by decide +kernel
theorem dJ1_indexOfChar_4cfef_5 : decode cJ1_indexOfChar_4cfef 5 = .ok (.istore 5, 2) := by decide +kernel
theorem dJ1_indexOfChar_4cfef_7 : decode cJ1_indexOfChar_4cfef 7 = .ok (.iload 5, 2) := by decide +kernel
theorem dJ1_indexOfChar_4cfef_9 : decode cJ1_indexOfChar_4cfef 9 = .ok (.iload_n 3, 1) := by decide +kernel
theorem dJ1_indexOfChar_4cfef_10 : decode cJ1_indexOfChar_4cfef 10 = .ok (.if_icmp .ge 21, 3) := by decide +kernel
theorem dJ1_indexOfChar_4cfef_13 : decode cJ1_indexOfChar_4cfef 13 = .ok (.aload_n 0, 1) := by decide +kernel
theorem dJ1_indexOfChar_4cfef_14 : decode cJ1_indexOfChar_4cfef 14 = .ok (.iload 5, 2) := by decide +kernel
theorem dJ1_indexOfChar_4cfef_16 : decode cJ1_indexOfChar_4cfef 16 = .ok (.baload, 1) := by decide +kernel
theorem dJ1_indexOfChar_4cfef_17 : decode cJ1_indexOfChar_4cfef 17 = .ok (.iload 4, 2) := by decide +kernel
theorem dJ1_indexOfChar_4cfef_19 : decode cJ1_indexOfChar_4cfef 19 = .ok (.if_icmp .ne 6, 3) := by decide +kernel
theorem dJ1_indexOfChar_4cfef_22 : decode cJ1_indexOfChar_4cfef 22 = .ok (.iload 5, 2) := by decide +kernel
theorem dJ1_indexOfChar_4cfef_24 : decode cJ1_indexOfChar_4cfef 24 = .ok (.ireturn, 1) := by decide +kernel
theorem dJ1_indexOfChar_4cfef_25 : decode cJ1_indexOfChar_4cfef 25 = .ok (.iinc 5 1, 3) := by decide +kernel
theorem dJ1_indexOfChar_4cfef_28 : decode cJ1_indexOfChar_4cfef 28 = .ok (.goto (-21), 3) := by decide +kernel
theorem dJ1_indexOfChar_4cfef_31 : decode cJ1_indexOfChar_4cfef 31 = .ok (.iconst (-1), 1) := by decide +kernel
theorem dJ1_indexOfChar_4cfef_32 : decode cJ1_indexOfChar_4cfef 32 = .ok (.ireturn, 1) := by decide +kernel
theorem dJ2_getChar_3b067_0 : decode cJ2_getChar_3b067 0 = .ok (.getstatic 44, 3) := by decide +kernel
theorem dJ2_getChar_3b067_3 : decode cJ2_getChar_3b067 3 = .ok (.ifCond .ne 25, 3) := by decide +kernel
theorem dJ2_getChar_3b067_6 : decode cJ2_getChar_3b067 6 = .ok (.iload_n 1, 1) := by decide +kernel
theorem dJ2_getChar_3b067_7 : decode cJ2_getChar_3b067 7 = .ok (.ifCond .lt 11, 3) := by decide +kernel
theorem dJ2_getChar_3b067_10 : decode cJ2_getChar_3b067 10 = .ok (.iload_n 1, 1) := by decide +kernel
theorem dJ2_getChar_3b067_11 : decode cJ2_getChar_3b067 11 = .ok (.aload_n 0, 1) := by decide +kernel
theorem dJ2_getChar_3b067_12 : decode cJ2_getChar_3b067 12 = .ok (.invokestatic 48, 3) := by decide +kernel
theorem dJ2_getChar_3b067_15 : decode cJ2_getChar_3b067 15 = .ok (.if_icmp .lt 13, 3) := by decide +kernel
theorem dJ2_getChar_3b067_18 : decode cJ2_getChar_3b067 18 = .ok (.new 52, 3) := by decide +kernel
theorem dJ2_getChar_3b067_21 : decode cJ2_getChar_3b067 21 = .ok (.dup, 1) := by decide +kernel
theorem dJ2_getChar_3b067_22 : decode cJ2_getChar_3b067 22 = .ok (.ldc 54, 2) := by decide +kernel
theorem dJ2_getChar_3b067_24 : decode cJ2_getChar_3b067 24 = .ok (.invokespecial 56, 3) := by decide +kernel
theorem dJ2_getChar_3b067_27 : decode cJ2_getChar_3b067 27 = .ok (.athrow, 1) := by decide +kernel
theorem dJ2_getChar_3b067_28 : decode cJ2_getChar_3b067 28 = .ok (.iload_n 1, 1) := by decide +kernel
theorem dJ2_getChar_3b067_29 : decode cJ2_getChar_3b067 29 = .ok (.iconst 1, 1) := by decide +kernel
theorem dJ2_getChar_3b067_30 : decode cJ2_getChar_3b067 30 = .ok (.ishl, 1) := by decide +kernel
theorem dJ2_getChar_3b067_31 : decode cJ2_getChar_3b067 31 = .ok (.istore_n 1, 1) := by decide +kernel
theorem dJ2_getChar_3b067_32 : decode cJ2_getChar_3b067 32 = .ok (.aload_n 0, 1) := by decide +kernel
theorem dJ2_getChar_3b067_33 : decode cJ2_getChar_3b067 33 = .ok (.iload_n 1, 1) := by decide +kernel
theorem dJ2_getChar_3b067_34 : decode cJ2_getChar_3b067 34 = .ok (.iinc 1 1, 3) := by decide +kernel
theorem dJ2_getChar_3b067_37 : decode cJ2_getChar_3b067 37 = .ok (.baload, 1) := by decide +kernel
theorem dJ2_getChar_3b067_38 : decode cJ2_getChar_3b067 38 = .ok (.sipush 255, 3) := by decide +kernel
theorem dJ2_getChar_3b067_41 : decode cJ2_getChar_3b067 41 = .ok (.iand, 1) := by decide +kernel
theorem dJ2_getChar_3b067_42 : decode cJ2_getChar_3b067 42 = .ok (.getstatic 59, 3) := by decide +kernel
theorem dJ2_getChar_3b067_45 : decode cJ2_getChar_3b067 45 = .ok (.ishl, 1) := by decide +kernel
theorem dJ2_getChar_3b067_46 : decode cJ2_getChar_3b067 46 = .ok (.aload_n 0, 1) := by decide +kernel
theorem dJ2_getChar_3b067_47 : decode cJ2_getChar_3b067 47 = .ok (.iload_n 1, 1) := by decide +kernel
theorem dJ2_getChar_3b067_48 : decode cJ2_getChar_3b067 48 = .ok (.baload, 1) := by decide +kernel
theorem dJ2_getChar_3b067_49 : decode cJ2_getChar_3b067 49 = .ok (.sipush 255, 3) := by decide +kernel
theorem dJ2_getChar_3b067_52 : decode cJ2_getChar_3b067 52 = .ok (.iand, 1) := by decide +kernel
theorem dJ2_getChar_3b067_53 : decode cJ2_getChar_3b067 53 = .ok (.getstatic 63, 3) := by decide +kernel
theorem dJ2_getChar_3b067_56 : decode cJ2_getChar_3b067 56 = .ok (.ishl, 1) := by decide +kernel
theorem dJ2_getChar_3b067_57 : decode cJ2_getChar_3b067 57 = .ok (.ior, 1) := by decide +kernel
theorem dJ2_getChar_3b067_58 : decode cJ2_getChar_3b067 58 = .ok (.i2c, 1) := by decide +kernel
theorem dJ2_getChar_3b067_59 : decode cJ2_getChar_3b067 59 = .ok (.ireturn, 1) := by decide +kernel
theorem dJ2_length_9d52b_0 : decode cJ2_length_9d52b 0 = .ok (.aload_n 0, 1) := by decide +kernel
theorem dJ2_length_9d52b_1 : decode cJ2_length_9d52b 1 = .ok (.arraylength, 1) := by decide +kernel
theorem dJ2_length_9d52b_2 : decode cJ2_length_9d52b 2 = .ok (.iconst 1, 1) := by decide +kernel
theorem dJ2_length_9d52b_3 : decode cJ2_length_9d52b 3 = .ok (.ishr, 1) := by decide +kernel
theorem dJ2_length_9d52b_4 : decode cJ2_length_9d52b 4 = .ok (.ireturn, 1) := by decide +kernel
theorem dJ2_indexOf_4cfef_0 : decode cJ2_indexOf_4cfef 0 = .ok (.iload_n 2, 1) := by decide +kernel
theorem dJ2_indexOf_4cfef_1 : decode cJ2_indexOf_4cfef 1 = .ok (.iconst 0, 1) := by decide +kernel
theorem dJ2_indexOf_4cfef_2 : decode cJ2_indexOf_4cfef 2 = .ok (.invokestatic 224, 3) := by decide +kernel
theorem dJ2_indexOf_4cfef_5 : decode cJ2_indexOf_4cfef 5 = .ok (.istore_n 2, 1) := by decide +kernel
theorem dJ2_indexOf_4cfef_6 : decode cJ2_indexOf_4cfef 6 = .ok (.iload_n 3, 1) := by decide +kernel
theorem dJ2_indexOf_4cfef_7 : decode cJ2_indexOf_4cfef 7 = .ok (.aload_n 0, 1) := by decide +kernel
theorem dJ2_indexOf_4cfef_8 : decode cJ2_indexOf_4cfef 8 = .ok (.arraylength, 1) := by decide +kernel
theorem dJ2_indexOf_4cfef_9 : decode cJ2_indexOf_4cfef 9 = .ok (.iconst 1, 1) := by decide +kernel
theorem dJ2_indexOf_4cfef_10 : decode cJ2_indexOf_4cfef 10 = .ok (.ishr, 1) := by decide +kernel
theorem dJ2_indexOf_4cfef_11 : decode cJ2_indexOf_4cfef 11 = .ok (.invokestatic 183, 3) := by decide +kernel
theorem dJ2_indexOf_4cfef_14 : decode cJ2_indexOf_4cfef 14 = .ok (.istore_n 3, 1) := by decide +kernel
theorem dJ2_indexOf_4cfef_15 : decode cJ2_indexOf_4cfef 15 = .ok (.iload_n 2, 1) := by decide +kernel
theorem dJ2_indexOf_4cfef_16 : decode cJ2_indexOf_4cfef 16 = .ok (.iload_n 3, 1) := by decide +kernel
theorem dJ2_indexOf_4cfef_17 : decode cJ2_indexOf_4cfef 17 = .ok (.if_icmp .lt 5, 3) := by decide +kernel
theorem dJ2_indexOf_4cfef_20 : decode cJ2_indexOf_4cfef 20 = .ok (.iconst (-1), 1) := by decide +kernel
theorem dJ2_indexOf_4cfef_21 : decode cJ2_indexOf_4cfef 21 = .ok (.ireturn, 1) := by decide +kernel
theorem dJ2_indexOf_4cfef_22 : decode cJ2_indexOf_4cfef 22 = .ok (.iload_n 1, 1) := by decide +kernel
theorem dJ2_indexOf_4cfef_23 : decode cJ2_indexOf_4cfef 23 = .ok (.ldc 227, 2) := by decide +kernel
theorem dJ2_indexOf_4cfef_25 : decode cJ2_indexOf_4cfef 25 = .ok (.if_icmp .ge 11, 3) := by decide +kernel
theorem dJ2_indexOf_4cfef_28 : decode cJ2_indexOf_4cfef 28 = .ok (.aload_n 0, 1) := by decide +kernel
theorem dJ2_indexOf_4cfef_29 : decode cJ2_indexOf_4cfef 29 = .ok (.iload_n 1, 1) := by decide +kernel
theorem dJ2_indexOf_4cfef_30 : decode cJ2_indexOf_4cfef 30 = .ok (.iload_n 2, 1) := by decide +kernel
theorem dJ2_indexOf_4cfef_31 : decode cJ2_indexOf_4cfef 31 = .ok (.iload_n 3, 1) := by decide +kernel
theorem dJ2_indexOf_4cfef_32 : decode cJ2_indexOf_4cfef 32 = .ok (.invokestatic 228, 3) := by decide +kernel
theorem dJ2_indexOf_4cfef_35 : decode cJ2_indexOf_4cfef 35 = .ok (.ireturn, 1) := by decide +kernel
theorem dJ2_indexOf_4cfef_36 : decode cJ2_indexOf_4cfef 36 = .ok (.aload_n 0, 1) := by decide +kernel
theorem dJ2_indexOf_4cfef_37 : decode cJ2_indexOf_4cfef 37 = .ok (.iload_n 1, 1) := by decide +kernel
theorem dJ2_indexOf_4cfef_38 : decode cJ2_indexOf_4cfef 38 = .ok (.iload_n 2, 1) := by decide +kernel
theorem dJ2_indexOf_4cfef_39 : decode cJ2_indexOf_4cfef 39 = .ok (.iload_n 3, 1) := by decide +kernel
theorem dJ2_indexOf_4cfef_40 : decode cJ2_indexOf_4cfef 40 = .ok (.invokestatic 232, 3) := by decide +kernel
theorem dJ2_indexOf_4cfef_43 : decode cJ2_indexOf_4cfef 43 = .ok (.ireturn, 1) := by decide +kernel
theorem dJ2_indexOfChar_4cfef_0 : decode cJ2_indexOfChar_4cfef 0 = .ok (.iload_n 2, 1) := by decide +kernel
theorem dJ2_indexOfChar_4cfef_1 : decode cJ2_indexOfChar_4cfef 1 = .ok (.iload_n 3, 1) := by decide +kernel
theorem dJ2_indexOfChar_4cfef_2 : decode cJ2_indexOfChar_4cfef 2 = .ok (.aload_n 0, 1) := by decide +kernel
theorem dJ2_indexOfChar_4cfef_3 : decode cJ2_indexOfChar_4cfef 3 = .ok (.invokestatic 96, 3) := by decide +kernel
theorem dJ2_indexOfChar_4cfef_6 : decode cJ2_indexOfChar_4cfef 6 = .ok (.aload_n 0, 1) := by decide +kernel
theorem dJ2_indexOfChar_4cfef_7 : decode cJ2_indexOfChar_4cfef 7 = .ok (.iload_n 1, 1) := by decide +kernel
theorem dJ2_indexOfChar_4cfef_8 : decode cJ2_indexOfChar_4cfef 8 = .ok (.iload_n 2, 1) := by decide +kernel
theorem dJ2_indexOfChar_4cfef_9 : decode cJ2_indexOfChar_4cfef 9 = .ok (.iload_n 3, 1) := by decide +kernel
theorem dJ2_indexOfChar_4cfef_10 : decode cJ2_indexOfChar_4cfef 10 = .ok (.invokestatic 244, 3) := by decide +kernel
theorem dJ2_indexOfChar_4cfef_13 : decode cJ2_indexOfChar_4cfef 13 = .ok (.ireturn, 1) := by decide +kernel
theorem dJ2_indexOfCharUnsafe_4cfef_0 : decode cJ2_indexOfCharUnsafe_4cfef 0 = .ok (.iload_n 2, 1) := by decide +kernel
theorem dJ2_indexOfCharUnsafe_4cfef_1 : decode cJ2_indexOfCharUnsafe_4cfef 1 = .ok (.istore 4, 2) := by decide +kernel
theorem dJ2_indexOfCharUnsafe_4cfef_3 : decode cJ2_indexOfCharUnsafe_4cfef 3 = .ok (.iload 4, 2) := by decide +kernel
theorem dJ2_indexOfCharUnsafe_4cfef_5 : decode cJ2_indexOfCharUnsafe_4cfef 5 = .ok (.iload_n 3, 1) := by decide +kernel
theorem dJ2_indexOfCharUnsafe_4cfef_6 : decode cJ2_indexOfCharUnsafe_4cfef 6 = .ok (.if_icmp .ge 22, 3) := by decide +kernel
theorem dJ2_indexOfCharUnsafe_4cfef_9 : decode cJ2_indexOfCharUnsafe_4cfef 9 = .ok (.aload_n 0, 1) := by decide +kernel
theorem dJ2_indexOfCharUnsafe_4cfef_10 : decode cJ2_indexOfCharUnsafe_4cfef 10 = .ok (.iload 4, 2) := by decide +kernel
theorem dJ2_indexOfCharUnsafe_4cfef_12 : decode cJ2_indexOfCharUnsafe_4cfef 12 = .ok (.invokestatic 71, 3) := by decide +kernel
theorem dJ2_indexOfCharUnsafe_4cfef_15 : decode cJ2_indexOfCharUnsafe_4cfef 15 = .ok (.iload_n 1, 1) := by decide +kernel
theorem dJ2_indexOfCharUnsafe_4cfef_16 : decode cJ2_indexOfCharUnsafe_4cfef 16 = .ok (.if_icmp .ne 6, 3) := by decide +kernel
theorem dJ2_indexOfCharUnsafe_4cfef_19 : decode cJ2_indexOfCharUnsafe_4cfef 19 = .ok (.iload 4, 2) := by decide +kernel
theorem dJ2_indexOfCharUnsafe_4cfef_21 : decode cJ2_indexOfCharUnsafe_4cfef 21 = .ok (.ireturn, 1) := by decide +kernel
theorem dJ2_indexOfCharUnsafe_4cfef_22 : decode cJ2_indexOfCharUnsafe_4cfef 22 = .ok (.iinc 4 1, 3) := by decide +kernel
theorem dJ2_indexOfCharUnsafe_4cfef_25 : decode cJ2_indexOfCharUnsafe_4cfef 25 = .ok (.goto (-22), 3) := by decide +kernel
theorem dJ2_indexOfCharUnsafe_4cfef_28 : decode cJ2_indexOfCharUnsafe_4cfef 28 = .ok (.iconst (-1), 1) := by decide +kernel
theorem dJ2_indexOfCharUnsafe_4cfef_29 : decode cJ2_indexOfCharUnsafe_4cfef 29 = .ok (.ireturn, 1) := by decide +kernel
theorem dJ2_indexOfSupplementary_4cfef_0 : decode cJ2_indexOfSupplementary_4cfef 0 = .ok (.iload_n 1, 1) := by decide +kernel
theorem dJ2_indexOfSupplementary_4cfef_1 : decode cJ2_indexOfSupplementary_4cfef 1 = .ok (.invokestatic 164, 3) := by decide +kernel
theorem dJ2_indexOfSupplementary_4cfef_4 : decode cJ2_indexOfSupplementary_4cfef 4 = .ok (.ifCond .eq 65, 3) := by decide +kernel
theorem dJ2_indexOfSupplementary_4cfef_7 : decode cJ2_indexOfSupplementary_4cfef 7 = .ok (.iload_n 1, 1) := by decide +kernel
theorem dJ2_indexOfSupplementary_4cfef_8 : decode cJ2_indexOfSupplementary_4cfef 8 = .ok (.invokestatic 157, 3) := by decide +kernel
theorem dJ2_indexOfSupplementary_4cfef_11 : decode cJ2_indexOfSupplementary_4cfef 11 = .ok (.istore 4, 2) := by decide +kernel
theorem dJ2_indexOfSupplementary_4cfef_13 : decode cJ2_indexOfSupplementary_4cfef 13 = .ok (.iload_n 1, 1) := by decide +kernel
theorem dJ2_indexOfSupplementary_4cfef_14 : decode cJ2_indexOfSupplementary_4cfef 14 = .ok (.invokestatic 161, 3) := by decide +kernel
theorem dJ2_indexOfSupplementary_4cfef_17 : decode cJ2_indexOfSupplementary_4cfef 17 = .ok (.istore 5, 2) := by decide +kernel
theorem dJ2_indexOfSupplementary_4cfef_19 : decode cJ2_indexOfSupplementary_4cfef 19 = .ok (.iload_n 2, 1) := by decide +kernel
theorem dJ2_indexOfSupplementary_4cfef_20 : decode cJ2_indexOfSupplementary_4cfef 20 = .ok (.iload_n 3, 1) := by decide +kernel
theorem dJ2_indexOfSupplementary_4cfef_21 : decode cJ2_indexOfSupplementary_4cfef 21 = .ok (.aload_n 0, 1) := by decide +kernel
theorem dJ2_indexOfSupplementary_4cfef_22 : decode cJ2_indexOfSupplementary_4cfef 22 = .ok (.invokestatic 96, 3) := by decide +kernel
theorem dJ2_indexOfSupplementary_4cfef_25 : decode cJ2_indexOfSupplementary_4cfef 25 = .ok (.iload_n 2, 1) := by decide +kernel
theorem dJ2_indexOfSupplementary_4cfef_26 : decode cJ2_indexOfSupplementary_4cfef 26 = .ok (.istore 6, 2) := by decide +kernel
theorem dJ2_indexOfSupplementary_4cfef_28 : decode cJ2_indexOfSupplementary_4cfef 28 = .ok (.iload 6, 2) := by decide +kernel
theorem dJ2_indexOfSupplementary_4cfef_30 : decode cJ2_indexOfSupplementary_4cfef 30 = .ok (.iload_n 3, 1) := by decide +kernel
theorem dJ2_indexOfSupplementary_4cfef_31 : decode cJ2_indexOfSupplementary_4cfef 31 = .ok (.iconst 1, 1) := by decide +kernel
theorem dJ2_indexOfSupplementary_4cfef_32 : decode cJ2_indexOfSupplementary_4cfef 32 = .ok (.isub, 1) := by decide +kernel
theorem dJ2_indexOfSupplementary_4cfef_33 : decode cJ2_indexOfSupplementary_4cfef 33 = .ok (.if_icmp .ge 36, 3) := by decide +kernel
theorem dJ2_indexOfSupplementary_4cfef_36 : decode cJ2_indexOfSupplementary_4cfef 36 = .ok (.aload_n 0, 1) := by decide +kernel
theorem dJ2_indexOfSupplementary_4cfef_37 : decode cJ2_indexOfSupplementary_4cfef 37 = .ok (.iload 6, 2) := by decide +kernel
theorem dJ2_indexOfSupplementary_4cfef_39 : decode cJ2_indexOfSupplementary_4cfef 39 = .ok (.invokestatic 71, 3) := by decide +kernel
theorem dJ2_indexOfSupplementary_4cfef_42 : decode cJ2_indexOfSupplementary_4cfef 42 = .ok (.iload 4, 2) := by decide +kernel
theorem dJ2_indexOfSupplementary_4cfef_44 : decode cJ2_indexOfSupplementary_4cfef 44 = .ok (.if_icmp .ne 19, 3) := by decide +kernel
theorem dJ2_indexOfSupplementary_4cfef_47 : decode cJ2_indexOfSupplementary_4cfef 47 = .ok (.aload_n 0, 1) := by decide +kernel
theorem dJ2_indexOfSupplementary_4cfef_48 : decode cJ2_indexOfSupplementary_4cfef 48 = .ok (.iload 6, 2) := by decide +kernel
theorem dJ2_indexOfSupplementary_4cfef_50 : decode cJ2_indexOfSupplementary_4cfef 50 = .ok (.iconst 1, 1) := by decide +kernel
theorem dJ2_indexOfSupplementary_4cfef_51 : decode cJ2_indexOfSupplementary_4cfef 51 = .ok (.iadd, 1) := by decide +kernel
theorem dJ2_indexOfSupplementary_4cfef_52 : decode cJ2_indexOfSupplementary_4cfef 52 = .ok (.invokestatic 71, 3) := by decide +kernel
theorem dJ2_indexOfSupplementary_4cfef_55 : decode cJ2_indexOfSupplementary_4cfef 55 = .ok (.iload 5, 2) := by decide +kernel
theorem dJ2_indexOfSupplementary_4cfef_57 : decode cJ2_indexOfSupplementary_4cfef 57 = .ok (.if_icmp .ne 6, 3) := by decide +kernel
theorem dJ2_indexOfSupplementary_4cfef_60 : decode cJ2_indexOfSupplementary_4cfef 60 = .ok (.iload 6, 2) := by decide +kernel
theorem dJ2_indexOfSupplementary_4cfef_62 : decode cJ2_indexOfSupplementary_4cfef 62 = .ok (.ireturn, 1) := by decide +kernel
theorem dJ2_indexOfSupplementary_4cfef_63 : decode cJ2_indexOfSupplementary_4cfef 63 = .ok (.iinc 6 1, 3) := by decide +kernel
theorem dJ2_indexOfSupplementary_4cfef_66 : decode cJ2_indexOfSupplementary_4cfef 66 = .ok (.goto (-38), 3) := by decide +kernel
theorem dJ2_indexOfSupplementary_4cfef_69 : decode cJ2_indexOfSupplementary_4cfef 69 = .ok (.iconst (-1), 1) := by decide +kernel
theorem dJ2_indexOfSupplementary_4cfef_70 : decode cJ2_indexOfSupplementary_4cfef 70 = .ok (.ireturn, 1) := by decide +kernel
theorem dJ2_charAt_3b067_0 : decode cJ2_charAt_3b067 0 = .ok (.iload_n 1, 1) := by decide +kernel
theorem dJ2_charAt_3b067_1 : decode cJ2_charAt_3b067 1 = .ok (.aload_n 0, 1) := by decide +kernel
theorem dJ2_charAt_3b067_2 : decode cJ2_charAt_3b067 2 = .ok (.invokestatic 67, 3) := by decide +kernel
theorem dJ2_charAt_3b067_5 : decode cJ2_charAt_3b067 5 = .ok (.aload_n 0, 1) := by decide +kernel
theorem dJ2_charAt_3b067_6 : decode cJ2_charAt_3b067 6 = .ok (.iload_n 1, 1) := by decide +kernel
theorem dJ2_charAt_3b067_7 : decode cJ2_charAt_3b067 7 = .ok (.invokestatic 71, 3) := by decide +kernel
theorem dJ2_charAt_3b067_10 : decode cJ2_charAt_3b067 10 = .ok (.ireturn, 1) := by decide +kernel
theorem dJ2_checkIndex_2214a_0 : decode cJ2_checkIndex_2214a 0 = .ok (.iload_n 0, 1) := by decide +kernel
theorem dJ2_checkIndex_2214a_1 : decode cJ2_checkIndex_2214a 1 = .ok (.aload_n 1, 1) := by decide +kernel
theorem dJ2_checkIndex_2214a_2 : decode cJ2_checkIndex_2214a 2 = .ok (.invokestatic 48, 3) := by decide +kernel
theorem dJ2_checkIndex_2214a_5 : decode cJ2_checkIndex_2214a 5 = .ok (.invokestatic 414, 3) := by decide +kernel
theorem dJ2_checkIndex_2214a_8 : decode cJ2_checkIndex_2214a 8 = .ok (.return_, 1) := by decide +kernel
theorem dJ2_checkBoundsBeginEnd_d044e_0 : decode cJ2_checkBoundsBeginEnd_d044e 0 = .ok (.iload_n 0, 1) := by decide +kernel
theorem dJ2_checkBoundsBeginEnd_d044e_1 : decode cJ2_checkBoundsBeginEnd_d044e 1 = .ok (.iload_n 1, 1) := by decide +kernel
theorem dJ2_checkBoundsBeginEnd_d044e_2 : decode cJ2_checkBoundsBeginEnd_d044e 2 = .ok (.aload_n 2, 1) := by decide +kernel
theorem dJ2_checkBoundsBeginEnd_d044e_3 : decode cJ2_checkBoundsBeginEnd_d044e 3 = .ok (.invokestatic 48, 3) := by decide +kernel
theorem dJ2_checkBoundsBeginEnd_d044e_6 : decode cJ2_checkBoundsBeginEnd_d044e 6 = .ok (.invokestatic 241, 3) := by decide +kernel
theorem dJ2_checkBoundsBeginEnd_d044e_9 : decode cJ2_checkBoundsBeginEnd_d044e 9 = .ok (.return_, 1) := by decide +kernel
theorem dJ3_checkIndex_8e157_0 : decode cJ3_checkIndex_8e157 0 = .ok (.iload_n 0, 1) := by decide +kernel
theorem dJ3_checkIndex_8e157_1 : decode cJ3_checkIndex_8e157 1 = .ok (.ifCond .lt 8, 3) := by decide +kernel
theorem dJ3_checkIndex_8e157_4 : decode cJ3_checkIndex_8e157 4 = .ok (.iload_n 0, 1) := by decide +kernel
theorem dJ3_checkIndex_8e157_5 : decode cJ3_checkIndex_8e157 5 = .ok (.iload_n 1, 1) := by decide +kernel
theorem dJ3_checkIndex_8e157_6 : decode cJ3_checkIndex_8e157 6 = .ok (.if_icmp .lt 10, 3) := by decide +kernel
theorem dJ3_checkIndex_8e157_9 : decode cJ3_checkIndex_8e157 9 = .ok (.aload_n 2, 1) := by decide +kernel
theorem dJ3_checkIndex_8e157_10 : decode cJ3_checkIndex_8e157 10 = .ok (.iload_n 0, 1) := by decide +kernel
theorem dJ3_checkIndex_8e157_11 : decode cJ3_checkIndex_8e157 11 = .ok (.iload_n 1, 1) := by decide +kernel
theorem dJ3_checkIndex_8e157_12 : decode cJ3_checkIndex_8e157 12 = .ok (.invokestatic 95, 3) := by decide +kernel
theorem dJ3_checkIndex_8e157_15 : decode cJ3_checkIndex_8e157 15 = .ok (.athrow, 1) := by decide +kernel
theorem dJ3_checkIndex_8e157_16 : decode cJ3_checkIndex_8e157 16 = .ok (.iload_n 0, 1) := by decide +kernel
theorem dJ3_checkIndex_8e157_17 : decode cJ3_checkIndex_8e157 17 = .ok (.ireturn, 1) := by decide +kernel
theorem dJ3_checkFromToIndex_8c36e_0 : decode cJ3_checkFromToIndex_8c36e 0 = .ok (.iload_n 0, 1) := by decide +kernel
theorem dJ3_checkFromToIndex_8c36e_1 : decode cJ3_checkFromToIndex_8c36e 1 = .ok (.ifCond .lt 13, 3) := by decide +kernel
theorem dJ3_checkFromToIndex_8c36e_4 : decode cJ3_checkFromToIndex_8c36e 4 = .ok (.iload_n 0, 1) := by decide +kernel
theorem dJ3_checkFromToIndex_8c36e_5 : decode cJ3_checkFromToIndex_8c36e 5 = .ok (.iload_n 1, 1) := by decide +kernel
theorem dJ3_checkFromToIndex_8c36e_6 : decode cJ3_checkFromToIndex_8c36e 6 = .ok (.if_icmp .gt 8, 3) := by decide +kernel
theorem dJ3_checkFromToIndex_8c36e_9 : decode cJ3_checkFromToIndex_8c36e 9 = .ok (.iload_n 1, 1) := by decide +kernel
theorem dJ3_checkFromToIndex_8c36e_10 : decode cJ3_checkFromToIndex_8c36e 10 = .ok (.iload_n 2, 1) := by decide +kernel
theorem dJ3_checkFromToIndex_8c36e_11 : decode cJ3_checkFromToIndex_8c36e 11 = .ok (.if_icmp .le 11, 3) := by decide +kernel
theorem dJ3_checkFromToIndex_8c36e_14 : decode cJ3_checkFromToIndex_8c36e 14 = .ok (.aload_n 3, 1) := by decide +kernel
theorem dJ3_checkFromToIndex_8c36e_15 : decode cJ3_checkFromToIndex_8c36e 15 = .ok (.iload_n 0, 1) := by decide +kernel
theorem dJ3_checkFromToIndex_8c36e_16 : decode cJ3_checkFromToIndex_8c36e 16 = .ok (.iload_n 1, 1) := by decide +kernel
theorem dJ3_checkFromToIndex_8c36e_17 : decode cJ3_checkFromToIndex_8c36e 17 = .ok (.iload_n 2, 1) := by decide +kernel
theorem dJ3_checkFromToIndex_8c36e_18 : decode cJ3_checkFromToIndex_8c36e 18 = .ok (.invokestatic 99, 3) := by decide +kernel
theorem dJ3_checkFromToIndex_8c36e_21 : decode cJ3_checkFromToIndex_8c36e 21 = .ok (.athrow, 1) := by decide +kernel
theorem dJ3_checkFromToIndex_8c36e_22 : decode cJ3_checkFromToIndex_8c36e 22 = .ok (.iload_n 0, 1) := by decide +kernel
theorem dJ3_checkFromToIndex_8c36e_23 : decode cJ3_checkFromToIndex_8c36e 23 = .ok (.ireturn, 1) := by decide +kernel
theorem dL_law_0 : decode cL_law 0 = .ok (.new 7, 3) := by decide +kernel
theorem dL_law_3 : decode cL_law 3 = .ok (.dup, 1) := by decide +kernel
theorem dL_law_4 : decode cL_law 4 = .ok (.invokespecial 9, 3) := by decide +kernel
theorem dL_law_7 : decode cL_law 7 = .ok (.astore_n 1, 1) := by decide +kernel
theorem dL_law_8 : decode cL_law 8 = .ok (.new 10, 3) := by decide +kernel
theorem dL_law_11 : decode cL_law 11 = .ok (.dup, 1) := by decide +kernel
theorem dL_law_12 : decode cL_law 12 = .ok (.invokespecial 12, 3) := by decide +kernel
theorem dL_law_15 : decode cL_law 15 = .ok (.astore_n 2, 1) := by decide +kernel
theorem dL_law_16 : decode cL_law 16 = .ok (.iconst 0, 1) := by decide +kernel
theorem dL_law_17 : decode cL_law 17 = .ok (.istore_n 3, 1) := by decide +kernel
theorem dL_law_18 : decode cL_law 18 = .ok (.iload_n 3, 1) := by decide +kernel
theorem dL_law_19 : decode cL_law 19 = .ok (.aload_n 0, 1) := by decide +kernel
theorem dL_law_20 : decode cL_law 20 = .ok (.arraylength, 1) := by decide +kernel
theorem dL_law_21 : decode cL_law 21 = .ok (.bipush 6, 2) := by decide +kernel
theorem dL_law_23 : decode cL_law 23 = .ok (.isub, 1) := by decide +kernel
theorem dL_law_24 : decode cL_law 24 = .ok (.if_icmp .gt 1350, 3) := by decide +kernel
theorem dL_law_27 : decode cL_law 27 = .ok (.aload_n 0, 1) := by decide +kernel
theorem dL_law_28 : decode cL_law 28 = .ok (.iload_n 3, 1) := by decide +kernel
theorem dL_law_29 : decode cL_law 29 = .ok (.iaload, 1) := by decide +kernel
theorem dL_law_30 : decode cL_law 30 = .ok (.bipush 63, 2) := by decide +kernel
theorem dL_law_32 : decode cL_law 32 = .ok (.iand, 1) := by decide +kernel
theorem dL_law_33 : decode cL_law 33 = .ok (.tableswitch 1335 0 39 #[175, 208, 241, 274, 307, 340, 383, 406, 429, 462, 485, 498, 521, 534, 577, 600, 643, 686, 709, 742, 755, 768, 811, 834, 847, 880, 903, 946, 989, 1012, 1035, 1098, 1141, 1174, 1207, 1240, 1263, 1286, 1299, 1312], 175) := by decide +kernel
theorem dL_law_208 : decode cL_law 208 = .ok (.aload_n 1, 1) := by decide +kernel
theorem dL_law_209 : decode cL_law 209 = .ok (.aload_n 0, 1) := by decide +kernel
theorem dL_law_210 : decode cL_law 210 = .ok (.iload_n 3, 1) := by decide +kernel
theorem dL_law_211 : decode cL_law 211 = .ok (.iconst 1, 1) := by decide +kernel
theorem dL_law_212 : decode cL_law 212 = .ok (.iadd, 1) := by decide +kernel
theorem dL_law_213 : decode cL_law 213 = .ok (.iaload, 1) := by decide +kernel
theorem dL_law_214 : decode cL_law 214 = .ok (.aload_n 0, 1) := by decide +kernel
theorem dL_law_215 : decode cL_law 215 = .ok (.iload_n 3, 1) := by decide +kernel
theorem dL_law_216 : decode cL_law 216 = .ok (.iconst 2, 1) := by decide +kernel
theorem dL_law_217 : decode cL_law 217 = .ok (.iadd, 1) := by decide +kernel
theorem dL_law_218 : decode cL_law 218 = .ok (.iaload, 1) := by decide +kernel
theorem dL_law_219 : decode cL_law 219 = .ok (.invokevirtual 13, 3) := by decide +kernel
theorem dL_law_222 : decode cL_law 222 = .ok (.aload_n 2, 1) := by decide +kernel
theorem dL_law_223 : decode cL_law 223 = .ok (.aload_n 0, 1) := by decide +kernel
theorem dL_law_224 : decode cL_law 224 = .ok (.iload_n 3, 1) := by decide +kernel
theorem dL_law_225 : decode cL_law 225 = .ok (.iconst 1, 1) := by decide +kernel
theorem dL_law_226 : decode cL_law 226 = .ok (.iadd, 1) := by decide +kernel
theorem dL_law_227 : decode cL_law 227 = .ok (.iaload, 1) := by decide +kernel
theorem dL_law_228 : decode cL_law 228 = .ok (.aload_n 0, 1) := by decide +kernel
theorem dL_law_229 : decode cL_law 229 = .ok (.iload_n 3, 1) := by decide +kernel
theorem dL_law_230 : decode cL_law 230 = .ok (.iconst 2, 1) := by decide +kernel
theorem dL_law_231 : decode cL_law 231 = .ok (.iadd, 1) := by decide +kernel
theorem dL_law_232 : decode cL_law 232 = .ok (.iaload, 1) := by decide +kernel
theorem dL_law_233 : decode cL_law 233 = .ok (.invokevirtual 17, 3) := by decide +kernel
theorem dL_law_236 : decode cL_law 236 = .ok (.if_icmp .eq 1132, 3) := by decide +kernel
theorem dL_law_239 : decode cL_law 239 = .ok (.iconst 0, 1) := by decide +kernel
theorem dL_law_240 : decode cL_law 240 = .ok (.ireturn, 1) := by decide +kernel
theorem dL_law_241 : decode cL_law 241 = .ok (.aload_n 1, 1) := by decide +kernel
theorem dL_law_242 : decode cL_law 242 = .ok (.aload_n 0, 1) := by decide +kernel
theorem dL_law_243 : decode cL_law 243 = .ok (.iload_n 3, 1) := by decide +kernel
theorem dL_law_244 : decode cL_law 244 = .ok (.iconst 1, 1) := by decide +kernel
theorem dL_law_245 : decode cL_law 245 = .ok (.iadd, 1) := by decide +kernel
theorem dL_law_246 : decode cL_law 246 = .ok (.iaload, 1) := by decide +kernel
theorem dL_law_247 : decode cL_law 247 = .ok (.aload_n 0, 1) := by decide +kernel
theorem dL_law_248 : decode cL_law 248 = .ok (.iload_n 3, 1) := by decide +kernel
theorem dL_law_249 : decode cL_law 249 = .ok (.iconst 2, 1) := by decide +kernel
theorem dL_law_250 : decode cL_law 250 = .ok (.iadd, 1) := by decide +kernel
theorem dL_law_251 : decode cL_law 251 = .ok (.iaload, 1) := by decide +kernel
theorem dL_law_252 : decode cL_law 252 = .ok (.invokevirtual 18, 3) := by decide +kernel
theorem dL_law_255 : decode cL_law 255 = .ok (.aload_n 2, 1) := by decide +kernel
theorem dL_law_256 : decode cL_law 256 = .ok (.aload_n 0, 1) := by decide +kernel
theorem dL_law_257 : decode cL_law 257 = .ok (.iload_n 3, 1) := by decide +kernel
theorem dL_law_258 : decode cL_law 258 = .ok (.iconst 1, 1) := by decide +kernel
theorem dL_law_259 : decode cL_law 259 = .ok (.iadd, 1) := by decide +kernel
theorem dL_law_260 : decode cL_law 260 = .ok (.iaload, 1) := by decide +kernel
theorem dL_law_261 : decode cL_law 261 = .ok (.aload_n 0, 1) := by decide +kernel
theorem dL_law_262 : decode cL_law 262 = .ok (.iload_n 3, 1) := by decide +kernel
theorem dL_law_263 : decode cL_law 263 = .ok (.iconst 2, 1) := by decide +kernel
theorem dL_law_264 : decode cL_law 264 = .ok (.iadd, 1) := by decide +kernel
theorem dL_law_265 : decode cL_law 265 = .ok (.iaload, 1) := by decide +kernel
theorem dL_law_266 : decode cL_law 266 = .ok (.invokevirtual 21, 3) := by decide +kernel
theorem dL_law_269 : decode cL_law 269 = .ok (.if_icmp .eq 1099, 3) := by decide +kernel
theorem dL_law_272 : decode cL_law 272 = .ok (.iconst 0, 1) := by decide +kernel
theorem dL_law_273 : decode cL_law 273 = .ok (.ireturn, 1) := by decide +kernel
theorem dL_law_274 : decode cL_law 274 = .ok (.aload_n 1, 1) := by decide +kernel
theorem dL_law_275 : decode cL_law 275 = .ok (.aload_n 0, 1) := by decide +kernel
theorem dL_law_276 : decode cL_law 276 = .ok (.iload_n 3, 1) := by decide +kernel
theorem dL_law_277 : decode cL_law 277 = .ok (.iconst 1, 1) := by decide +kernel
theorem dL_law_278 : decode cL_law 278 = .ok (.iadd, 1) := by decide +kernel
theorem dL_law_279 : decode cL_law 279 = .ok (.iaload, 1) := by decide +kernel
theorem dL_law_280 : decode cL_law 280 = .ok (.aload_n 0, 1) := by decide +kernel
theorem dL_law_281 : decode cL_law 281 = .ok (.iload_n 3, 1) := by decide +kernel
theorem dL_law_282 : decode cL_law 282 = .ok (.iconst 2, 1) := by decide +kernel
theorem dL_law_283 : decode cL_law 283 = .ok (.iadd, 1) := by decide +kernel
theorem dL_law_284 : decode cL_law 284 = .ok (.iaload, 1) := by decide +kernel
theorem dL_law_285 : decode cL_law 285 = .ok (.invokevirtual 22, 3) := by decide +kernel
theorem dL_law_288 : decode cL_law 288 = .ok (.aload_n 2, 1) := by decide +kernel
theorem dL_law_289 : decode cL_law 289 = .ok (.aload_n 0, 1) := by decide +kernel
theorem dL_law_290 : decode cL_law 290 = .ok (.iload_n 3, 1) := by decide +kernel
theorem dL_law_291 : decode cL_law 291 = .ok (.iconst 1, 1) := by decide +kernel
theorem dL_law_292 : decode cL_law 292 = .ok (.iadd, 1) := by decide +kernel
theorem dL_law_293 : decode cL_law 293 = .ok (.iaload, 1) := by decide +kernel
theorem dL_law_294 : decode cL_law 294 = .ok (.aload_n 0, 1) := by decide +kernel
theorem dL_law_295 : decode cL_law 295 = .ok (.iload_n 3, 1) := by decide +kernel
theorem dL_law_296 : decode cL_law 296 = .ok (.iconst 2, 1) := by decide +kernel
theorem dL_law_297 : decode cL_law 297 = .ok (.iadd, 1) := by decide +kernel
theorem dL_law_298 : decode cL_law 298 = .ok (.iaload, 1) := by decide +kernel
theorem dL_law_299 : decode cL_law 299 = .ok (.invokevirtual 25, 3) := by decide +kernel
theorem dL_law_302 : decode cL_law 302 = .ok (.if_icmp .eq 1066, 3) := by decide +kernel
theorem dL_law_305 : decode cL_law 305 = .ok (.iconst 0, 1) := by decide +kernel
theorem dL_law_306 : decode cL_law 306 = .ok (.ireturn, 1) := by decide +kernel
theorem dL_law_307 : decode cL_law 307 = .ok (.aload_n 1, 1) := by decide +kernel
theorem dL_law_308 : decode cL_law 308 = .ok (.aload_n 0, 1) := by decide +kernel
theorem dL_law_309 : decode cL_law 309 = .ok (.iload_n 3, 1) := by decide +kernel
theorem dL_law_310 : decode cL_law 310 = .ok (.iconst 1, 1) := by decide +kernel
theorem dL_law_311 : decode cL_law 311 = .ok (.iadd, 1) := by decide +kernel
theorem dL_law_312 : decode cL_law 312 = .ok (.iaload, 1) := by decide +kernel
theorem dL_law_313 : decode cL_law 313 = .ok (.aload_n 0, 1) := by decide +kernel
theorem dL_law_314 : decode cL_law 314 = .ok (.iload_n 3, 1) := by decide +kernel
theorem dL_law_315 : decode cL_law 315 = .ok (.iconst 2, 1) := by decide +kernel
theorem dL_law_316 : decode cL_law 316 = .ok (.iadd, 1) := by decide +kernel
theorem dL_law_317 : decode cL_law 317 = .ok (.iaload, 1) := by decide +kernel
theorem dL_law_318 : decode cL_law 318 = .ok (.invokevirtual 26, 3) := by decide +kernel
theorem dL_law_321 : decode cL_law 321 = .ok (.aload_n 2, 1) := by decide +kernel
theorem dL_law_322 : decode cL_law 322 = .ok (.aload_n 0, 1) := by decide +kernel
theorem dL_law_323 : decode cL_law 323 = .ok (.iload_n 3, 1) := by decide +kernel
theorem dL_law_324 : decode cL_law 324 = .ok (.iconst 1, 1) := by decide +kernel
theorem dL_law_325 : decode cL_law 325 = .ok (.iadd, 1) := by decide +kernel
theorem dL_law_326 : decode cL_law 326 = .ok (.iaload, 1) := by decide +kernel
theorem dL_law_327 : decode cL_law 327 = .ok (.aload_n 0, 1) := by decide +kernel
theorem dL_law_328 : decode cL_law 328 = .ok (.iload_n 3, 1) := by decide +kernel
theorem dL_law_329 : decode cL_law 329 = .ok (.iconst 2, 1) := by decide +kernel
theorem dL_law_330 : decode cL_law 330 = .ok (.iadd, 1) := by decide +kernel
theorem dL_law_331 : decode cL_law 331 = .ok (.iaload, 1) := by decide +kernel
theorem dL_law_332 : decode cL_law 332 = .ok (.invokevirtual 29, 3) := by decide +kernel
theorem dL_law_335 : decode cL_law 335 = .ok (.if_icmp .eq 1033, 3) := by decide +kernel
theorem dL_law_338 : decode cL_law 338 = .ok (.iconst 0, 1) := by decide +kernel
theorem dL_law_339 : decode cL_law 339 = .ok (.ireturn, 1) := by decide +kernel
theorem dL_law_340 : decode cL_law 340 = .ok (.aload_n 1, 1) := by decide +kernel
theorem dL_law_341 : decode cL_law 341 = .ok (.aload_n 0, 1) := by decide +kernel
theorem dL_law_342 : decode cL_law 342 = .ok (.iload_n 3, 1) := by decide +kernel
theorem dL_law_343 : decode cL_law 343 = .ok (.iconst 1, 1) := by decide +kernel
theorem dL_law_344 : decode cL_law 344 = .ok (.iadd, 1) := by decide +kernel
theorem dL_law_345 : decode cL_law 345 = .ok (.iaload, 1) := by decide +kernel
theorem dL_law_346 : decode cL_law 346 = .ok (.aload_n 0, 1) := by decide +kernel
theorem dL_law_347 : decode cL_law 347 = .ok (.iload_n 3, 1) := by decide +kernel
theorem dL_law_348 : decode cL_law 348 = .ok (.iconst 2, 1) := by decide +kernel
theorem dL_law_349 : decode cL_law 349 = .ok (.iadd, 1) := by decide +kernel
theorem dL_law_350 : decode cL_law 350 = .ok (.iaload, 1) := by decide +kernel
theorem dL_law_351 : decode cL_law 351 = .ok (.invokevirtual 30, 3) := by decide +kernel
theorem dL_law_354 : decode cL_law 354 = .ok (.aload_n 2, 1) := by decide +kernel
theorem dL_law_355 : decode cL_law 355 = .ok (.aload_n 0, 1) := by decide +kernel
theorem dL_law_356 : decode cL_law 356 = .ok (.iload_n 3, 1) := by decide +kernel
theorem dL_law_357 : decode cL_law 357 = .ok (.iconst 1, 1) := by decide +kernel
theorem dL_law_358 : decode cL_law 358 = .ok (.iadd, 1) := by decide +kernel
theorem dL_law_359 : decode cL_law 359 = .ok (.iaload, 1) := by decide +kernel
theorem dL_law_360 : decode cL_law 360 = .ok (.aload_n 0, 1) := by decide +kernel
theorem dL_law_361 : decode cL_law 361 = .ok (.iload_n 3, 1) := by decide +kernel
theorem dL_law_362 : decode cL_law 362 = .ok (.iconst 2, 1) := by decide +kernel
theorem dL_law_363 : decode cL_law 363 = .ok (.iadd, 1) := by decide +kernel
theorem dL_law_364 : decode cL_law 364 = .ok (.iaload, 1) := by decide +kernel
theorem dL_law_365 : decode cL_law 365 = .ok (.invokevirtual 33, 3) := by decide +kernel
theorem dL_law_368 : decode cL_law 368 = .ok (.if_icmp .eq 1000, 3) := by decide +kernel
theorem dL_law_371 : decode cL_law 371 = .ok (.iconst 0, 1) := by decide +kernel
theorem dL_law_372 : decode cL_law 372 = .ok (.ireturn, 1) := by decide +kernel
theorem dL_law_373 : decode cL_law 373 = .ok (.aload_n 1, 1) := by decide +kernel
theorem dL_law_374 : decode cL_law 374 = .ok (.aload_n 0, 1) := by decide +kernel
theorem dL_law_375 : decode cL_law 375 = .ok (.iload_n 3, 1) := by decide +kernel
theorem dL_law_376 : decode cL_law 376 = .ok (.iconst 1, 1) := by decide +kernel
theorem dL_law_377 : decode cL_law 377 = .ok (.iadd, 1) := by decide +kernel
theorem dL_law_378 : decode cL_law 378 = .ok (.iaload, 1) := by decide +kernel
theorem dL_law_379 : decode cL_law 379 = .ok (.aload_n 0, 1) := by decide +kernel
theorem dL_law_380 : decode cL_law 380 = .ok (.iload_n 3, 1) := by decide +kernel
theorem dL_law_381 : decode cL_law 381 = .ok (.iconst 2, 1) := by decide +kernel
theorem dL_law_382 : decode cL_law 382 = .ok (.iadd, 1) := by decide +kernel
theorem dL_law_383 : decode cL_law 383 = .ok (.iaload, 1) := by decide +kernel
theorem dL_law_384 : decode cL_law 384 = .ok (.aload_n 0, 1) := by decide +kernel
theorem dL_law_385 : decode cL_law 385 = .ok (.iload_n 3, 1) := by decide +kernel
theorem dL_law_386 : decode cL_law 386 = .ok (.iconst 3, 1) := by decide +kernel
theorem dL_law_387 : decode cL_law 387 = .ok (.iadd, 1) := by decide +kernel
theorem dL_law_388 : decode cL_law 388 = .ok (.iaload, 1) := by decide +kernel
theorem dL_law_389 : decode cL_law 389 = .ok (.invokevirtual 34, 3) := by decide +kernel
theorem dL_law_392 : decode cL_law 392 = .ok (.aload_n 2, 1) := by decide +kernel
theorem dL_law_393 : decode cL_law 393 = .ok (.aload_n 0, 1) := by decide +kernel
theorem dL_law_394 : decode cL_law 394 = .ok (.iload_n 3, 1) := by decide +kernel
theorem dL_law_395 : decode cL_law 395 = .ok (.iconst 1, 1) := by decide +kernel
theorem dL_law_396 : decode cL_law 396 = .ok (.iadd, 1) := by decide +kernel
theorem dL_law_397 : decode cL_law 397 = .ok (.iaload, 1) := by decide +kernel
theorem dL_law_398 : decode cL_law 398 = .ok (.aload_n 0, 1) := by decide +kernel
theorem dL_law_399 : decode cL_law 399 = .ok (.iload_n 3, 1) := by decide +kernel
theorem dL_law_400 : decode cL_law 400 = .ok (.iconst 2, 1) := by decide +kernel
theorem dL_law_401 : decode cL_law 401 = .ok (.iadd, 1) := by decide +kernel
theorem dL_law_402 : decode cL_law 402 = .ok (.iaload, 1) := by decide +kernel
theorem dL_law_403 : decode cL_law 403 = .ok (.aload_n 0, 1) := by decide +kernel
theorem dL_law_404 : decode cL_law 404 = .ok (.iload_n 3, 1) := by decide +kernel
theorem dL_law_405 : decode cL_law 405 = .ok (.iconst 3, 1) := by decide +kernel
theorem dL_law_406 : decode cL_law 406 = .ok (.iadd, 1) := by decide +kernel
theorem dL_law_407 : decode cL_law 407 = .ok (.iaload, 1) := by decide +kernel
theorem dL_law_408 : decode cL_law 408 = .ok (.invokevirtual 38, 3) := by decide +kernel
theorem dL_law_411 : decode cL_law 411 = .ok (.if_icmp .eq 957, 3) := by decide +kernel
theorem dL_law_414 : decode cL_law 414 = .ok (.iconst 0, 1) := by decide +kernel
theorem dL_law_415 : decode cL_law 415 = .ok (.ireturn, 1) := by decide +kernel
theorem dL_law_416 : decode cL_law 416 = .ok (.aload_n 1, 1) := by decide +kernel
theorem dL_law_417 : decode cL_law 417 = .ok (.aload_n 0, 1) := by decide +kernel
theorem dL_law_418 : decode cL_law 418 = .ok (.iload_n 3, 1) := by decide +kernel
theorem dL_law_419 : decode cL_law 419 = .ok (.iconst 1, 1) := by decide +kernel
theorem dL_law_420 : decode cL_law 420 = .ok (.iadd, 1) := by decide +kernel
theorem dL_law_421 : decode cL_law 421 = .ok (.iaload, 1) := by decide +kernel
theorem dL_law_422 : decode cL_law 422 = .ok (.invokevirtual 39, 3) := by decide +kernel
theorem dL_law_425 : decode cL_law 425 = .ok (.aload_n 2, 1) := by decide +kernel
theorem dL_law_426 : decode cL_law 426 = .ok (.aload_n 0, 1) := by decide +kernel
theorem dL_law_427 : decode cL_law 427 = .ok (.iload_n 3, 1) := by decide +kernel
theorem dL_law_428 : decode cL_law 428 = .ok (.iconst 1, 1) := by decide +kernel
theorem dL_law_429 : decode cL_law 429 = .ok (.iadd, 1) := by decide +kernel
theorem dL_law_430 : decode cL_law 430 = .ok (.iaload, 1) := by decide +kernel
theorem dL_law_431 : decode cL_law 431 = .ok (.invokevirtual 43, 3) := by decide +kernel
theorem dL_law_434 : decode cL_law 434 = .ok (.if_icmp .eq 934, 3) := by decide +kernel
theorem dL_law_437 : decode cL_law 437 = .ok (.iconst 0, 1) := by decide +kernel
theorem dL_law_438 : decode cL_law 438 = .ok (.ireturn, 1) := by decide +kernel
theorem dL_law_439 : decode cL_law 439 = .ok (.aload_n 1, 1) := by decide +kernel
theorem dL_law_440 : decode cL_law 440 = .ok (.aload_n 0, 1) := by decide +kernel
theorem dL_law_441 : decode cL_law 441 = .ok (.iload_n 3, 1) := by decide +kernel
theorem dL_law_442 : decode cL_law 442 = .ok (.iconst 1, 1) := by decide +kernel
theorem dL_law_443 : decode cL_law 443 = .ok (.iadd, 1) := by decide +kernel
theorem dL_law_444 : decode cL_law 444 = .ok (.iaload, 1) := by decide +kernel
theorem dL_law_445 : decode cL_law 445 = .ok (.invokevirtual 44, 3) := by decide +kernel
theorem dL_law_448 : decode cL_law 448 = .ok (.aload_n 2, 1) := by decide +kernel
theorem dL_law_449 : decode cL_law 449 = .ok (.aload_n 0, 1) := by decide +kernel
theorem dL_law_450 : decode cL_law 450 = .ok (.iload_n 3, 1) := by decide +kernel
theorem dL_law_451 : decode cL_law 451 = .ok (.iconst 1, 1) := by decide +kernel
theorem dL_law_452 : decode cL_law 452 = .ok (.iadd, 1) := by decide +kernel
theorem dL_law_453 : decode cL_law 453 = .ok (.iaload, 1) := by decide +kernel
theorem dL_law_454 : decode cL_law 454 = .ok (.invokevirtual 47, 3) := by decide +kernel
theorem dL_law_457 : decode cL_law 457 = .ok (.if_icmp .eq 911, 3) := by decide +kernel
theorem dL_law_460 : decode cL_law 460 = .ok (.iconst 0, 1) := by decide +kernel
theorem dL_law_461 : decode cL_law 461 = .ok (.ireturn, 1) := by decide +kernel
theorem dL_law_462 : decode cL_law 462 = .ok (.aload_n 1, 1) := by decide +kernel
theorem dL_law_463 : decode cL_law 463 = .ok (.aload_n 0, 1) := by decide +kernel
theorem dL_law_464 : decode cL_law 464 = .ok (.iload_n 3, 1) := by decide +kernel
theorem dL_law_465 : decode cL_law 465 = .ok (.iconst 1, 1) := by decide +kernel
theorem dL_law_466 : decode cL_law 466 = .ok (.iadd, 1) := by decide +kernel
theorem dL_law_467 : decode cL_law 467 = .ok (.iaload, 1) := by decide +kernel
theorem dL_law_468 : decode cL_law 468 = .ok (.aload_n 0, 1) := by decide +kernel
theorem dL_law_469 : decode cL_law 469 = .ok (.iload_n 3, 1) := by decide +kernel
theorem dL_law_470 : decode cL_law 470 = .ok (.iconst 2, 1) := by decide +kernel
theorem dL_law_471 : decode cL_law 471 = .ok (.iadd, 1) := by decide +kernel
theorem dL_law_472 : decode cL_law 472 = .ok (.iaload, 1) := by decide +kernel
theorem dL_law_473 : decode cL_law 473 = .ok (.invokevirtual 48, 3) := by decide +kernel
theorem dL_law_476 : decode cL_law 476 = .ok (.aload_n 2, 1) := by decide +kernel
theorem dL_law_477 : decode cL_law 477 = .ok (.aload_n 0, 1) := by decide +kernel
theorem dL_law_478 : decode cL_law 478 = .ok (.iload_n 3, 1) := by decide +kernel
theorem dL_law_479 : decode cL_law 479 = .ok (.iconst 1, 1) := by decide +kernel
theorem dL_law_480 : decode cL_law 480 = .ok (.iadd, 1) := by decide +kernel
theorem dL_law_481 : decode cL_law 481 = .ok (.iaload, 1) := by decide +kernel
theorem dL_law_482 : decode cL_law 482 = .ok (.aload_n 0, 1) := by decide +kernel
theorem dL_law_483 : decode cL_law 483 = .ok (.iload_n 3, 1) := by decide +kernel
theorem dL_law_484 : decode cL_law 484 = .ok (.iconst 2, 1) := by decide +kernel
theorem dL_law_485 : decode cL_law 485 = .ok (.iadd, 1) := by decide +kernel
theorem dL_law_486 : decode cL_law 486 = .ok (.iaload, 1) := by decide +kernel
theorem dL_law_487 : decode cL_law 487 = .ok (.invokevirtual 51, 3) := by decide +kernel
theorem dL_law_490 : decode cL_law 490 = .ok (.if_icmp .eq 878, 3) := by decide +kernel
theorem dL_law_493 : decode cL_law 493 = .ok (.iconst 0, 1) := by decide +kernel
theorem dL_law_494 : decode cL_law 494 = .ok (.ireturn, 1) := by decide +kernel
theorem dL_law_495 : decode cL_law 495 = .ok (.aload_n 1, 1) := by decide +kernel
theorem dL_law_496 : decode cL_law 496 = .ok (.aload_n 0, 1) := by decide +kernel
theorem dL_law_497 : decode cL_law 497 = .ok (.iload_n 3, 1) := by decide +kernel
theorem dL_law_498 : decode cL_law 498 = .ok (.iconst 1, 1) := by decide +kernel
theorem dL_law_499 : decode cL_law 499 = .ok (.iadd, 1) := by decide +kernel
theorem dL_law_500 : decode cL_law 500 = .ok (.iaload, 1) := by decide +kernel
theorem dL_law_501 : decode cL_law 501 = .ok (.invokevirtual 52, 3) := by decide +kernel
theorem dL_law_504 : decode cL_law 504 = .ok (.aload_n 2, 1) := by decide +kernel
theorem dL_law_505 : decode cL_law 505 = .ok (.aload_n 0, 1) := by decide +kernel
theorem dL_law_506 : decode cL_law 506 = .ok (.iload_n 3, 1) := by decide +kernel
theorem dL_law_507 : decode cL_law 507 = .ok (.iconst 1, 1) := by decide +kernel
theorem dL_law_508 : decode cL_law 508 = .ok (.iadd, 1) := by decide +kernel
theorem dL_law_509 : decode cL_law 509 = .ok (.iaload, 1) := by decide +kernel
theorem dL_law_510 : decode cL_law 510 = .ok (.invokevirtual 55, 3) := by decide +kernel
theorem dL_law_513 : decode cL_law 513 = .ok (.if_icmp .eq 855, 3) := by decide +kernel
theorem dL_law_516 : decode cL_law 516 = .ok (.iconst 0, 1) := by decide +kernel
theorem dL_law_517 : decode cL_law 517 = .ok (.ireturn, 1) := by decide +kernel
theorem dL_law_518 : decode cL_law 518 = .ok (.aload_n 1, 1) := by decide +kernel
theorem dL_law_519 : decode cL_law 519 = .ok (.invokevirtual 56, 3) := by decide +kernel
theorem dL_law_522 : decode cL_law 522 = .ok (.aload_n 2, 1) := by decide +kernel
theorem dL_law_523 : decode cL_law 523 = .ok (.invokevirtual 60, 3) := by decide +kernel
theorem dL_law_526 : decode cL_law 526 = .ok (.if_icmp .eq 842, 3) := by decide +kernel
theorem dL_law_529 : decode cL_law 529 = .ok (.iconst 0, 1) := by decide +kernel
theorem dL_law_530 : decode cL_law 530 = .ok (.ireturn, 1) := by decide +kernel
theorem dL_law_531 : decode cL_law 531 = .ok (.aload_n 1, 1) := by decide +kernel
theorem dL_law_532 : decode cL_law 532 = .ok (.aload_n 0, 1) := by decide +kernel
theorem dL_law_533 : decode cL_law 533 = .ok (.iload_n 3, 1) := by decide +kernel
theorem dL_law_534 : decode cL_law 534 = .ok (.iconst 1, 1) := by decide +kernel
theorem dL_law_535 : decode cL_law 535 = .ok (.iadd, 1) := by decide +kernel
theorem dL_law_536 : decode cL_law 536 = .ok (.iaload, 1) := by decide +kernel
theorem dL_law_537 : decode cL_law 537 = .ok (.invokevirtual 61, 3) := by decide +kernel
theorem dL_law_540 : decode cL_law 540 = .ok (.aload_n 2, 1) := by decide +kernel
theorem dL_law_541 : decode cL_law 541 = .ok (.aload_n 0, 1) := by decide +kernel
theorem dL_law_542 : decode cL_law 542 = .ok (.iload_n 3, 1) := by decide +kernel
theorem dL_law_543 : decode cL_law 543 = .ok (.iconst 1, 1) := by decide +kernel
theorem dL_law_544 : decode cL_law 544 = .ok (.iadd, 1) := by decide +kernel
theorem dL_law_545 : decode cL_law 545 = .ok (.iaload, 1) := by decide +kernel
theorem dL_law_546 : decode cL_law 546 = .ok (.invokevirtual 64, 3) := by decide +kernel
theorem dL_law_549 : decode cL_law 549 = .ok (.if_icmp .eq 819, 3) := by decide +kernel
theorem dL_law_552 : decode cL_law 552 = .ok (.iconst 0, 1) := by decide +kernel
theorem dL_law_553 : decode cL_law 553 = .ok (.ireturn, 1) := by decide +kernel
theorem dL_law_554 : decode cL_law 554 = .ok (.aload_n 1, 1) := by decide +kernel
theorem dL_law_555 : decode cL_law 555 = .ok (.invokevirtual 65, 3) := by decide +kernel
theorem dL_law_558 : decode cL_law 558 = .ok (.aload_n 2, 1) := by decide +kernel
theorem dL_law_559 : decode cL_law 559 = .ok (.invokevirtual 68, 3) := by decide +kernel
theorem dL_law_562 : decode cL_law 562 = .ok (.if_icmp .eq 806, 3) := by decide +kernel
theorem dL_law_565 : decode cL_law 565 = .ok (.iconst 0, 1) := by decide +kernel
theorem dL_law_566 : decode cL_law 566 = .ok (.ireturn, 1) := by decide +kernel
theorem dL_law_567 : decode cL_law 567 = .ok (.aload_n 1, 1) := by decide +kernel
theorem dL_law_568 : decode cL_law 568 = .ok (.aload_n 0, 1) := by decide +kernel
theorem dL_law_569 : decode cL_law 569 = .ok (.iload_n 3, 1) := by decide +kernel
theorem dL_law_570 : decode cL_law 570 = .ok (.iconst 1, 1) := by decide +kernel
theorem dL_law_571 : decode cL_law 571 = .ok (.iadd, 1) := by decide +kernel
theorem dL_law_572 : decode cL_law 572 = .ok (.iaload, 1) := by decide +kernel
theorem dL_law_573 : decode cL_law 573 = .ok (.aload_n 0, 1) := by decide +kernel
theorem dL_law_574 : decode cL_law 574 = .ok (.iload_n 3, 1) := by decide +kernel
theorem dL_law_575 : decode cL_law 575 = .ok (.iconst 2, 1) := by decide +kernel
theorem dL_law_576 : decode cL_law 576 = .ok (.iadd, 1) := by decide +kernel
theorem dL_law_577 : decode cL_law 577 = .ok (.iaload, 1) := by decide +kernel
theorem dL_law_578 : decode cL_law 578 = .ok (.aload_n 0, 1) := by decide +kernel
theorem dL_law_579 : decode cL_law 579 = .ok (.iload_n 3, 1) := by decide +kernel
theorem dL_law_580 : decode cL_law 580 = .ok (.iconst 3, 1) := by decide +kernel
theorem dL_law_581 : decode cL_law 581 = .ok (.iadd, 1) := by decide +kernel
theorem dL_law_582 : decode cL_law 582 = .ok (.iaload, 1) := by decide +kernel
theorem dL_law_583 : decode cL_law 583 = .ok (.invokevirtual 69, 3) := by decide +kernel
theorem dL_law_586 : decode cL_law 586 = .ok (.aload_n 2, 1) := by decide +kernel
theorem dL_law_587 : decode cL_law 587 = .ok (.aload_n 0, 1) := by decide +kernel
theorem dL_law_588 : decode cL_law 588 = .ok (.iload_n 3, 1) := by decide +kernel
theorem dL_law_589 : decode cL_law 589 = .ok (.iconst 1, 1) := by decide +kernel
theorem dL_law_590 : decode cL_law 590 = .ok (.iadd, 1) := by decide +kernel
theorem dL_law_591 : decode cL_law 591 = .ok (.iaload, 1) := by decide +kernel
theorem dL_law_592 : decode cL_law 592 = .ok (.aload_n 0, 1) := by decide +kernel
theorem dL_law_593 : decode cL_law 593 = .ok (.iload_n 3, 1) := by decide +kernel
theorem dL_law_594 : decode cL_law 594 = .ok (.iconst 2, 1) := by decide +kernel
theorem dL_law_595 : decode cL_law 595 = .ok (.iadd, 1) := by decide +kernel
theorem dL_law_596 : decode cL_law 596 = .ok (.iaload, 1) := by decide +kernel
theorem dL_law_597 : decode cL_law 597 = .ok (.aload_n 0, 1) := by decide +kernel
theorem dL_law_598 : decode cL_law 598 = .ok (.iload_n 3, 1) := by decide +kernel
theorem dL_law_599 : decode cL_law 599 = .ok (.iconst 3, 1) := by decide +kernel
theorem dL_law_600 : decode cL_law 600 = .ok (.iadd, 1) := by decide +kernel
theorem dL_law_601 : decode cL_law 601 = .ok (.iaload, 1) := by decide +kernel
theorem dL_law_602 : decode cL_law 602 = .ok (.invokevirtual 72, 3) := by decide +kernel
theorem dL_law_605 : decode cL_law 605 = .ok (.if_icmp .eq 763, 3) := by decide +kernel
theorem dL_law_608 : decode cL_law 608 = .ok (.iconst 0, 1) := by decide +kernel
theorem dL_law_609 : decode cL_law 609 = .ok (.ireturn, 1) := by decide +kernel
theorem dL_law_610 : decode cL_law 610 = .ok (.aload_n 1, 1) := by decide +kernel
theorem dL_law_611 : decode cL_law 611 = .ok (.aload_n 0, 1) := by decide +kernel
theorem dL_law_612 : decode cL_law 612 = .ok (.iload_n 3, 1) := by decide +kernel
theorem dL_law_613 : decode cL_law 613 = .ok (.iconst 1, 1) := by decide +kernel
theorem dL_law_614 : decode cL_law 614 = .ok (.iadd, 1) := by decide +kernel
theorem dL_law_615 : decode cL_law 615 = .ok (.iaload, 1) := by decide +kernel
theorem dL_law_616 : decode cL_law 616 = .ok (.invokevirtual 73, 3) := by decide +kernel
theorem dL_law_619 : decode cL_law 619 = .ok (.aload_n 2, 1) := by decide +kernel
theorem dL_law_620 : decode cL_law 620 = .ok (.aload_n 0, 1) := by decide +kernel
theorem dL_law_621 : decode cL_law 621 = .ok (.iload_n 3, 1) := by decide +kernel
theorem dL_law_622 : decode cL_law 622 = .ok (.iconst 1, 1) := by decide +kernel
theorem dL_law_623 : decode cL_law 623 = .ok (.iadd, 1) := by decide +kernel
theorem dL_law_624 : decode cL_law 624 = .ok (.iaload, 1) := by decide +kernel
theorem dL_law_625 : decode cL_law 625 = .ok (.invokevirtual 76, 3) := by decide +kernel
theorem dL_law_628 : decode cL_law 628 = .ok (.if_icmp .eq 740, 3) := by decide +kernel
theorem dL_law_631 : decode cL_law 631 = .ok (.iconst 0, 1) := by decide +kernel
theorem dL_law_632 : decode cL_law 632 = .ok (.ireturn, 1) := by decide +kernel
theorem dL_law_633 : decode cL_law 633 = .ok (.aload_n 1, 1) := by decide +kernel
theorem dL_law_634 : decode cL_law 634 = .ok (.aload_n 0, 1) := by decide +kernel
theorem dL_law_635 : decode cL_law 635 = .ok (.iload_n 3, 1) := by decide +kernel
theorem dL_law_636 : decode cL_law 636 = .ok (.iconst 1, 1) := by decide +kernel
theorem dL_law_637 : decode cL_law 637 = .ok (.iadd, 1) := by decide +kernel
theorem dL_law_638 : decode cL_law 638 = .ok (.iaload, 1) := by decide +kernel
theorem dL_law_639 : decode cL_law 639 = .ok (.aload_n 0, 1) := by decide +kernel
theorem dL_law_640 : decode cL_law 640 = .ok (.iload_n 3, 1) := by decide +kernel
theorem dL_law_641 : decode cL_law 641 = .ok (.iconst 2, 1) := by decide +kernel
theorem dL_law_642 : decode cL_law 642 = .ok (.iadd, 1) := by decide +kernel
theorem dL_law_643 : decode cL_law 643 = .ok (.iaload, 1) := by decide +kernel
theorem dL_law_644 : decode cL_law 644 = .ok (.aload_n 0, 1) := by decide +kernel
theorem dL_law_645 : decode cL_law 645 = .ok (.iload_n 3, 1) := by decide +kernel
theorem dL_law_646 : decode cL_law 646 = .ok (.iconst 3, 1) := by decide +kernel
theorem dL_law_647 : decode cL_law 647 = .ok (.iadd, 1) := by decide +kernel
theorem dL_law_648 : decode cL_law 648 = .ok (.iaload, 1) := by decide +kernel
theorem dL_law_649 : decode cL_law 649 = .ok (.invokevirtual 77, 3) := by decide +kernel
theorem dL_law_652 : decode cL_law 652 = .ok (.aload_n 2, 1) := by decide +kernel
theorem dL_law_653 : decode cL_law 653 = .ok (.aload_n 0, 1) := by decide +kernel
theorem dL_law_654 : decode cL_law 654 = .ok (.iload_n 3, 1) := by decide +kernel
theorem dL_law_655 : decode cL_law 655 = .ok (.iconst 1, 1) := by decide +kernel
theorem dL_law_656 : decode cL_law 656 = .ok (.iadd, 1) := by decide +kernel
theorem dL_law_657 : decode cL_law 657 = .ok (.iaload, 1) := by decide +kernel
theorem dL_law_658 : decode cL_law 658 = .ok (.aload_n 0, 1) := by decide +kernel
theorem dL_law_659 : decode cL_law 659 = .ok (.iload_n 3, 1) := by decide +kernel
theorem dL_law_660 : decode cL_law 660 = .ok (.iconst 2, 1) := by decide +kernel
theorem dL_law_661 : decode cL_law 661 = .ok (.iadd, 1) := by decide +kernel
theorem dL_law_662 : decode cL_law 662 = .ok (.iaload, 1) := by decide +kernel
theorem dL_law_663 : decode cL_law 663 = .ok (.aload_n 0, 1) := by decide +kernel
theorem dL_law_664 : decode cL_law 664 = .ok (.iload_n 3, 1) := by decide +kernel
theorem dL_law_665 : decode cL_law 665 = .ok (.iconst 3, 1) := by decide +kernel
theorem dL_law_666 : decode cL_law 666 = .ok (.iadd, 1) := by decide +kernel
theorem dL_law_667 : decode cL_law 667 = .ok (.iaload, 1) := by decide +kernel
theorem dL_law_668 : decode cL_law 668 = .ok (.invokevirtual 80, 3) := by decide +kernel
theorem dL_law_671 : decode cL_law 671 = .ok (.if_icmp .eq 697, 3) := by decide +kernel
theorem dL_law_674 : decode cL_law 674 = .ok (.iconst 0, 1) := by decide +kernel
theorem dL_law_675 : decode cL_law 675 = .ok (.ireturn, 1) := by decide +kernel
theorem dL_law_676 : decode cL_law 676 = .ok (.aload_n 1, 1) := by decide +kernel
theorem dL_law_677 : decode cL_law 677 = .ok (.aload_n 0, 1) := by decide +kernel
theorem dL_law_678 : decode cL_law 678 = .ok (.iload_n 3, 1) := by decide +kernel
theorem dL_law_679 : decode cL_law 679 = .ok (.iconst 1, 1) := by decide +kernel
theorem dL_law_680 : decode cL_law 680 = .ok (.iadd, 1) := by decide +kernel
theorem dL_law_681 : decode cL_law 681 = .ok (.iaload, 1) := by decide +kernel
theorem dL_law_682 : decode cL_law 682 = .ok (.aload_n 0, 1) := by decide +kernel
theorem dL_law_683 : decode cL_law 683 = .ok (.iload_n 3, 1) := by decide +kernel
theorem dL_law_684 : decode cL_law 684 = .ok (.iconst 2, 1) := by decide +kernel
theorem dL_law_685 : decode cL_law 685 = .ok (.iadd, 1) := by decide +kernel
theorem dL_law_686 : decode cL_law 686 = .ok (.iaload, 1) := by decide +kernel
theorem dL_law_687 : decode cL_law 687 = .ok (.aload_n 0, 1) := by decide +kernel
theorem dL_law_688 : decode cL_law 688 = .ok (.iload_n 3, 1) := by decide +kernel
theorem dL_law_689 : decode cL_law 689 = .ok (.iconst 3, 1) := by decide +kernel
theorem dL_law_690 : decode cL_law 690 = .ok (.iadd, 1) := by decide +kernel
theorem dL_law_691 : decode cL_law 691 = .ok (.iaload, 1) := by decide +kernel
theorem dL_law_692 : decode cL_law 692 = .ok (.invokevirtual 81, 3) := by decide +kernel
theorem dL_law_695 : decode cL_law 695 = .ok (.aload_n 2, 1) := by decide +kernel
theorem dL_law_696 : decode cL_law 696 = .ok (.aload_n 0, 1) := by decide +kernel
theorem dL_law_697 : decode cL_law 697 = .ok (.iload_n 3, 1) := by decide +kernel
theorem dL_law_698 : decode cL_law 698 = .ok (.iconst 1, 1) := by decide +kernel
theorem dL_law_699 : decode cL_law 699 = .ok (.iadd, 1) := by decide +kernel
theorem dL_law_700 : decode cL_law 700 = .ok (.iaload, 1) := by decide +kernel
theorem dL_law_701 : decode cL_law 701 = .ok (.aload_n 0, 1) := by decide +kernel
theorem dL_law_702 : decode cL_law 702 = .ok (.iload_n 3, 1) := by decide +kernel
theorem dL_law_703 : decode cL_law 703 = .ok (.iconst 2, 1) := by decide +kernel
theorem dL_law_704 : decode cL_law 704 = .ok (.iadd, 1) := by decide +kernel
theorem dL_law_705 : decode cL_law 705 = .ok (.iaload, 1) := by decide +kernel
theorem dL_law_706 : decode cL_law 706 = .ok (.aload_n 0, 1) := by decide +kernel
theorem dL_law_707 : decode cL_law 707 = .ok (.iload_n 3, 1) := by decide +kernel
theorem dL_law_708 : decode cL_law 708 = .ok (.iconst 3, 1) := by decide +kernel
theorem dL_law_709 : decode cL_law 709 = .ok (.iadd, 1) := by decide +kernel
theorem dL_law_710 : decode cL_law 710 = .ok (.iaload, 1) := by decide +kernel
theorem dL_law_711 : decode cL_law 711 = .ok (.invokevirtual 84, 3) := by decide +kernel
theorem dL_law_714 : decode cL_law 714 = .ok (.if_icmp .eq 654, 3) := by decide +kernel
theorem dL_law_717 : decode cL_law 717 = .ok (.iconst 0, 1) := by decide +kernel
theorem dL_law_718 : decode cL_law 718 = .ok (.ireturn, 1) := by decide +kernel
theorem dL_law_719 : decode cL_law 719 = .ok (.aload_n 1, 1) := by decide +kernel
theorem dL_law_720 : decode cL_law 720 = .ok (.aload_n 0, 1) := by decide +kernel
theorem dL_law_721 : decode cL_law 721 = .ok (.iload_n 3, 1) := by decide +kernel
theorem dL_law_722 : decode cL_law 722 = .ok (.iconst 1, 1) := by decide +kernel
theorem dL_law_723 : decode cL_law 723 = .ok (.iadd, 1) := by decide +kernel
theorem dL_law_724 : decode cL_law 724 = .ok (.iaload, 1) := by decide +kernel
theorem dL_law_725 : decode cL_law 725 = .ok (.invokevirtual 85, 3) := by decide +kernel
theorem dL_law_728 : decode cL_law 728 = .ok (.aload_n 2, 1) := by decide +kernel
theorem dL_law_729 : decode cL_law 729 = .ok (.aload_n 0, 1) := by decide +kernel
theorem dL_law_730 : decode cL_law 730 = .ok (.iload_n 3, 1) := by decide +kernel
theorem dL_law_731 : decode cL_law 731 = .ok (.iconst 1, 1) := by decide +kernel
theorem dL_law_732 : decode cL_law 732 = .ok (.iadd, 1) := by decide +kernel
theorem dL_law_733 : decode cL_law 733 = .ok (.iaload, 1) := by decide +kernel
theorem dL_law_734 : decode cL_law 734 = .ok (.invokevirtual 88, 3) := by decide +kernel
theorem dL_law_737 : decode cL_law 737 = .ok (.if_icmp .eq 631, 3) := by decide +kernel
theorem dL_law_740 : decode cL_law 740 = .ok (.iconst 0, 1) := by decide +kernel
theorem dL_law_741 : decode cL_law 741 = .ok (.ireturn, 1) := by decide +kernel
theorem dL_law_742 : decode cL_law 742 = .ok (.aload_n 1, 1) := by decide +kernel
theorem dL_law_743 : decode cL_law 743 = .ok (.aload_n 0, 1) := by decide +kernel
theorem dL_law_744 : decode cL_law 744 = .ok (.iload_n 3, 1) := by decide +kernel
theorem dL_law_745 : decode cL_law 745 = .ok (.iconst 1, 1) := by decide +kernel
theorem dL_law_746 : decode cL_law 746 = .ok (.iadd, 1) := by decide +kernel
theorem dL_law_747 : decode cL_law 747 = .ok (.iaload, 1) := by decide +kernel
theorem dL_law_748 : decode cL_law 748 = .ok (.aload_n 0, 1) := by decide +kernel
theorem dL_law_749 : decode cL_law 749 = .ok (.iload_n 3, 1) := by decide +kernel
theorem dL_law_750 : decode cL_law 750 = .ok (.iconst 2, 1) := by decide +kernel
theorem dL_law_751 : decode cL_law 751 = .ok (.iadd, 1) := by decide +kernel
theorem dL_law_752 : decode cL_law 752 = .ok (.iaload, 1) := by decide +kernel
theorem dL_law_753 : decode cL_law 753 = .ok (.invokevirtual 89, 3) := by decide +kernel
theorem dL_law_756 : decode cL_law 756 = .ok (.aload_n 2, 1) := by decide +kernel
theorem dL_law_757 : decode cL_law 757 = .ok (.aload_n 0, 1) := by decide +kernel
theorem dL_law_758 : decode cL_law 758 = .ok (.iload_n 3, 1) := by decide +kernel
theorem dL_law_759 : decode cL_law 759 = .ok (.iconst 1, 1) := by decide +kernel
theorem dL_law_760 : decode cL_law 760 = .ok (.iadd, 1) := by decide +kernel
theorem dL_law_761 : decode cL_law 761 = .ok (.iaload, 1) := by decide +kernel
theorem dL_law_762 : decode cL_law 762 = .ok (.aload_n 0, 1) := by decide +kernel
theorem dL_law_763 : decode cL_law 763 = .ok (.iload_n 3, 1) := by decide +kernel
theorem dL_law_764 : decode cL_law 764 = .ok (.iconst 2, 1) := by decide +kernel
theorem dL_law_765 : decode cL_law 765 = .ok (.iadd, 1) := by decide +kernel
theorem dL_law_766 : decode cL_law 766 = .ok (.iaload, 1) := by decide +kernel
theorem dL_law_767 : decode cL_law 767 = .ok (.invokevirtual 92, 3) := by decide +kernel
theorem dL_law_770 : decode cL_law 770 = .ok (.if_icmp .eq 598, 3) := by decide +kernel
theorem dL_law_773 : decode cL_law 773 = .ok (.iconst 0, 1) := by decide +kernel
theorem dL_law_774 : decode cL_law 774 = .ok (.ireturn, 1) := by decide +kernel
theorem dL_law_775 : decode cL_law 775 = .ok (.aload_n 1, 1) := by decide +kernel
theorem dL_law_776 : decode cL_law 776 = .ok (.invokevirtual 93, 3) := by decide +kernel
theorem dL_law_779 : decode cL_law 779 = .ok (.aload_n 2, 1) := by decide +kernel
theorem dL_law_780 : decode cL_law 780 = .ok (.invokevirtual 96, 3) := by decide +kernel
theorem dL_law_783 : decode cL_law 783 = .ok (.if_icmp .eq 585, 3) := by decide +kernel
theorem dL_law_786 : decode cL_law 786 = .ok (.iconst 0, 1) := by decide +kernel
theorem dL_law_787 : decode cL_law 787 = .ok (.ireturn, 1) := by decide +kernel
theorem dL_law_788 : decode cL_law 788 = .ok (.aload_n 1, 1) := by decide +kernel
theorem dL_law_789 : decode cL_law 789 = .ok (.invokevirtual 97, 3) := by decide +kernel
theorem dL_law_792 : decode cL_law 792 = .ok (.aload_n 2, 1) := by decide +kernel
theorem dL_law_793 : decode cL_law 793 = .ok (.invokevirtual 100, 3) := by decide +kernel
theorem dL_law_796 : decode cL_law 796 = .ok (.if_icmp .eq 572, 3) := by decide +kernel
theorem dL_law_799 : decode cL_law 799 = .ok (.iconst 0, 1) := by decide +kernel
theorem dL_law_800 : decode cL_law 800 = .ok (.ireturn, 1) := by decide +kernel
theorem dL_law_801 : decode cL_law 801 = .ok (.aload_n 1, 1) := by decide +kernel
theorem dL_law_802 : decode cL_law 802 = .ok (.aload_n 0, 1) := by decide +kernel
theorem dL_law_803 : decode cL_law 803 = .ok (.iload_n 3, 1) := by decide +kernel
theorem dL_law_804 : decode cL_law 804 = .ok (.iconst 1, 1) := by decide +kernel
theorem dL_law_805 : decode cL_law 805 = .ok (.iadd, 1) := by decide +kernel
theorem dL_law_806 : decode cL_law 806 = .ok (.iaload, 1) := by decide +kernel
theorem dL_law_807 : decode cL_law 807 = .ok (.aload_n 0, 1) := by decide +kernel
theorem dL_law_808 : decode cL_law 808 = .ok (.iload_n 3, 1) := by decide +kernel
theorem dL_law_809 : decode cL_law 809 = .ok (.iconst 2, 1) := by decide +kernel
theorem dL_law_810 : decode cL_law 810 = .ok (.iadd, 1) := by decide +kernel
theorem dL_law_811 : decode cL_law 811 = .ok (.iaload, 1) := by decide +kernel
theorem dL_law_812 : decode cL_law 812 = .ok (.aload_n 0, 1) := by decide +kernel
theorem dL_law_813 : decode cL_law 813 = .ok (.iload_n 3, 1) := by decide +kernel
theorem dL_law_814 : decode cL_law 814 = .ok (.iconst 3, 1) := by decide +kernel
theorem dL_law_815 : decode cL_law 815 = .ok (.iadd, 1) := by decide +kernel
theorem dL_law_816 : decode cL_law 816 = .ok (.iaload, 1) := by decide +kernel
theorem dL_law_817 : decode cL_law 817 = .ok (.invokevirtual 101, 3) := by decide +kernel
theorem dL_law_820 : decode cL_law 820 = .ok (.aload_n 2, 1) := by decide +kernel
theorem dL_law_821 : decode cL_law 821 = .ok (.aload_n 0, 1) := by decide +kernel
theorem dL_law_822 : decode cL_law 822 = .ok (.iload_n 3, 1) := by decide +kernel
theorem dL_law_823 : decode cL_law 823 = .ok (.iconst 1, 1) := by decide +kernel
theorem dL_law_824 : decode cL_law 824 = .ok (.iadd, 1) := by decide +kernel
theorem dL_law_825 : decode cL_law 825 = .ok (.iaload, 1) := by decide +kernel
theorem dL_law_826 : decode cL_law 826 = .ok (.aload_n 0, 1) := by decide +kernel
theorem dL_law_827 : decode cL_law 827 = .ok (.iload_n 3, 1) := by decide +kernel
theorem dL_law_828 : decode cL_law 828 = .ok (.iconst 2, 1) := by decide +kernel
theorem dL_law_829 : decode cL_law 829 = .ok (.iadd, 1) := by decide +kernel
theorem dL_law_830 : decode cL_law 830 = .ok (.iaload, 1) := by decide +kernel
theorem dL_law_831 : decode cL_law 831 = .ok (.aload_n 0, 1) := by decide +kernel
theorem dL_law_832 : decode cL_law 832 = .ok (.iload_n 3, 1) := by decide +kernel
theorem dL_law_833 : decode cL_law 833 = .ok (.iconst 3, 1) := by decide +kernel
theorem dL_law_834 : decode cL_law 834 = .ok (.iadd, 1) := by decide +kernel
theorem dL_law_835 : decode cL_law 835 = .ok (.iaload, 1) := by decide +kernel
theorem dL_law_836 : decode cL_law 836 = .ok (.invokevirtual 104, 3) := by decide +kernel
theorem dL_law_839 : decode cL_law 839 = .ok (.if_icmp .eq 529, 3) := by decide +kernel
theorem dL_law_842 : decode cL_law 842 = .ok (.iconst 0, 1) := by decide +kernel
theorem dL_law_843 : decode cL_law 843 = .ok (.ireturn, 1) := by decide +kernel
theorem dL_law_844 : decode cL_law 844 = .ok (.aload_n 1, 1) := by decide +kernel
theorem dL_law_845 : decode cL_law 845 = .ok (.aload_n 0, 1) := by decide +kernel
theorem dL_law_846 : decode cL_law 846 = .ok (.iload_n 3, 1) := by decide +kernel
theorem dL_law_847 : decode cL_law 847 = .ok (.iconst 1, 1) := by decide +kernel
theorem dL_law_848 : decode cL_law 848 = .ok (.iadd, 1) := by decide +kernel
theorem dL_law_849 : decode cL_law 849 = .ok (.iaload, 1) := by decide +kernel
theorem dL_law_850 : decode cL_law 850 = .ok (.invokevirtual 105, 3) := by decide +kernel
theorem dL_law_853 : decode cL_law 853 = .ok (.aload_n 2, 1) := by decide +kernel
theorem dL_law_854 : decode cL_law 854 = .ok (.aload_n 0, 1) := by decide +kernel
theorem dL_law_855 : decode cL_law 855 = .ok (.iload_n 3, 1) := by decide +kernel
theorem dL_law_856 : decode cL_law 856 = .ok (.iconst 1, 1) := by decide +kernel
theorem dL_law_857 : decode cL_law 857 = .ok (.iadd, 1) := by decide +kernel
theorem dL_law_858 : decode cL_law 858 = .ok (.iaload, 1) := by decide +kernel
theorem dL_law_859 : decode cL_law 859 = .ok (.invokevirtual 108, 3) := by decide +kernel
theorem dL_law_862 : decode cL_law 862 = .ok (.if_icmp .eq 506, 3) := by decide +kernel
theorem dL_law_865 : decode cL_law 865 = .ok (.iconst 0, 1) := by decide +kernel
theorem dL_law_866 : decode cL_law 866 = .ok (.ireturn, 1) := by decide +kernel
theorem dL_law_867 : decode cL_law 867 = .ok (.aload_n 1, 1) := by decide +kernel
theorem dL_law_868 : decode cL_law 868 = .ok (.invokevirtual 109, 3) := by decide +kernel
theorem dL_law_871 : decode cL_law 871 = .ok (.aload_n 2, 1) := by decide +kernel
theorem dL_law_872 : decode cL_law 872 = .ok (.invokevirtual 112, 3) := by decide +kernel
theorem dL_law_875 : decode cL_law 875 = .ok (.if_icmp .eq 493, 3) := by decide +kernel
theorem dL_law_878 : decode cL_law 878 = .ok (.iconst 0, 1) := by decide +kernel
theorem dL_law_879 : decode cL_law 879 = .ok (.ireturn, 1) := by decide +kernel
theorem dL_law_880 : decode cL_law 880 = .ok (.aload_n 1, 1) := by decide +kernel
theorem dL_law_881 : decode cL_law 881 = .ok (.aload_n 0, 1) := by decide +kernel
theorem dL_law_882 : decode cL_law 882 = .ok (.iload_n 3, 1) := by decide +kernel
theorem dL_law_883 : decode cL_law 883 = .ok (.iconst 1, 1) := by decide +kernel
theorem dL_law_884 : decode cL_law 884 = .ok (.iadd, 1) := by decide +kernel
theorem dL_law_885 : decode cL_law 885 = .ok (.iaload, 1) := by decide +kernel
theorem dL_law_886 : decode cL_law 886 = .ok (.aload_n 0, 1) := by decide +kernel
theorem dL_law_887 : decode cL_law 887 = .ok (.iload_n 3, 1) := by decide +kernel
theorem dL_law_888 : decode cL_law 888 = .ok (.iconst 2, 1) := by decide +kernel
theorem dL_law_889 : decode cL_law 889 = .ok (.iadd, 1) := by decide +kernel
theorem dL_law_890 : decode cL_law 890 = .ok (.iaload, 1) := by decide +kernel
theorem dL_law_891 : decode cL_law 891 = .ok (.invokevirtual 113, 3) := by decide +kernel
theorem dL_law_894 : decode cL_law 894 = .ok (.aload_n 2, 1) := by decide +kernel
theorem dL_law_895 : decode cL_law 895 = .ok (.aload_n 0, 1) := by decide +kernel
theorem dL_law_896 : decode cL_law 896 = .ok (.iload_n 3, 1) := by decide +kernel
theorem dL_law_897 : decode cL_law 897 = .ok (.iconst 1, 1) := by decide +kernel
theorem dL_law_898 : decode cL_law 898 = .ok (.iadd, 1) := by decide +kernel
theorem dL_law_899 : decode cL_law 899 = .ok (.iaload, 1) := by decide +kernel
theorem dL_law_900 : decode cL_law 900 = .ok (.aload_n 0, 1) := by decide +kernel
theorem dL_law_901 : decode cL_law 901 = .ok (.iload_n 3, 1) := by decide +kernel
theorem dL_law_902 : decode cL_law 902 = .ok (.iconst 2, 1) := by decide +kernel
theorem dL_law_903 : decode cL_law 903 = .ok (.iadd, 1) := by decide +kernel
theorem dL_law_904 : decode cL_law 904 = .ok (.iaload, 1) := by decide +kernel
theorem dL_law_905 : decode cL_law 905 = .ok (.invokevirtual 116, 3) := by decide +kernel
theorem dL_law_908 : decode cL_law 908 = .ok (.if_icmp .eq 460, 3) := by decide +kernel
theorem dL_law_911 : decode cL_law 911 = .ok (.iconst 0, 1) := by decide +kernel
theorem dL_law_912 : decode cL_law 912 = .ok (.ireturn, 1) := by decide +kernel
theorem dL_law_913 : decode cL_law 913 = .ok (.aload_n 1, 1) := by decide +kernel
theorem dL_law_914 : decode cL_law 914 = .ok (.aload_n 0, 1) := by decide +kernel
theorem dL_law_915 : decode cL_law 915 = .ok (.iload_n 3, 1) := by decide +kernel
theorem dL_law_916 : decode cL_law 916 = .ok (.iconst 1, 1) := by decide +kernel
theorem dL_law_917 : decode cL_law 917 = .ok (.iadd, 1) := by decide +kernel
theorem dL_law_918 : decode cL_law 918 = .ok (.iaload, 1) := by decide +kernel
theorem dL_law_919 : decode cL_law 919 = .ok (.invokevirtual 117, 3) := by decide +kernel
theorem dL_law_922 : decode cL_law 922 = .ok (.aload_n 2, 1) := by decide +kernel
theorem dL_law_923 : decode cL_law 923 = .ok (.aload_n 0, 1) := by decide +kernel
theorem dL_law_924 : decode cL_law 924 = .ok (.iload_n 3, 1) := by decide +kernel
theorem dL_law_925 : decode cL_law 925 = .ok (.iconst 1, 1) := by decide +kernel
theorem dL_law_926 : decode cL_law 926 = .ok (.iadd, 1) := by decide +kernel
theorem dL_law_927 : decode cL_law 927 = .ok (.iaload, 1) := by decide +kernel
theorem dL_law_928 : decode cL_law 928 = .ok (.invokevirtual 120, 3) := by decide +kernel
theorem dL_law_931 : decode cL_law 931 = .ok (.if_icmp .eq 437, 3) := by decide +kernel
theorem dL_law_934 : decode cL_law 934 = .ok (.iconst 0, 1) := by decide +kernel
theorem dL_law_935 : decode cL_law 935 = .ok (.ireturn, 1) := by decide +kernel
theorem dL_law_936 : decode cL_law 936 = .ok (.aload_n 1, 1) := by decide +kernel
theorem dL_law_937 : decode cL_law 937 = .ok (.aload_n 0, 1) := by decide +kernel
theorem dL_law_938 : decode cL_law 938 = .ok (.iload_n 3, 1) := by decide +kernel
theorem dL_law_939 : decode cL_law 939 = .ok (.iconst 1, 1) := by decide +kernel
theorem dL_law_940 : decode cL_law 940 = .ok (.iadd, 1) := by decide +kernel
theorem dL_law_941 : decode cL_law 941 = .ok (.iaload, 1) := by decide +kernel
theorem dL_law_942 : decode cL_law 942 = .ok (.aload_n 0, 1) := by decide +kernel
theorem dL_law_943 : decode cL_law 943 = .ok (.iload_n 3, 1) := by decide +kernel
theorem dL_law_944 : decode cL_law 944 = .ok (.iconst 2, 1) := by decide +kernel
theorem dL_law_945 : decode cL_law 945 = .ok (.iadd, 1) := by decide +kernel
theorem dL_law_946 : decode cL_law 946 = .ok (.iaload, 1) := by decide +kernel
theorem dL_law_947 : decode cL_law 947 = .ok (.aload_n 0, 1) := by decide +kernel
theorem dL_law_948 : decode cL_law 948 = .ok (.iload_n 3, 1) := by decide +kernel
theorem dL_law_949 : decode cL_law 949 = .ok (.iconst 3, 1) := by decide +kernel
theorem dL_law_950 : decode cL_law 950 = .ok (.iadd, 1) := by decide +kernel
theorem dL_law_951 : decode cL_law 951 = .ok (.iaload, 1) := by decide +kernel
theorem dL_law_952 : decode cL_law 952 = .ok (.invokevirtual 121, 3) := by decide +kernel
theorem dL_law_955 : decode cL_law 955 = .ok (.aload_n 2, 1) := by decide +kernel
theorem dL_law_956 : decode cL_law 956 = .ok (.aload_n 0, 1) := by decide +kernel
theorem dL_law_957 : decode cL_law 957 = .ok (.iload_n 3, 1) := by decide +kernel
theorem dL_law_958 : decode cL_law 958 = .ok (.iconst 1, 1) := by decide +kernel
theorem dL_law_959 : decode cL_law 959 = .ok (.iadd, 1) := by decide +kernel
theorem dL_law_960 : decode cL_law 960 = .ok (.iaload, 1) := by decide +kernel
theorem dL_law_961 : decode cL_law 961 = .ok (.aload_n 0, 1) := by decide +kernel
theorem dL_law_962 : decode cL_law 962 = .ok (.iload_n 3, 1) := by decide +kernel
theorem dL_law_963 : decode cL_law 963 = .ok (.iconst 2, 1) := by decide +kernel
theorem dL_law_964 : decode cL_law 964 = .ok (.iadd, 1) := by decide +kernel
theorem dL_law_965 : decode cL_law 965 = .ok (.iaload, 1) := by decide +kernel
theorem dL_law_966 : decode cL_law 966 = .ok (.aload_n 0, 1) := by decide +kernel
theorem dL_law_967 : decode cL_law 967 = .ok (.iload_n 3, 1) := by decide +kernel
theorem dL_law_968 : decode cL_law 968 = .ok (.iconst 3, 1) := by decide +kernel
theorem dL_law_969 : decode cL_law 969 = .ok (.iadd, 1) := by decide +kernel
theorem dL_law_970 : decode cL_law 970 = .ok (.iaload, 1) := by decide +kernel
theorem dL_law_971 : decode cL_law 971 = .ok (.invokevirtual 124, 3) := by decide +kernel
theorem dL_law_974 : decode cL_law 974 = .ok (.if_icmp .eq 394, 3) := by decide +kernel
theorem dL_law_977 : decode cL_law 977 = .ok (.iconst 0, 1) := by decide +kernel
theorem dL_law_978 : decode cL_law 978 = .ok (.ireturn, 1) := by decide +kernel
theorem dL_law_979 : decode cL_law 979 = .ok (.aload_n 1, 1) := by decide +kernel
theorem dL_law_980 : decode cL_law 980 = .ok (.aload_n 0, 1) := by decide +kernel
theorem dL_law_981 : decode cL_law 981 = .ok (.iload_n 3, 1) := by decide +kernel
theorem dL_law_982 : decode cL_law 982 = .ok (.iconst 1, 1) := by decide +kernel
theorem dL_law_983 : decode cL_law 983 = .ok (.iadd, 1) := by decide +kernel
theorem dL_law_984 : decode cL_law 984 = .ok (.iaload, 1) := by decide +kernel
theorem dL_law_985 : decode cL_law 985 = .ok (.aload_n 0, 1) := by decide +kernel
theorem dL_law_986 : decode cL_law 986 = .ok (.iload_n 3, 1) := by decide +kernel
theorem dL_law_987 : decode cL_law 987 = .ok (.iconst 2, 1) := by decide +kernel
theorem dL_law_988 : decode cL_law 988 = .ok (.iadd, 1) := by decide +kernel
theorem dL_law_989 : decode cL_law 989 = .ok (.iaload, 1) := by decide +kernel
theorem dL_law_990 : decode cL_law 990 = .ok (.aload_n 0, 1) := by decide +kernel
theorem dL_law_991 : decode cL_law 991 = .ok (.iload_n 3, 1) := by decide +kernel
theorem dL_law_992 : decode cL_law 992 = .ok (.iconst 3, 1) := by decide +kernel
theorem dL_law_993 : decode cL_law 993 = .ok (.iadd, 1) := by decide +kernel
theorem dL_law_994 : decode cL_law 994 = .ok (.iaload, 1) := by decide +kernel
theorem dL_law_995 : decode cL_law 995 = .ok (.invokevirtual 125, 3) := by decide +kernel
theorem dL_law_998 : decode cL_law 998 = .ok (.aload_n 2, 1) := by decide +kernel
theorem dL_law_999 : decode cL_law 999 = .ok (.aload_n 0, 1) := by decide +kernel
theorem dL_law_1000 : decode cL_law 1000 = .ok (.iload_n 3, 1) := by decide +kernel
theorem dL_law_1001 : decode cL_law 1001 = .ok (.iconst 1, 1) := by decide +kernel
theorem dL_law_1002 : decode cL_law 1002 = .ok (.iadd, 1) := by decide +kernel
theorem dL_law_1003 : decode cL_law 1003 = .ok (.iaload, 1) := by decide +kernel
theorem dL_law_1004 : decode cL_law 1004 = .ok (.aload_n 0, 1) := by decide +kernel
theorem dL_law_1005 : decode cL_law 1005 = .ok (.iload_n 3, 1) := by decide +kernel
theorem dL_law_1006 : decode cL_law 1006 = .ok (.iconst 2, 1) := by decide +kernel
theorem dL_law_1007 : decode cL_law 1007 = .ok (.iadd, 1) := by decide +kernel
theorem dL_law_1008 : decode cL_law 1008 = .ok (.iaload, 1) := by decide +kernel
theorem dL_law_1009 : decode cL_law 1009 = .ok (.aload_n 0, 1) := by decide +kernel
theorem dL_law_1010 : decode cL_law 1010 = .ok (.iload_n 3, 1) := by decide +kernel
theorem dL_law_1011 : decode cL_law 1011 = .ok (.iconst 3, 1) := by decide +kernel
theorem dL_law_1012 : decode cL_law 1012 = .ok (.iadd, 1) := by decide +kernel
theorem dL_law_1013 : decode cL_law 1013 = .ok (.iaload, 1) := by decide +kernel
theorem dL_law_1014 : decode cL_law 1014 = .ok (.invokevirtual 128, 3) := by decide +kernel
theorem dL_law_1017 : decode cL_law 1017 = .ok (.if_icmp .eq 351, 3) := by decide +kernel
theorem dL_law_1020 : decode cL_law 1020 = .ok (.iconst 0, 1) := by decide +kernel
theorem dL_law_1021 : decode cL_law 1021 = .ok (.ireturn, 1) := by decide +kernel
theorem dL_law_1022 : decode cL_law 1022 = .ok (.aload_n 1, 1) := by decide +kernel
theorem dL_law_1023 : decode cL_law 1023 = .ok (.aload_n 0, 1) := by decide +kernel
theorem dL_law_1024 : decode cL_law 1024 = .ok (.iload_n 3, 1) := by decide +kernel
theorem dL_law_1025 : decode cL_law 1025 = .ok (.iconst 1, 1) := by decide +kernel
theorem dL_law_1026 : decode cL_law 1026 = .ok (.iadd, 1) := by decide +kernel
theorem dL_law_1027 : decode cL_law 1027 = .ok (.iaload, 1) := by decide +kernel
theorem dL_law_1028 : decode cL_law 1028 = .ok (.invokevirtual 129, 3) := by decide +kernel
theorem dL_law_1031 : decode cL_law 1031 = .ok (.aload_n 2, 1) := by decide +kernel
theorem dL_law_1032 : decode cL_law 1032 = .ok (.aload_n 0, 1) := by decide +kernel
theorem dL_law_1033 : decode cL_law 1033 = .ok (.iload_n 3, 1) := by decide +kernel
theorem dL_law_1034 : decode cL_law 1034 = .ok (.iconst 1, 1) := by decide +kernel
theorem dL_law_1035 : decode cL_law 1035 = .ok (.iadd, 1) := by decide +kernel
theorem dL_law_1036 : decode cL_law 1036 = .ok (.iaload, 1) := by decide +kernel
theorem dL_law_1037 : decode cL_law 1037 = .ok (.invokevirtual 132, 3) := by decide +kernel
theorem dL_law_1040 : decode cL_law 1040 = .ok (.if_icmp .eq 328, 3) := by decide +kernel
theorem dL_law_1043 : decode cL_law 1043 = .ok (.iconst 0, 1) := by decide +kernel
theorem dL_law_1044 : decode cL_law 1044 = .ok (.ireturn, 1) := by decide +kernel
theorem dL_law_1045 : decode cL_law 1045 = .ok (.aload_n 1, 1) := by decide +kernel
theorem dL_law_1046 : decode cL_law 1046 = .ok (.aload_n 0, 1) := by decide +kernel
theorem dL_law_1047 : decode cL_law 1047 = .ok (.iload_n 3, 1) := by decide +kernel
theorem dL_law_1048 : decode cL_law 1048 = .ok (.iconst 1, 1) := by decide +kernel
theorem dL_law_1049 : decode cL_law 1049 = .ok (.iadd, 1) := by decide +kernel
theorem dL_law_1050 : decode cL_law 1050 = .ok (.iaload, 1) := by decide +kernel
theorem dL_law_1051 : decode cL_law 1051 = .ok (.invokevirtual 133, 3) := by decide +kernel
theorem dL_law_1054 : decode cL_law 1054 = .ok (.aload_n 2, 1) := by decide +kernel
theorem dL_law_1055 : decode cL_law 1055 = .ok (.aload_n 0, 1) := by decide +kernel
theorem dL_law_1056 : decode cL_law 1056 = .ok (.iload_n 3, 1) := by decide +kernel
theorem dL_law_1057 : decode cL_law 1057 = .ok (.iconst 1, 1) := by decide +kernel
theorem dL_law_1058 : decode cL_law 1058 = .ok (.iadd, 1) := by decide +kernel
theorem dL_law_1059 : decode cL_law 1059 = .ok (.iaload, 1) := by decide +kernel
theorem dL_law_1060 : decode cL_law 1060 = .ok (.invokevirtual 136, 3) := by decide +kernel
theorem dL_law_1063 : decode cL_law 1063 = .ok (.if_icmp .eq 305, 3) := by decide +kernel
theorem dL_law_1066 : decode cL_law 1066 = .ok (.iconst 0, 1) := by decide +kernel
theorem dL_law_1067 : decode cL_law 1067 = .ok (.ireturn, 1) := by decide +kernel
theorem dL_law_1068 : decode cL_law 1068 = .ok (.aload_n 1, 1) := by decide +kernel
theorem dL_law_1069 : decode cL_law 1069 = .ok (.aload_n 0, 1) := by decide +kernel
theorem dL_law_1070 : decode cL_law 1070 = .ok (.iload_n 3, 1) := by decide +kernel
theorem dL_law_1071 : decode cL_law 1071 = .ok (.iconst 1, 1) := by decide +kernel
theorem dL_law_1072 : decode cL_law 1072 = .ok (.iadd, 1) := by decide +kernel
theorem dL_law_1073 : decode cL_law 1073 = .ok (.iaload, 1) := by decide +kernel
theorem dL_law_1074 : decode cL_law 1074 = .ok (.aload_n 0, 1) := by decide +kernel
theorem dL_law_1075 : decode cL_law 1075 = .ok (.iload_n 3, 1) := by decide +kernel
theorem dL_law_1076 : decode cL_law 1076 = .ok (.iconst 2, 1) := by decide +kernel
theorem dL_law_1077 : decode cL_law 1077 = .ok (.iadd, 1) := by decide +kernel
theorem dL_law_1078 : decode cL_law 1078 = .ok (.iaload, 1) := by decide +kernel
theorem dL_law_1079 : decode cL_law 1079 = .ok (.aload_n 0, 1) := by decide +kernel
theorem dL_law_1080 : decode cL_law 1080 = .ok (.iload_n 3, 1) := by decide +kernel
theorem dL_law_1081 : decode cL_law 1081 = .ok (.iconst 3, 1) := by decide +kernel
theorem dL_law_1082 : decode cL_law 1082 = .ok (.iadd, 1) := by decide +kernel
theorem dL_law_1083 : decode cL_law 1083 = .ok (.iaload, 1) := by decide +kernel
theorem dL_law_1084 : decode cL_law 1084 = .ok (.aload_n 0, 1) := by decide +kernel
theorem dL_law_1085 : decode cL_law 1085 = .ok (.iload_n 3, 1) := by decide +kernel
theorem dL_law_1086 : decode cL_law 1086 = .ok (.iconst 4, 1) := by decide +kernel
theorem dL_law_1087 : decode cL_law 1087 = .ok (.iadd, 1) := by decide +kernel
theorem dL_law_1088 : decode cL_law 1088 = .ok (.iaload, 1) := by decide +kernel
theorem dL_law_1089 : decode cL_law 1089 = .ok (.aload_n 0, 1) := by decide +kernel
theorem dL_law_1090 : decode cL_law 1090 = .ok (.iload_n 3, 1) := by decide +kernel
theorem dL_law_1091 : decode cL_law 1091 = .ok (.iconst 5, 1) := by decide +kernel
theorem dL_law_1092 : decode cL_law 1092 = .ok (.iadd, 1) := by decide +kernel
theorem dL_law_1093 : decode cL_law 1093 = .ok (.iaload, 1) := by decide +kernel
theorem dL_law_1094 : decode cL_law 1094 = .ok (.invokevirtual 137, 3) := by decide +kernel
theorem dL_law_1097 : decode cL_law 1097 = .ok (.aload_n 2, 1) := by decide +kernel
theorem dL_law_1098 : decode cL_law 1098 = .ok (.aload_n 0, 1) := by decide +kernel
theorem dL_law_1099 : decode cL_law 1099 = .ok (.iload_n 3, 1) := by decide +kernel
theorem dL_law_1100 : decode cL_law 1100 = .ok (.iconst 1, 1) := by decide +kernel
theorem dL_law_1101 : decode cL_law 1101 = .ok (.iadd, 1) := by decide +kernel
theorem dL_law_1102 : decode cL_law 1102 = .ok (.iaload, 1) := by decide +kernel
theorem dL_law_1103 : decode cL_law 1103 = .ok (.aload_n 0, 1) := by decide +kernel
theorem dL_law_1104 : decode cL_law 1104 = .ok (.iload_n 3, 1) := by decide +kernel
theorem dL_law_1105 : decode cL_law 1105 = .ok (.iconst 2, 1) := by decide +kernel
theorem dL_law_1106 : decode cL_law 1106 = .ok (.iadd, 1) := by decide +kernel
theorem dL_law_1107 : decode cL_law 1107 = .ok (.iaload, 1) := by decide +kernel
theorem dL_law_1108 : decode cL_law 1108 = .ok (.aload_n 0, 1) := by decide +kernel
theorem dL_law_1109 : decode cL_law 1109 = .ok (.iload_n 3, 1) := by decide +kernel
theorem dL_law_1110 : decode cL_law 1110 = .ok (.iconst 3, 1) := by decide +kernel
theorem dL_law_1111 : decode cL_law 1111 = .ok (.iadd, 1) := by decide +kernel
theorem dL_law_1112 : decode cL_law 1112 = .ok (.iaload, 1) := by decide +kernel
theorem dL_law_1113 : decode cL_law 1113 = .ok (.aload_n 0, 1) := by decide +kernel
theorem dL_law_1114 : decode cL_law 1114 = .ok (.iload_n 3, 1) := by decide +kernel
theorem dL_law_1115 : decode cL_law 1115 = .ok (.iconst 4, 1) := by decide +kernel
theorem dL_law_1116 : decode cL_law 1116 = .ok (.iadd, 1) := by decide +kernel
theorem dL_law_1117 : decode cL_law 1117 = .ok (.iaload, 1) := by decide +kernel
theorem dL_law_1118 : decode cL_law 1118 = .ok (.aload_n 0, 1) := by decide +kernel
theorem dL_law_1119 : decode cL_law 1119 = .ok (.iload_n 3, 1) := by decide +kernel
theorem dL_law_1120 : decode cL_law 1120 = .ok (.iconst 5, 1) := by decide +kernel
theorem dL_law_1121 : decode cL_law 1121 = .ok (.iadd, 1) := by decide +kernel
theorem dL_law_1122 : decode cL_law 1122 = .ok (.iaload, 1) := by decide +kernel
theorem dL_law_1123 : decode cL_law 1123 = .ok (.invokevirtual 141, 3) := by decide +kernel
theorem dL_law_1126 : decode cL_law 1126 = .ok (.if_icmp .eq 242, 3) := by decide +kernel
theorem dL_law_1129 : decode cL_law 1129 = .ok (.iconst 0, 1) := by decide +kernel
theorem dL_law_1130 : decode cL_law 1130 = .ok (.ireturn, 1) := by decide +kernel
theorem dL_law_1131 : decode cL_law 1131 = .ok (.aload_n 1, 1) := by decide +kernel
theorem dL_law_1132 : decode cL_law 1132 = .ok (.aload_n 0, 1) := by decide +kernel
theorem dL_law_1133 : decode cL_law 1133 = .ok (.iload_n 3, 1) := by decide +kernel
theorem dL_law_1134 : decode cL_law 1134 = .ok (.iconst 1, 1) := by decide +kernel
theorem dL_law_1135 : decode cL_law 1135 = .ok (.iadd, 1) := by decide +kernel
theorem dL_law_1136 : decode cL_law 1136 = .ok (.iaload, 1) := by decide +kernel
theorem dL_law_1137 : decode cL_law 1137 = .ok (.aload_n 0, 1) := by decide +kernel
theorem dL_law_1138 : decode cL_law 1138 = .ok (.iload_n 3, 1) := by decide +kernel
theorem dL_law_1139 : decode cL_law 1139 = .ok (.iconst 2, 1) := by decide +kernel
theorem dL_law_1140 : decode cL_law 1140 = .ok (.iadd, 1) := by decide +kernel
theorem dL_law_1141 : decode cL_law 1141 = .ok (.iaload, 1) := by decide +kernel
theorem dL_law_1142 : decode cL_law 1142 = .ok (.aload_n 0, 1) := by decide +kernel
theorem dL_law_1143 : decode cL_law 1143 = .ok (.iload_n 3, 1) := by decide +kernel
theorem dL_law_1144 : decode cL_law 1144 = .ok (.iconst 3, 1) := by decide +kernel
theorem dL_law_1145 : decode cL_law 1145 = .ok (.iadd, 1) := by decide +kernel
theorem dL_law_1146 : decode cL_law 1146 = .ok (.iaload, 1) := by decide +kernel
theorem dL_law_1147 : decode cL_law 1147 = .ok (.invokevirtual 142, 3) := by decide +kernel
theorem dL_law_1150 : decode cL_law 1150 = .ok (.aload_n 2, 1) := by decide +kernel
theorem dL_law_1151 : decode cL_law 1151 = .ok (.aload_n 0, 1) := by decide +kernel
theorem dL_law_1152 : decode cL_law 1152 = .ok (.iload_n 3, 1) := by decide +kernel
theorem dL_law_1153 : decode cL_law 1153 = .ok (.iconst 1, 1) := by decide +kernel
theorem dL_law_1154 : decode cL_law 1154 = .ok (.iadd, 1) := by decide +kernel
theorem dL_law_1155 : decode cL_law 1155 = .ok (.iaload, 1) := by decide +kernel
theorem dL_law_1156 : decode cL_law 1156 = .ok (.aload_n 0, 1) := by decide +kernel
theorem dL_law_1157 : decode cL_law 1157 = .ok (.iload_n 3, 1) := by decide +kernel
theorem dL_law_1158 : decode cL_law 1158 = .ok (.iconst 2, 1) := by decide +kernel
theorem dL_law_1159 : decode cL_law 1159 = .ok (.iadd, 1) := by decide +kernel
theorem dL_law_1160 : decode cL_law 1160 = .ok (.iaload, 1) := by decide +kernel
theorem dL_law_1161 : decode cL_law 1161 = .ok (.aload_n 0, 1) := by decide +kernel
theorem dL_law_1162 : decode cL_law 1162 = .ok (.iload_n 3, 1) := by decide +kernel
theorem dL_law_1163 : decode cL_law 1163 = .ok (.iconst 3, 1) := by decide +kernel
theorem dL_law_1164 : decode cL_law 1164 = .ok (.iadd, 1) := by decide +kernel
theorem dL_law_1165 : decode cL_law 1165 = .ok (.iaload, 1) := by decide +kernel
theorem dL_law_1166 : decode cL_law 1166 = .ok (.invokevirtual 145, 3) := by decide +kernel
theorem dL_law_1169 : decode cL_law 1169 = .ok (.if_icmp .eq 199, 3) := by decide +kernel
theorem dL_law_1172 : decode cL_law 1172 = .ok (.iconst 0, 1) := by decide +kernel
theorem dL_law_1173 : decode cL_law 1173 = .ok (.ireturn, 1) := by decide +kernel
theorem dL_law_1174 : decode cL_law 1174 = .ok (.aload_n 1, 1) := by decide +kernel
theorem dL_law_1175 : decode cL_law 1175 = .ok (.aload_n 0, 1) := by decide +kernel
theorem dL_law_1176 : decode cL_law 1176 = .ok (.iload_n 3, 1) := by decide +kernel
theorem dL_law_1177 : decode cL_law 1177 = .ok (.iconst 1, 1) := by decide +kernel
theorem dL_law_1178 : decode cL_law 1178 = .ok (.iadd, 1) := by decide +kernel
theorem dL_law_1179 : decode cL_law 1179 = .ok (.iaload, 1) := by decide +kernel
theorem dL_law_1180 : decode cL_law 1180 = .ok (.aload_n 0, 1) := by decide +kernel
theorem dL_law_1181 : decode cL_law 1181 = .ok (.iload_n 3, 1) := by decide +kernel
theorem dL_law_1182 : decode cL_law 1182 = .ok (.iconst 2, 1) := by decide +kernel
theorem dL_law_1183 : decode cL_law 1183 = .ok (.iadd, 1) := by decide +kernel
theorem dL_law_1184 : decode cL_law 1184 = .ok (.iaload, 1) := by decide +kernel
theorem dL_law_1185 : decode cL_law 1185 = .ok (.invokevirtual 146, 3) := by decide +kernel
theorem dL_law_1188 : decode cL_law 1188 = .ok (.aload_n 2, 1) := by decide +kernel
theorem dL_law_1189 : decode cL_law 1189 = .ok (.aload_n 0, 1) := by decide +kernel
theorem dL_law_1190 : decode cL_law 1190 = .ok (.iload_n 3, 1) := by decide +kernel
theorem dL_law_1191 : decode cL_law 1191 = .ok (.iconst 1, 1) := by decide +kernel
theorem dL_law_1192 : decode cL_law 1192 = .ok (.iadd, 1) := by decide +kernel
theorem dL_law_1193 : decode cL_law 1193 = .ok (.iaload, 1) := by decide +kernel
theorem dL_law_1194 : decode cL_law 1194 = .ok (.aload_n 0, 1) := by decide +kernel
theorem dL_law_1195 : decode cL_law 1195 = .ok (.iload_n 3, 1) := by decide +kernel
theorem dL_law_1196 : decode cL_law 1196 = .ok (.iconst 2, 1) := by decide +kernel
theorem dL_law_1197 : decode cL_law 1197 = .ok (.iadd, 1) := by decide +kernel
theorem dL_law_1198 : decode cL_law 1198 = .ok (.iaload, 1) := by decide +kernel
theorem dL_law_1199 : decode cL_law 1199 = .ok (.invokevirtual 149, 3) := by decide +kernel
theorem dL_law_1202 : decode cL_law 1202 = .ok (.if_icmp .eq 166, 3) := by decide +kernel
theorem dL_law_1205 : decode cL_law 1205 = .ok (.iconst 0, 1) := by decide +kernel
theorem dL_law_1206 : decode cL_law 1206 = .ok (.ireturn, 1) := by decide +kernel
theorem dL_law_1207 : decode cL_law 1207 = .ok (.aload_n 1, 1) := by decide +kernel
theorem dL_law_1208 : decode cL_law 1208 = .ok (.aload_n 0, 1) := by decide +kernel
theorem dL_law_1209 : decode cL_law 1209 = .ok (.iload_n 3, 1) := by decide +kernel
theorem dL_law_1210 : decode cL_law 1210 = .ok (.iconst 1, 1) := by decide +kernel
theorem dL_law_1211 : decode cL_law 1211 = .ok (.iadd, 1) := by decide +kernel
theorem dL_law_1212 : decode cL_law 1212 = .ok (.iaload, 1) := by decide +kernel
theorem dL_law_1213 : decode cL_law 1213 = .ok (.aload_n 0, 1) := by decide +kernel
theorem dL_law_1214 : decode cL_law 1214 = .ok (.iload_n 3, 1) := by decide +kernel
theorem dL_law_1215 : decode cL_law 1215 = .ok (.iconst 2, 1) := by decide +kernel
theorem dL_law_1216 : decode cL_law 1216 = .ok (.iadd, 1) := by decide +kernel
theorem dL_law_1217 : decode cL_law 1217 = .ok (.iaload, 1) := by decide +kernel
theorem dL_law_1218 : decode cL_law 1218 = .ok (.invokevirtual 150, 3) := by decide +kernel
theorem dL_law_1221 : decode cL_law 1221 = .ok (.aload_n 2, 1) := by decide +kernel
theorem dL_law_1222 : decode cL_law 1222 = .ok (.aload_n 0, 1) := by decide +kernel
theorem dL_law_1223 : decode cL_law 1223 = .ok (.iload_n 3, 1) := by decide +kernel
theorem dL_law_1224 : decode cL_law 1224 = .ok (.iconst 1, 1) := by decide +kernel
theorem dL_law_1225 : decode cL_law 1225 = .ok (.iadd, 1) := by decide +kernel
theorem dL_law_1226 : decode cL_law 1226 = .ok (.iaload, 1) := by decide +kernel
theorem dL_law_1227 : decode cL_law 1227 = .ok (.aload_n 0, 1) := by decide +kernel
theorem dL_law_1228 : decode cL_law 1228 = .ok (.iload_n 3, 1) := by decide +kernel
theorem dL_law_1229 : decode cL_law 1229 = .ok (.iconst 2, 1) := by decide +kernel
theorem dL_law_1230 : decode cL_law 1230 = .ok (.iadd, 1) := by decide +kernel
theorem dL_law_1231 : decode cL_law 1231 = .ok (.iaload, 1) := by decide +kernel
theorem dL_law_1232 : decode cL_law 1232 = .ok (.invokevirtual 153, 3) := by decide +kernel
theorem dL_law_1235 : decode cL_law 1235 = .ok (.if_icmp .eq 133, 3) := by decide +kernel
theorem dL_law_1238 : decode cL_law 1238 = .ok (.iconst 0, 1) := by decide +kernel
theorem dL_law_1239 : decode cL_law 1239 = .ok (.ireturn, 1) := by decide +kernel
theorem dL_law_1240 : decode cL_law 1240 = .ok (.aload_n 1, 1) := by decide +kernel
theorem dL_law_1241 : decode cL_law 1241 = .ok (.aload_n 0, 1) := by decide +kernel
theorem dL_law_1242 : decode cL_law 1242 = .ok (.iload_n 3, 1) := by decide +kernel
theorem dL_law_1243 : decode cL_law 1243 = .ok (.iconst 1, 1) := by decide +kernel
theorem dL_law_1244 : decode cL_law 1244 = .ok (.iadd, 1) := by decide +kernel
theorem dL_law_1245 : decode cL_law 1245 = .ok (.iaload, 1) := by decide +kernel
theorem dL_law_1246 : decode cL_law 1246 = .ok (.aload_n 0, 1) := by decide +kernel
theorem dL_law_1247 : decode cL_law 1247 = .ok (.iload_n 3, 1) := by decide +kernel
theorem dL_law_1248 : decode cL_law 1248 = .ok (.iconst 2, 1) := by decide +kernel
theorem dL_law_1249 : decode cL_law 1249 = .ok (.iadd, 1) := by decide +kernel
theorem dL_law_1250 : decode cL_law 1250 = .ok (.iaload, 1) := by decide +kernel
theorem dL_law_1251 : decode cL_law 1251 = .ok (.invokevirtual 154, 3) := by decide +kernel
theorem dL_law_1254 : decode cL_law 1254 = .ok (.aload_n 2, 1) := by decide +kernel
theorem dL_law_1255 : decode cL_law 1255 = .ok (.aload_n 0, 1) := by decide +kernel
theorem dL_law_1256 : decode cL_law 1256 = .ok (.iload_n 3, 1) := by decide +kernel
theorem dL_law_1257 : decode cL_law 1257 = .ok (.iconst 1, 1) := by decide +kernel
theorem dL_law_1258 : decode cL_law 1258 = .ok (.iadd, 1) := by decide +kernel
theorem dL_law_1259 : decode cL_law 1259 = .ok (.iaload, 1) := by decide +kernel
theorem dL_law_1260 : decode cL_law 1260 = .ok (.aload_n 0, 1) := by decide +kernel
theorem dL_law_1261 : decode cL_law 1261 = .ok (.iload_n 3, 1) := by decide +kernel
theorem dL_law_1262 : decode cL_law 1262 = .ok (.iconst 2, 1) := by decide +kernel
theorem dL_law_1263 : decode cL_law 1263 = .ok (.iadd, 1) := by decide +kernel
theorem dL_law_1264 : decode cL_law 1264 = .ok (.iaload, 1) := by decide +kernel
theorem dL_law_1265 : decode cL_law 1265 = .ok (.invokevirtual 157, 3) := by decide +kernel
theorem dL_law_1268 : decode cL_law 1268 = .ok (.if_icmp .eq 100, 3) := by decide +kernel
theorem dL_law_1271 : decode cL_law 1271 = .ok (.iconst 0, 1) := by decide +kernel
theorem dL_law_1272 : decode cL_law 1272 = .ok (.ireturn, 1) := by decide +kernel
theorem dL_law_1273 : decode cL_law 1273 = .ok (.aload_n 1, 1) := by decide +kernel
theorem dL_law_1274 : decode cL_law 1274 = .ok (.aload_n 0, 1) := by decide +kernel
theorem dL_law_1275 : decode cL_law 1275 = .ok (.iload_n 3, 1) := by decide +kernel
theorem dL_law_1276 : decode cL_law 1276 = .ok (.iconst 1, 1) := by decide +kernel
theorem dL_law_1277 : decode cL_law 1277 = .ok (.iadd, 1) := by decide +kernel
theorem dL_law_1278 : decode cL_law 1278 = .ok (.iaload, 1) := by decide +kernel
theorem dL_law_1279 : decode cL_law 1279 = .ok (.invokevirtual 158, 3) := by decide +kernel
theorem dL_law_1282 : decode cL_law 1282 = .ok (.aload_n 2, 1) := by decide +kernel
theorem dL_law_1283 : decode cL_law 1283 = .ok (.aload_n 0, 1) := by decide +kernel
theorem dL_law_1284 : decode cL_law 1284 = .ok (.iload_n 3, 1) := by decide +kernel
theorem dL_law_1285 : decode cL_law 1285 = .ok (.iconst 1, 1) := by decide +kernel
theorem dL_law_1286 : decode cL_law 1286 = .ok (.iadd, 1) := by decide +kernel
theorem dL_law_1287 : decode cL_law 1287 = .ok (.iaload, 1) := by decide +kernel
theorem dL_law_1288 : decode cL_law 1288 = .ok (.invokevirtual 161, 3) := by decide +kernel
theorem dL_law_1291 : decode cL_law 1291 = .ok (.if_icmp .eq 77, 3) := by decide +kernel
theorem dL_law_1294 : decode cL_law 1294 = .ok (.iconst 0, 1) := by decide +kernel
theorem dL_law_1295 : decode cL_law 1295 = .ok (.ireturn, 1) := by decide +kernel
theorem dL_law_1296 : decode cL_law 1296 = .ok (.aload_n 1, 1) := by decide +kernel
theorem dL_law_1297 : decode cL_law 1297 = .ok (.aload_n 0, 1) := by decide +kernel
theorem dL_law_1298 : decode cL_law 1298 = .ok (.iload_n 3, 1) := by decide +kernel
theorem dL_law_1299 : decode cL_law 1299 = .ok (.iconst 1, 1) := by decide +kernel
theorem dL_law_1300 : decode cL_law 1300 = .ok (.iadd, 1) := by decide +kernel
theorem dL_law_1301 : decode cL_law 1301 = .ok (.iaload, 1) := by decide +kernel
theorem dL_law_1302 : decode cL_law 1302 = .ok (.invokevirtual 162, 3) := by decide +kernel
theorem dL_law_1305 : decode cL_law 1305 = .ok (.aload_n 2, 1) := by decide +kernel
theorem dL_law_1306 : decode cL_law 1306 = .ok (.aload_n 0, 1) := by decide +kernel
theorem dL_law_1307 : decode cL_law 1307 = .ok (.iload_n 3, 1) := by decide +kernel
theorem dL_law_1308 : decode cL_law 1308 = .ok (.iconst 1, 1) := by decide +kernel
theorem dL_law_1309 : decode cL_law 1309 = .ok (.iadd, 1) := by decide +kernel
theorem dL_law_1310 : decode cL_law 1310 = .ok (.iaload, 1) := by decide +kernel
theorem dL_law_1311 : decode cL_law 1311 = .ok (.invokevirtual 165, 3) := by decide +kernel
theorem dL_law_1314 : decode cL_law 1314 = .ok (.if_icmp .eq 54, 3) := by decide +kernel
theorem dL_law_1317 : decode cL_law 1317 = .ok (.iconst 0, 1) := by decide +kernel
theorem dL_law_1318 : decode cL_law 1318 = .ok (.ireturn, 1) := by decide +kernel
theorem dL_law_1319 : decode cL_law 1319 = .ok (.aload_n 1, 1) := by decide +kernel
theorem dL_law_1320 : decode cL_law 1320 = .ok (.invokevirtual 166, 3) := by decide +kernel
theorem dL_law_1323 : decode cL_law 1323 = .ok (.aload_n 2, 1) := by decide +kernel
theorem dL_law_1324 : decode cL_law 1324 = .ok (.invokevirtual 169, 3) := by decide +kernel
theorem dL_law_1327 : decode cL_law 1327 = .ok (.if_icmp .eq 41, 3) := by decide +kernel
theorem dL_law_1330 : decode cL_law 1330 = .ok (.iconst 0, 1) := by decide +kernel
theorem dL_law_1331 : decode cL_law 1331 = .ok (.ireturn, 1) := by decide +kernel
theorem dL_law_1332 : decode cL_law 1332 = .ok (.aload_n 1, 1) := by decide +kernel
theorem dL_law_1333 : decode cL_law 1333 = .ok (.invokevirtual 170, 3) := by decide +kernel
theorem dL_law_1336 : decode cL_law 1336 = .ok (.aload_n 2, 1) := by decide +kernel
theorem dL_law_1337 : decode cL_law 1337 = .ok (.invokevirtual 173, 3) := by decide +kernel
theorem dL_law_1340 : decode cL_law 1340 = .ok (.if_icmp .eq 28, 3) := by decide +kernel
theorem dL_law_1343 : decode cL_law 1343 = .ok (.iconst 0, 1) := by decide +kernel
theorem dL_law_1344 : decode cL_law 1344 = .ok (.ireturn, 1) := by decide +kernel
theorem dL_law_1345 : decode cL_law 1345 = .ok (.aload_n 1, 1) := by decide +kernel
theorem dL_law_1346 : decode cL_law 1346 = .ok (.aload_n 0, 1) := by decide +kernel
theorem dL_law_1347 : decode cL_law 1347 = .ok (.iload_n 3, 1) := by decide +kernel
theorem dL_law_1348 : decode cL_law 1348 = .ok (.iconst 1, 1) := by decide +kernel
theorem dL_law_1349 : decode cL_law 1349 = .ok (.iadd, 1) := by decide +kernel
theorem dL_law_1350 : decode cL_law 1350 = .ok (.iaload, 1) := by decide +kernel
theorem dL_law_1351 : decode cL_law 1351 = .ok (.invokevirtual 174, 3) := by decide +kernel
theorem dL_law_1354 : decode cL_law 1354 = .ok (.aload_n 2, 1) := by decide +kernel
theorem dL_law_1355 : decode cL_law 1355 = .ok (.aload_n 0, 1) := by decide +kernel
theorem dL_law_1356 : decode cL_law 1356 = .ok (.iload_n 3, 1) := by decide +kernel
theorem dL_law_1357 : decode cL_law 1357 = .ok (.iconst 1, 1) := by decide +kernel
theorem dL_law_1358 : decode cL_law 1358 = .ok (.iadd, 1) := by decide +kernel
theorem dL_law_1359 : decode cL_law 1359 = .ok (.iaload, 1) := by decide +kernel
theorem dL_law_1360 : decode cL_law 1360 = .ok (.invokevirtual 177, 3) := by decide +kernel
theorem dL_law_1363 : decode cL_law 1363 = .ok (.if_icmp .eq 5, 3) := by decide +kernel
theorem dL_law_1366 : decode cL_law 1366 = .ok (.iconst 0, 1) := by decide +kernel
theorem dL_law_1367 : decode cL_law 1367 = .ok (.ireturn, 1) := by decide +kernel
theorem dL_law_1368 : decode cL_law 1368 = .ok (.iinc 3 6, 3) := by decide +kernel
theorem dL_law_1371 : decode cL_law 1371 = .ok (.goto (-1353), 3) := by decide +kernel
theorem dL_law_1374 : decode cL_law 1374 = .ok (.iconst 1, 1) := by decide +kernel
theorem dL_law_1375 : decode cL_law 1375 = .ok (.ireturn, 1) := by decide +kernel
end
section
/-! ===== the store of all ints, the shapes of the cells, the world of a shape and a store ===== -/
abbrev ovSt : Type := Nat → Nat → Int32
abbrev ovSc : Type := Nat × Nat × List (Option Nat)
abbrev ovSh : Type := List ovSc
def ov_up (σ : ovSt) (i k : Nat) (v : Int32) : ovSt := fun j => if j = i then upd (σ i) k v else σ j
def ov_row (σ : ovSt) (i : Nat) (f : Nat → Int32) : ovSt := fun j => if j = i then f else σ j
def ov_cv (ad : Nat → Nat) (v : Value) : Value := match v with
  | .ref i => .ref (ad i)
  | w => w
def ov_lc (ad : Nat → Nat) (q : Nat × Value) : Nat × Value := (q.1, ov_cv ad q.2)
def ov_rq (ad : Nat → Nat) (j : Nat) : Option Nat := if j = 9999 then none else some (ad j)
def ov_fv (ad : Nat → Nat) (f : Nat → Int32) (k : Nat) (o : Option Nat) : Value := match o with
  | none => .int (f k)
  | some j => va_rf (ov_rq ad j)
def ov_fl (ad : Nat → Nat) (f : Nat → Int32) : Nat → List (Option Nat) → List Value
  | _, [] => []
  | k, o :: r => ov_fv ad f k o :: ov_fl ad f (k + 1) r
def ov_ce (cy : Nat → ClassId) (ad : Nat → Nat) (f : Nat → Int32) (q : ovSc) : va_E :=
  if q.1 < 7 then .inr (q.1, ov_fl ad f 0 q.2.2)
  else if q.1 < 11 then .inl (cy q.1, q.2.1, .inl f)
  else .inl (cy q.1, q.2.1, .inr (.inr (.inr (.inr (fun k => ((q.2.2[k]?).getD none).bind (ov_rq ad))))))
def ov_ws (cy : Nat → ClassId) (ad : Nat → Nat) (σ : ovSt) : Nat → ovSh → va_W
  | _, [] => []
  | i, c :: r => (ad i, ov_ce cy ad (σ i) c) :: ov_ws cy ad σ (i + 1) r
theorem ov_cv_cat (ad : Nat → Nat) (v : Value) : (ov_cv ad v).category = v.category := by cases v <;> rfl
theorem ov_fl_get (ad : Nat → Nat) (f : Nat → Int32) : ∀ (rs : List (Option Nat)) (k0 k : Nat), (ov_fl ad f k0 rs)[k]? = (rs[k]?).map (ov_fv ad f (k0 + k))
  | [], k0, k => by simp [ov_fl]
  | o :: r, k0, 0 => by simp [ov_fl]
  | o :: r, k0, k + 1 => by
    rw [ov_fl, List.getElem?_cons_succ, List.getElem?_cons_succ, ov_fl_get ad f r (k0 + 1) k, show k0 + 1 + k = k0 + (k + 1) by omega]
theorem ov_fl_len (ad : Nat → Nat) (f : Nat → Int32) : ∀ (rs : List (Option Nat)) (k0 : Nat), (ov_fl ad f k0 rs).length = rs.length
  | [], k0 => rfl
  | o :: r, k0 => by rw [ov_fl, List.length_cons, List.length_cons, ov_fl_len ad f r]
theorem ov_fl_set {ad : Nat → Nat} {f : Nat → Int32} {rs : List (Option Nat)} {k : Nat} (h : rs[k]? = some none) (v : Int32) : (ov_fl ad f 0 rs).set k (.int v) = ov_fl ad (upd f k v) 0 rs := by
  have hk : k < rs.length := (List.getElem?_eq_some_iff.mp h).1
  apply List.ext_getElem?
  intro j
  rw [ov_fl_get]
  by_cases hj : j = k
  · subst hj
    rw [List.getElem?_set_self (by rw [ov_fl_len]; exact hk), h]
    simp [ov_fv, upd]
  · rw [List.getElem?_set_ne (Ne.symm hj), ov_fl_get]
    cases rs[j]? with
    | none => rfl
    | some o =>
      cases o with
      | none => simp [ov_fv, upd, hj]
      | some q => rfl
theorem ov_ws_get (cy : Nat → ClassId) (ad : Nat → Nat) (σ : ovSt) : ∀ (S : ovSh) (i k : Nat), (ov_ws cy ad σ i S)[k]? = (S[k]?).map (fun c => (ad (i + k), ov_ce cy ad (σ (i + k)) c))
  | [], i, k => by simp [ov_ws]
  | c :: r, i, 0 => by simp [ov_ws]
  | c :: r, i, k + 1 => by
    rw [ov_ws, List.getElem?_cons_succ, List.getElem?_cons_succ, ov_ws_get cy ad σ r (i + 1) k, show i + 1 + k = i + (k + 1) by omega]
theorem ov_ws_at {cy : Nat → ClassId} {ad : Nat → Nat} {σ : ovSt} {S : ovSh} {i : Nat} {c : ovSc} (h : S[i]? = some c) : (ov_ws cy ad σ 0 S)[i]? = some (ad i, ov_ce cy ad (σ i) c) := by
  rw [ov_ws_get, h]
  simp
theorem ov_ws_len (cy : Nat → ClassId) (ad : Nat → Nat) (σ : ovSt) : ∀ (S : ovSh) (i : Nat), (ov_ws cy ad σ i S).length = S.length
  | [], i => rfl
  | c :: r, i => by rw [ov_ws, List.length_cons, List.length_cons, ov_ws_len cy ad σ r]
/-- a cell of ints is another one: so is the store -/
theorem ov_ws_set {cy : Nat → ClassId} {ad : Nat → Nat} {σ : ovSt} {S : ovSh} {i : Nat} {c : ovSc} (h : S[i]? = some c) (f : Nat → Int32) : (ov_ws cy ad σ 0 S).set i (ad i, ov_ce cy ad f c) = ov_ws cy ad (ov_row σ i f) 0 S := by
  have hk : i < S.length := (List.getElem?_eq_some_iff.mp h).1
  apply List.ext_getElem?
  intro j
  rw [ov_ws_get]
  by_cases hj : j = i
  · subst hj
    rw [List.getElem?_set_self (by rw [ov_ws_len]; exact hk), h]
    simp [ov_row]
  · rw [List.getElem?_set_ne (Ne.symm hj), ov_ws_get]
    simp [ov_row, hj]
theorem ov_row_up (σ : ovSt) (i k : Nat) (v : Int32) : ov_row σ i (upd (σ i) k v) = ov_up σ i k v := rfl
/-! ===== what is constant: the static array, the texts, links of nest mates ===== -/
def ov_abv (j : Nat) : Int32 := if j = 0 then -1 else if j = 3 then 1 else if j = 4 then 2 else 0
def ov_len : List Nat := [4, 4, 3, 3, 2, 2]
def ov_byt : List (List Int32) := [[102, 97, 100, 101], [98, 105, 108, 108], [108, 111, 116], [97, 103, 116], [116, 119], [100, 116]]
def ov_txt (i : Nat) : String := match i with
  | 0 => "fade"
  | 1 => "bill"
  | 2 => "lot"
  | 3 => "agt"
  | 4 => "tw"
  | _ => "dt"
def ov_nest : List Cond := [.methodLinkNest RX5 9 yX0_init RX5, .methodLinkNest RX5 36 yX4_init RX5, .methodLinkNest RX5 65 yX1_init RX5, .methodLinkNest RX5 66 yX2_init RX5, .methodLinkNest RX2 11 yX1_init RX5, .methodLinkNest RX3 107 yX5_held RX5, .methodLinkNest RX3 113 yX5_worthOf RX5]
def ov_Kst (ad : Nat → Nat) (A : Nat → Prop) (s : State) (H : Heap) : Prop :=
  (va_Z "OldPot" "ABOVE" "[I" (.ref (ad 5000)) A s H ∧ va_T .int (ad 5000) 6 (fun j => .int (ov_abv j)) A s H) ∧
  (vk_S 6 ov_len ov_byt (fun i => ad (6000 + i)) (fun i => ad (6100 + i)) A s H ∧ ∀ i, i < 6 → vk_R "OldPot$Tape" (67 + 2 * i) (ov_txt i) (ad (6000 + i)) s) ∧
  (va_Z "java/lang/String" "COMPACT_STRINGS" "Z" (.int 1) A s H ∧ va_Zq "jdk/internal/util/Preconditions" "SIOOBE_FORMATTER" "Ljava/util/function/BiFunction;" A s H) ∧
  ((∀ w ∈ ov_nest, va_Nw w s) ∧ va_AO RX1 s ∧ va_AO RX2 s)
theorem ov_nest_warm {s U : State} (hW : s.WarmedH U.vm) (h : ∀ w ∈ ov_nest, va_Nw w s) : ∀ w ∈ ov_nest, va_Nw w U := by
  intro w hw
  have h1 := h w hw
  simp only [ov_nest, List.mem_cons, List.not_mem_nil, or_false] at hw
  rcases hw with rfl | rfl | rfl | rfl | rfl | rfl | rfl <;> exact va_Nw.warmM hW h1
theorem ov_nest_same {s U : State} (hv : s.vm = U.vm) (h : ∀ w ∈ ov_nest, va_Nw w s) : ∀ w ∈ ov_nest, va_Nw w U := by
  intro w hw
  have h1 := h w hw
  simp only [ov_nest, List.mem_cons, List.not_mem_nil, or_false] at hw
  rcases hw with rfl | rfl | rfl | rfl | rfl | rfl | rfl <;> exact va_Nw.same rfl hv h1
/-- into a call -/
theorem ov_Kst.call {ad : Nat → Nat} {A B : Nat → Prop} {s U : State} {H : Heap} {locs : List Loc} (h : ov_Kst ad A s s.heap) (hS : va_S A s.heap H locs) (hW : s.WarmedH U.vm) (hU : U.heap = H) (hAB : ∀ q, B q → A q) : ov_Kst ad B U U.heap := by
  obtain ⟨⟨h1, h2⟩, ⟨h3, h4⟩, ⟨h5, h6⟩, h7, h8, h9⟩ := h
  subst hU
  have hq : ∀ a : Nat, a < s.heap.size → ¬ A a → U.heap[a]? = s.heap[a]? := hS.2.1
  exact ⟨⟨((h1.kept hq).narrow hAB).moved hW.alike, ((h2.kept hq).narrow hAB).moved hW.alike⟩, ⟨((h3.kept hq).narrow hAB).moved hW.alike, fun i hi => (h4 i hi).warm hW⟩, ⟨((h5.kept hq).narrow hAB).moved hW.alike, ((h6.kept hq).narrow hAB).moved hW.alike⟩, ov_nest_warm hW h7, h8.moved hW.alike, h9.moved hW.alike⟩
theorem ov_Kst.blind {ad : Nat → Nat} {A : Nat → Prop} {U : State} {g : JFrame} {mk : MethodId} {a : Array Value} (h : ov_Kst ad A U U.heap) : ov_Kst ad A (U.calling g mk a) (U.calling g mk a).heap := by
  obtain ⟨⟨h1, h2⟩, ⟨h3, h4⟩, ⟨h5, h6⟩, h7, h8, h9⟩ := h
  have hv : U.vm.Alike (U.calling g mk a).vm := Vm.Alike.refl U.vm
  exact ⟨⟨h1.moved hv, h2.moved hv⟩, ⟨h3.moved hv, fun i hi => (h4 i hi).same rfl⟩, ⟨h5.moved hv, h6.moved hv⟩, ov_nest_same (s := U) (U := U.calling g mk a) rfl h7, h8.moved hv, h9.moved hv⟩
theorem ov_Kst.ad {ad ad' : Nat → Nat} {A : Nat → Prop} {s : State} {H : Heap} (h : ov_Kst ad A s H) (he : ∀ i, 5000 ≤ i → ad' i = ad i) : ov_Kst ad' A s H := by
  have e1 : (fun i => ad' (6000 + i)) = (fun i => ad (6000 + i)) := funext fun i => he _ (by omega)
  have e2 : (fun i => ad' (6100 + i)) = (fun i => ad (6100 + i)) := funext fun i => he _ (by omega)
  obtain ⟨⟨h1, h2⟩, ⟨h3, h4⟩, h5, h7⟩ := h
  refine ⟨⟨?_, ?_⟩, ⟨?_, fun i hi => ?_⟩, h5, h7⟩
  · rw [he 5000 (by omega)]; exact h1
  · rw [he 5000 (by omega)]; exact h2
  · rw [e1, e2]; exact h3
  · rw [he (6000 + i) (by omega)]; exact h4 i hi
/-! ===== words ===== -/
def gW : List Cond := lw_tbl.filter goodWord
theorem gW_good : ∀ w ∈ gW, (w.onTables && w.keeps) = true ∨ ∃ ty, w = .arrayClass ty := fun w h => good_of_word (List.mem_filter.mp h).2
theorem gW_in {w : Cond} (i : Nat) (h : lw_tbl[i]? = some w) (hg : goodWord w = true) : w ∈ gW := List.mem_filter.mpr ⟨List.mem_of_getElem? h, hg⟩
theorem gW_sub : ∀ w ∈ gW, w ∈ lw_tbl := fun w h => (List.mem_filter.mp h).1
end
section
/-! ===== the judgement: from pc with locals L, operands st, shape S and store σ the method comes to its end ===== -/
abbrev ovX : Type := MethodName × ByteArray × Nat
abbrev ovEx : Type := (Nat → Nat) → (Nat → Prop) → State → Prop
abbrev ovZ : Type := Nat × ovX × ovEx × (Nat × Nat) × Option Nat
abbrev ovK : Type := Option Value → ovSh → ovSt → Prop
def ov_ty (cy : Nat → ClassId) : List (ClassId × FieldType) := [(cy 7, .byte), (cy 8, .char), (cy 9, .int), (cy 10, .boolean), (cy 11, .object RX1), (cy 12, .object RX2), (cy 13, .array .int)]
def ov_ag (N : Option Nat) (ad0 ad : Nat → Nat) : Prop := match N with
  | none => ad = ad0
  | some n => ∀ i, i < n ∨ 5000 ≤ i → ad i = ad0 i
def ov_ri (r : Option Value) : Instr := match r with
  | none => .return_
  | some (.int _) => .ireturn
  | some (.long _) => .lreturn
  | some _ => .areturn
def ov_C (Z : ovZ) (p : Program) (s : State) (m : MethodId) (args : Array Value) (meth : Method) (c : Code) (R : Room) : Prop :=
  p.tables.exec = Jvm.exec ∧ c.code = Z.2.1.2.1 ∧ c.maxLocals = Z.2.1.2.2 ∧ s.vm.findClass Z.2.1.1.cls = some m.cls ∧ (∀ w ∈ gW, w.before args s = true) ∧ (Z.2.1.1.name = "<init>" → meth.name = "<init>") ∧ Z.1 ≤ R.frames ∧ 40 * Z.1 ≤ R.locals ∧ Z.2.2.2.1.1 ≤ R.cells ∧ Z.2.2.2.1.2 ≤ R.slots
def ov_Wd (D : va_G) (cy : Nat → ClassId) (A : Nat → Prop) (ad : Nat → Nat) (S : ovSh) (σ : ovSt) (s : State) (H : Heap) (locs : List Loc) : Prop :=
  va_P D vwCl (ov_ws cy ad σ 0 S) H ∧ va_D A (ov_ws cy ad σ 0 S) ∧ va_S A s.heap H locs
def ov_E (Z : ovZ) (D : va_G) (cy : Nat → ClassId) (A : Nat → Prop) (ad0 ad : Nat → Nat) (s : State) : Prop :=
  va_K D vwCl (ov_ty cy) s ∧ (∀ q, s.heap.size ≤ q → A q) ∧ ov_Kst ad A s s.heap ∧ Z.2.2.1 ad A s ∧ ov_ag Z.2.2.2.2 ad0 ad
def ov_Rt (Z : ovZ) (k : ovK) (D : va_G) (cy : Nat → ClassId) (A : Nat → Prop) (ad0 : Nat → Nat) (p : Program) (l : Launch) (e : Env) (R : Room) (s : State) (m : MethodId) (args : Array Value) (below : List Frame) (meth : Method) (c : Code) (Q : State → Prop) : Prop :=
  ∀ (ad : Nat → Nat) (H : Heap) (locs : List Loc) (ls : Array Slot) (pc : Nat) (S : ovSh) (σ : ovSt) (r : Option Value), ov_ag Z.2.2.2.2 ad0 ad → ov_Wd D cy A ad S σ s H locs → k r S σ → decode Z.2.1.2.1 pc = .ok (ov_ri r, 1) →
    W p l e R s m args below meth c H locs Z.2.2.2.1.1 Z.2.2.2.1.2 Q (F0 m pc ls (r.toList.map (ov_cv ad)))
def ov_V (Z : ovZ) (k : ovK) (n : Nat × Nat) (S : ovSh) (pc : Nat) (L : List (Nat × Value)) (st : List Value) (σ : ovSt) : Prop :=
  ∀ (p : Program) (l : Launch) (e : Env) (R : Room) (s : State) (m : MethodId) (args : Array Value) (below : List Frame) (meth : Method) (c : Code) (Q : State → Prop) (D : va_G) (cy : Nat → ClassId) (A : Nat → Prop) (ad0 ad : Nat → Nat) (H : Heap) (locs : List Loc) (ls : Array Slot),
    ov_C Z p s m args meth c R → ov_Rt Z k D cy A ad0 p l e R s m args below meth c Q → ov_E Z D cy A ad0 ad s → ov_Wd D cy A ad S σ s H locs → lv_has ls Z.2.1.2.2 (L.map (ov_lc ad)) →
    W p l e R s m args below meth c H locs n.1 n.2 Q (F0 m pc ls (st.map (ov_cv ad)))
theorem ov_lget {ad : Nat → Nat} {ls : Array Slot} {nL : Nat} {L : List (Nat × Value)} (h : lv_has ls nL (L.map (ov_lc ad))) (j : Nat) {i : Nat} {v : Value} (hj : L[j]? = some (i, v)) : ls[i]? = some (.val (ov_cv ad v)) :=
  lv_at h j (by rw [List.getElem?_map, hj]; rfl)
def ov_ls (i : Nat) (v : Value) (L : List (Nat × Value)) : List (Nat × Value) := (i, v) :: L.filter (fun q => !(q.1 == i) && !(q.1 + 1 == i && q.2.category == 2))
def ov_ls2 (i : Nat) (v : Value) (L : List (Nat × Value)) : List (Nat × Value) := (i, v) :: L.filter (fun q => !(q.1 == i) && (!(q.1 == i + 1) && !(q.1 + 1 == i && q.2.category == 2)))
theorem ov_lmap (ad : Nat → Nat) (i : Nat) (v : Value) (L : List (Nat × Value)) : (i, ov_cv ad v) :: (L.map (ov_lc ad)).filter (fun q => !(q.1 == i) && !(q.1 + 1 == i && q.2.category == 2)) = (ov_ls i v L).map (ov_lc ad) := by
  unfold ov_ls
  rw [List.map_cons, List.filter_map]
  congr 3
  funext q
  simp [ov_lc, ov_cv_cat]
theorem ov_lmap2 (ad : Nat → Nat) (i : Nat) (v : Value) (L : List (Nat × Value)) : (i, ov_cv ad v) :: (L.map (ov_lc ad)).filter (fun q => !(q.1 == i) && (!(q.1 == i + 1) && !(q.1 + 1 == i && q.2.category == 2))) = (ov_ls2 i v L).map (ov_lc ad) := by
  unfold ov_ls2
  rw [List.map_cons, List.filter_map]
  congr 3
  funext q
  simp [ov_lc, ov_cv_cat]
section OVR
variable {Z : ovZ} {k : ovK} {n : Nat × Nat} {S : ovSh} {pc : Nat} {L : List (Nat × Value)} {st : List Value} {σ : ovSt}
theorem ov_iconst {q : Int} (v : Int32) (hv : Int32.ofInt q = v) (hd : decode Z.2.1.2.1 pc = .ok (.iconst q, 1)) (h : ov_V Z k n S (pc + 1) L (.int v :: st) σ) : ov_V Z k n S pc L (st) σ := by
  intro p l e R s m args below meth c Q D cy A ad0 ad H locs ls hC hT hE hW hl
  exact lv_iconst hC.1 hC.2.1 hd hv (h p l e R s m args below meth c Q D cy A ad0 ad H locs ls hC hT hE hW hl)
theorem ov_bipush {q : Int} (v : Int32) (hv : (Int8.ofInt q).toInt32 = v) (hd : decode Z.2.1.2.1 pc = .ok (.bipush q, 2)) (h : ov_V Z k n S (pc + 2) L (.int v :: st) σ) : ov_V Z k n S pc L (st) σ := by
  intro p l e R s m args below meth c Q D cy A ad0 ad H locs ls hC hT hE hW hl
  exact lv_bipush hC.1 hC.2.1 hd hv (h p l e R s m args below meth c Q D cy A ad0 ad H locs ls hC hT hE hW hl)
theorem ov_sipush {q : Int} (v : Int32) (hv : (Int16.ofInt q).toInt32 = v) (hd : decode Z.2.1.2.1 pc = .ok (.sipush q, 3)) (h : ov_V Z k n S (pc + 3) L (.int v :: st) σ) : ov_V Z k n S pc L (st) σ := by
  intro p l e R s m args below meth c Q D cy A ad0 ad H locs ls hC hT hE hW hl
  exact lv_sipush hC.1 hC.2.1 hd hv (h p l e R s m args below meth c Q D cy A ad0 ad H locs ls hC hT hE hW hl)
theorem ov_lconst {q : Fin 2} (v : Int64) (hv : Int64.ofNat (q : Nat) = v) (hd : decode Z.2.1.2.1 pc = .ok (.lconst q, 1)) (h : ov_V Z k n S (pc + 1) L (.long v :: st) σ) : ov_V Z k n S pc L (st) σ := by
  intro p l e R s m args below meth c Q D cy A ad0 ad H locs ls hC hT hE hW hl
  exact lv_lconst hC.1 hC.2.1 hd hv (h p l e R s m args below meth c Q D cy A ad0 ad H locs ls hC hT hE hW hl)
theorem ov_ldc {index : Nat} {v : Int32} (hd : decode Z.2.1.2.1 pc = .ok (.ldc index, 2)) (hw : Cond.constant Z.2.1.1.cls index v ∈ gW) (h : ov_V Z k n S (pc + 2) L (.int v :: st) σ) : ov_V Z k n S pc L st σ := by
  intro p l e R s m args below meth c Q D cy A ad0 ad H locs ls hC hT hE hW hl
  exact lv_ldc hC.1 hC.2.1 hC.2.2.2.1 (hC.2.2.2.2.1 _ hw) hd (h p l e R s m args below meth c Q D cy A ad0 ad H locs ls hC hT hE hW hl)
theorem ov_ldcw {index : Nat} {v : Int32} (hd : decode Z.2.1.2.1 pc = .ok (.ldc_w index, 3)) (hw : Cond.constant Z.2.1.1.cls index v ∈ gW) (h : ov_V Z k n S (pc + 3) L (.int v :: st) σ) : ov_V Z k n S pc L st σ := by
  intro p l e R s m args below meth c Q D cy A ad0 ad H locs ls hC hT hE hW hl
  exact lv_ldcw hC.1 hC.2.1 hC.2.2.2.1 (hC.2.2.2.2.1 _ hw) hd (h p l e R s m args below meth c Q D cy A ad0 ad H locs ls hC hT hE hW hl)
theorem ov_ldc2 {index : Nat} {v : Int64} (hd : decode Z.2.1.2.1 pc = .ok (.ldc2_w index, 3)) (hw : Cond.constantLong Z.2.1.1.cls index v ∈ gW) (h : ov_V Z k n S (pc + 3) L (.long v :: st) σ) : ov_V Z k n S pc L st σ := by
  intro p l e R s m args below meth c Q D cy A ad0 ad H locs ls hC hT hE hW hl
  exact lv_ldc2 hC.1 hC.2.1 hC.2.2.2.1 (hC.2.2.2.2.1 _ hw) hd (h p l e R s m args below meth c Q D cy A ad0 ad H locs ls hC hT hE hW hl)
theorem ov_iload_n {q : Fin 4} {x : Int32} (hd : decode Z.2.1.2.1 pc = .ok (.iload_n q, 1)) (j : Nat) (hj : L[j]? = some ((q : Nat), .int x)) (h : ov_V Z k n S (pc + 1) L (.int x :: st) σ) : ov_V Z k n S pc L st σ := by
  intro p l e R s m args below meth c Q D cy A ad0 ad H locs ls hC hT hE hW hl
  exact lv_iload_n hC.1 hC.2.1 hd rfl (ov_lget hl j hj) (h p l e R s m args below meth c Q D cy A ad0 ad H locs ls hC hT hE hW hl)
theorem ov_iload {q : Nat} {x : Int32} (hd : decode Z.2.1.2.1 pc = .ok (.iload q, 2)) (j : Nat) (hj : L[j]? = some (q, .int x)) (h : ov_V Z k n S (pc + 2) L (.int x :: st) σ) : ov_V Z k n S pc L st σ := by
  intro p l e R s m args below meth c Q D cy A ad0 ad H locs ls hC hT hE hW hl
  exact lv_iload hC.1 hC.2.1 hd (ov_lget hl j hj) (h p l e R s m args below meth c Q D cy A ad0 ad H locs ls hC hT hE hW hl)
theorem ov_istore_n {q : Fin 4} {x : Int32} (hd : decode Z.2.1.2.1 pc = .ok (.istore_n q, 1)) (hn : (q : Nat) < Z.2.1.2.2) (L' : List (Nat × Value)) (hL : ov_ls (q : Nat) (.int x) L = L') (h : ov_V Z k n S (pc + 1) L' st σ) : ov_V Z k n S pc L (.int x :: st) σ := by
  intro p l e R s m args below meth c Q D cy A ad0 ad H locs ls hC hT hE hW hl
  subst hL
  exact lv_istore_n hC.1 hC.2.1 hd rfl hl hn (ov_lmap ad (q : Nat) (.int x) L) (fun ls hl => (h p l e R s m args below meth c Q D cy A ad0 ad H locs ls hC hT hE hW hl))
theorem ov_istore {q : Nat} {x : Int32} (hd : decode Z.2.1.2.1 pc = .ok (.istore q, 2)) (hn : q < Z.2.1.2.2) (L' : List (Nat × Value)) (hL : ov_ls q (.int x) L = L') (h : ov_V Z k n S (pc + 2) L' st σ) : ov_V Z k n S pc L (.int x :: st) σ := by
  intro p l e R s m args below meth c Q D cy A ad0 ad H locs ls hC hT hE hW hl
  subst hL
  exact lv_istore hC.1 hC.2.1 hd hl hn (ov_lmap ad q (.int x) L) (fun ls hl => (h p l e R s m args below meth c Q D cy A ad0 ad H locs ls hC hT hE hW hl))
theorem ov_lload_n {q : Fin 4} {x : Int64} (hd : decode Z.2.1.2.1 pc = .ok (.lload_n q, 1)) (j : Nat) (hj : L[j]? = some ((q : Nat), .long x)) (h : ov_V Z k n S (pc + 1) L (.long x :: st) σ) : ov_V Z k n S pc L st σ := by
  intro p l e R s m args below meth c Q D cy A ad0 ad H locs ls hC hT hE hW hl
  exact lv_lload_n hC.1 hC.2.1 hd rfl (ov_lget hl j hj) (h p l e R s m args below meth c Q D cy A ad0 ad H locs ls hC hT hE hW hl)
theorem ov_lload {q : Nat} {x : Int64} (hd : decode Z.2.1.2.1 pc = .ok (.lload q, 2)) (j : Nat) (hj : L[j]? = some (q, .long x)) (h : ov_V Z k n S (pc + 2) L (.long x :: st) σ) : ov_V Z k n S pc L st σ := by
  intro p l e R s m args below meth c Q D cy A ad0 ad H locs ls hC hT hE hW hl
  exact lv_lload hC.1 hC.2.1 hd (ov_lget hl j hj) (h p l e R s m args below meth c Q D cy A ad0 ad H locs ls hC hT hE hW hl)
theorem ov_lstore_n {q : Fin 4} {x : Int64} (hd : decode Z.2.1.2.1 pc = .ok (.lstore_n q, 1)) (hn : (q : Nat) + 1 < Z.2.1.2.2) (L' : List (Nat × Value)) (hL : ov_ls2 (q : Nat) (.long x) L = L') (h : ov_V Z k n S (pc + 1) L' st σ) : ov_V Z k n S pc L (.long x :: st) σ := by
  intro p l e R s m args below meth c Q D cy A ad0 ad H locs ls hC hT hE hW hl
  subst hL
  exact lv_lstore_n hC.1 hC.2.1 hd rfl hl hn (ov_lmap2 ad (q : Nat) (.long x) L) (fun ls hl => (h p l e R s m args below meth c Q D cy A ad0 ad H locs ls hC hT hE hW hl))
theorem ov_lstore {q : Nat} {x : Int64} (hd : decode Z.2.1.2.1 pc = .ok (.lstore q, 2)) (hn : q + 1 < Z.2.1.2.2) (L' : List (Nat × Value)) (hL : ov_ls2 q (.long x) L = L') (h : ov_V Z k n S (pc + 2) L' st σ) : ov_V Z k n S pc L (.long x :: st) σ := by
  intro p l e R s m args below meth c Q D cy A ad0 ad H locs ls hC hT hE hW hl
  subst hL
  exact lv_lstore hC.1 hC.2.1 hd hl hn (ov_lmap2 ad q (.long x) L) (fun ls hl => (h p l e R s m args below meth c Q D cy A ad0 ad H locs ls hC hT hE hW hl))
theorem ov_aload_n {q : Fin 4} {x : Nat} (hd : decode Z.2.1.2.1 pc = .ok (.aload_n q, 1)) (j : Nat) (hj : L[j]? = some ((q : Nat), .ref x)) (h : ov_V Z k n S (pc + 1) L (.ref x :: st) σ) : ov_V Z k n S pc L st σ := by
  intro p l e R s m args below meth c Q D cy A ad0 ad H locs ls hC hT hE hW hl
  exact lv_aload_n hC.1 hC.2.1 hd rfl (ov_lget hl j hj) (h p l e R s m args below meth c Q D cy A ad0 ad H locs ls hC hT hE hW hl)
theorem ov_aload {q : Nat} {x : Nat} (hd : decode Z.2.1.2.1 pc = .ok (.aload q, 2)) (j : Nat) (hj : L[j]? = some (q, .ref x)) (h : ov_V Z k n S (pc + 2) L (.ref x :: st) σ) : ov_V Z k n S pc L st σ := by
  intro p l e R s m args below meth c Q D cy A ad0 ad H locs ls hC hT hE hW hl
  exact lv_aload hC.1 hC.2.1 hd (ov_lget hl j hj) (h p l e R s m args below meth c Q D cy A ad0 ad H locs ls hC hT hE hW hl)
theorem ov_astore_n {q : Fin 4} {x : Nat} (hd : decode Z.2.1.2.1 pc = .ok (.astore_n q, 1)) (hn : (q : Nat) < Z.2.1.2.2) (L' : List (Nat × Value)) (hL : ov_ls (q : Nat) (.ref x) L = L') (h : ov_V Z k n S (pc + 1) L' st σ) : ov_V Z k n S pc L (.ref x :: st) σ := by
  intro p l e R s m args below meth c Q D cy A ad0 ad H locs ls hC hT hE hW hl
  subst hL
  exact lv_astore_n hC.1 hC.2.1 hd rfl hl hn (ov_lmap ad (q : Nat) (.ref x) L) (fun ls hl => (h p l e R s m args below meth c Q D cy A ad0 ad H locs ls hC hT hE hW hl))
theorem ov_astore {q : Nat} {x : Nat} (hd : decode Z.2.1.2.1 pc = .ok (.astore q, 2)) (hn : q < Z.2.1.2.2) (L' : List (Nat × Value)) (hL : ov_ls q (.ref x) L = L') (h : ov_V Z k n S (pc + 2) L' st σ) : ov_V Z k n S pc L (.ref x :: st) σ := by
  intro p l e R s m args below meth c Q D cy A ad0 ad H locs ls hC hT hE hW hl
  subst hL
  exact lv_astore hC.1 hC.2.1 hd hl hn (ov_lmap ad q (.ref x) L) (fun ls hl => (h p l e R s m args below meth c Q D cy A ad0 ad H locs ls hC hT hE hW hl))
theorem ov_iinc {q : Nat} {b : Int} {x : Int32} (hd : decode Z.2.1.2.1 pc = .ok (.iinc q b, 3)) (j : Nat) (hj : L[j]? = some (q, .int x)) (v : Int32) (hv : x + Int32.ofInt b = v) (hn : q < Z.2.1.2.2) (L' : List (Nat × Value)) (hL : ov_ls q (.int v) L = L') (h : ov_V Z k n S (pc + 3) L' st σ) : ov_V Z k n S pc L st σ := by
  intro p l e R s m args below meth c Q D cy A ad0 ad H locs ls hC hT hE hW hl
  subst hL
  exact lv_iinc (k := j) hC.1 hC.2.1 hd hl (by rw [List.getElem?_map, hj]; rfl) hv hn (ov_lmap ad q (.int v) L) (fun ls hl => (h p l e R s m args below meth c Q D cy A ad0 ad H locs ls hC hT hE hW hl))
theorem ov_iadd {x y : Int32} (hd : decode Z.2.1.2.1 pc = .ok (.iadd, 1)) (h : ov_V Z k n S (pc + 1) L (.int (x + y) :: st) σ) : ov_V Z k n S pc L (.int y :: .int x :: st) σ := by
  intro p l e R s m args below meth c Q D cy A ad0 ad H locs ls hC hT hE hW hl
  exact lv_iadd hC.1 hC.2.1 hd  (h p l e R s m args below meth c Q D cy A ad0 ad H locs ls hC hT hE hW hl)
theorem ov_isub {x y : Int32} (hd : decode Z.2.1.2.1 pc = .ok (.isub, 1)) (h : ov_V Z k n S (pc + 1) L (.int (x - y) :: st) σ) : ov_V Z k n S pc L (.int y :: .int x :: st) σ := by
  intro p l e R s m args below meth c Q D cy A ad0 ad H locs ls hC hT hE hW hl
  exact lv_isub hC.1 hC.2.1 hd  (h p l e R s m args below meth c Q D cy A ad0 ad H locs ls hC hT hE hW hl)
theorem ov_imul {x y : Int32} (hd : decode Z.2.1.2.1 pc = .ok (.imul, 1)) (h : ov_V Z k n S (pc + 1) L (.int (x * y) :: st) σ) : ov_V Z k n S pc L (.int y :: .int x :: st) σ := by
  intro p l e R s m args below meth c Q D cy A ad0 ad H locs ls hC hT hE hW hl
  exact lv_imul hC.1 hC.2.1 hd  (h p l e R s m args below meth c Q D cy A ad0 ad H locs ls hC hT hE hW hl)
theorem ov_iand {x y : Int32} (hd : decode Z.2.1.2.1 pc = .ok (.iand, 1)) (h : ov_V Z k n S (pc + 1) L (.int (x &&& y) :: st) σ) : ov_V Z k n S pc L (.int y :: .int x :: st) σ := by
  intro p l e R s m args below meth c Q D cy A ad0 ad H locs ls hC hT hE hW hl
  exact lv_iand hC.1 hC.2.1 hd  (h p l e R s m args below meth c Q D cy A ad0 ad H locs ls hC hT hE hW hl)
def ov_rem (x y : Int32) : Int32 := x - x / y * y
theorem ov_idiv {x y : Int32} (hz : ¬ y = 0) (hd : decode Z.2.1.2.1 pc = .ok (.idiv, 1)) (h : ov_V Z k n S (pc + 1) L (.int (x / y) :: st) σ) : ov_V Z k n S pc L (.int y :: .int x :: st) σ := by
  intro p l e R s m args below meth c Q D cy A ad0 ad H locs ls hC hT hE hW hl
  exact lv_idiv hC.1 hC.2.1 hd hz (h p l e R s m args below meth c Q D cy A ad0 ad H locs ls hC hT hE hW hl)
theorem ov_irem {x y : Int32} (hz : ¬ y = 0) (hd : decode Z.2.1.2.1 pc = .ok (.irem, 1)) (h : ov_V Z k n S (pc + 1) L (.int (x - x / y * y) :: st) σ) : ov_V Z k n S pc L (.int y :: .int x :: st) σ := by
  intro p l e R s m args below meth c Q D cy A ad0 ad H locs ls hC hT hE hW hl
  exact lv_irem hC.1 hC.2.1 hd hz (h p l e R s m args below meth c Q D cy A ad0 ad H locs ls hC hT hE hW hl)
theorem ov_ineg {x : Int32} (hd : decode Z.2.1.2.1 pc = .ok (.ineg, 1)) (h : ov_V Z k n S (pc + 1) L (.int (-x) :: st) σ) : ov_V Z k n S pc L (.int x :: st) σ := by
  intro p l e R s m args below meth c Q D cy A ad0 ad H locs ls hC hT hE hW hl
  exact lv_ineg hC.1 hC.2.1 hd  (h p l e R s m args below meth c Q D cy A ad0 ad H locs ls hC hT hE hW hl)
theorem ov_ishr {x y : Int32} (hd : decode Z.2.1.2.1 pc = .ok (.ishr, 1)) (h : ov_V Z k n S (pc + 1) L (.int (x >>> (y &&& 31)) :: st) σ) : ov_V Z k n S pc L (.int y :: .int x :: st) σ := by
  intro p l e R s m args below meth c Q D cy A ad0 ad H locs ls hC hT hE hW hl
  exact lv_ishr hC.1 hC.2.1 hd  (h p l e R s m args below meth c Q D cy A ad0 ad H locs ls hC hT hE hW hl)
theorem ov_iushr {x y : Int32} (hd : decode Z.2.1.2.1 pc = .ok (.iushr, 1)) (h : ov_V Z k n S (pc + 1) L (.int ((x.toUInt32 >>> (y.toUInt32 &&& Int32.toUInt32 31)).toInt32) :: st) σ) : ov_V Z k n S pc L (.int y :: .int x :: st) σ := by
  intro p l e R s m args below meth c Q D cy A ad0 ad H locs ls hC hT hE hW hl
  exact lv_iushr hC.1 hC.2.1 hd rfl (h p l e R s m args below meth c Q D cy A ad0 ad H locs ls hC hT hE hW hl)
theorem ov_ladd {x y : Int64} (hd : decode Z.2.1.2.1 pc = .ok (.ladd, 1)) (h : ov_V Z k n S (pc + 1) L (.long (x + y) :: st) σ) : ov_V Z k n S pc L (.long y :: .long x :: st) σ := by
  intro p l e R s m args below meth c Q D cy A ad0 ad H locs ls hC hT hE hW hl
  exact lv_ladd hC.1 hC.2.1 hd  (h p l e R s m args below meth c Q D cy A ad0 ad H locs ls hC hT hE hW hl)
theorem ov_lsub {x y : Int64} (hd : decode Z.2.1.2.1 pc = .ok (.lsub, 1)) (h : ov_V Z k n S (pc + 1) L (.long (x - y) :: st) σ) : ov_V Z k n S pc L (.long y :: .long x :: st) σ := by
  intro p l e R s m args below meth c Q D cy A ad0 ad H locs ls hC hT hE hW hl
  exact lv_lsub hC.1 hC.2.1 hd  (h p l e R s m args below meth c Q D cy A ad0 ad H locs ls hC hT hE hW hl)
theorem ov_lmul {x y : Int64} (hd : decode Z.2.1.2.1 pc = .ok (.lmul, 1)) (h : ov_V Z k n S (pc + 1) L (.long (x * y) :: st) σ) : ov_V Z k n S pc L (.long y :: .long x :: st) σ := by
  intro p l e R s m args below meth c Q D cy A ad0 ad H locs ls hC hT hE hW hl
  exact lv_lmul hC.1 hC.2.1 hd  (h p l e R s m args below meth c Q D cy A ad0 ad H locs ls hC hT hE hW hl)
theorem ov_ldiv {x y : Int64} (hz : ¬ y = 0) (hd : decode Z.2.1.2.1 pc = .ok (.ldiv, 1)) (h : ov_V Z k n S (pc + 1) L (.long (x / y) :: st) σ) : ov_V Z k n S pc L (.long y :: .long x :: st) σ := by
  intro p l e R s m args below meth c Q D cy A ad0 ad H locs ls hC hT hE hW hl
  exact lv_ldiv hC.1 hC.2.1 hd hz (h p l e R s m args below meth c Q D cy A ad0 ad H locs ls hC hT hE hW hl)
theorem ov_lneg {x : Int64} (hd : decode Z.2.1.2.1 pc = .ok (.lneg, 1)) (h : ov_V Z k n S (pc + 1) L (.long (-x) :: st) σ) : ov_V Z k n S pc L (.long x :: st) σ := by
  intro p l e R s m args below meth c Q D cy A ad0 ad H locs ls hC hT hE hW hl
  exact lv_lneg hC.1 hC.2.1 hd  (h p l e R s m args below meth c Q D cy A ad0 ad H locs ls hC hT hE hW hl)
theorem ov_lcmp {x y : Int64} (hd : decode Z.2.1.2.1 pc = .ok (.lcmp, 1)) (h : ov_V Z k n S (pc + 1) L (.int (lg_cmp x y) :: st) σ) : ov_V Z k n S pc L (.long y :: .long x :: st) σ := by
  intro p l e R s m args below meth c Q D cy A ad0 ad H locs ls hC hT hE hW hl
  exact W.lcmp hC.1 hC.2.1 hd  (h p l e R s m args below meth c Q D cy A ad0 ad H locs ls hC hT hE hW hl)
theorem ov_i2l {x : Int32} (hd : decode Z.2.1.2.1 pc = .ok (.i2l, 1)) (h : ov_V Z k n S (pc + 1) L (.long x.toInt64 :: st) σ) : ov_V Z k n S pc L (.int x :: st) σ := by
  intro p l e R s m args below meth c Q D cy A ad0 ad H locs ls hC hT hE hW hl
  exact lv_i2l hC.1 hC.2.1 hd rfl (h p l e R s m args below meth c Q D cy A ad0 ad H locs ls hC hT hE hW hl)
theorem ov_l2i {x : Int64} (hd : decode Z.2.1.2.1 pc = .ok (.l2i, 1)) (h : ov_V Z k n S (pc + 1) L (.int x.toInt32 :: st) σ) : ov_V Z k n S pc L (.long x :: st) σ := by
  intro p l e R s m args below meth c Q D cy A ad0 ad H locs ls hC hT hE hW hl
  exact lv_l2i hC.1 hC.2.1 hd rfl (h p l e R s m args below meth c Q D cy A ad0 ad H locs ls hC hT hE hW hl)
theorem ov_i2b {x : Int32} (hd : decode Z.2.1.2.1 pc = .ok (.i2b, 1)) (h : ov_V Z k n S (pc + 1) L (.int x.toInt8.toInt32 :: st) σ) : ov_V Z k n S pc L (.int x :: st) σ := by
  intro p l e R s m args below meth c Q D cy A ad0 ad H locs ls hC hT hE hW hl
  exact lv_i2b hC.1 hC.2.1 hd rfl (h p l e R s m args below meth c Q D cy A ad0 ad H locs ls hC hT hE hW hl)
theorem ov_i2s {x : Int32} (hd : decode Z.2.1.2.1 pc = .ok (.i2s, 1)) (h : ov_V Z k n S (pc + 1) L (.int x.toInt16.toInt32 :: st) σ) : ov_V Z k n S pc L (.int x :: st) σ := by
  intro p l e R s m args below meth c Q D cy A ad0 ad H locs ls hC hT hE hW hl
  exact lv_i2s hC.1 hC.2.1 hd rfl (h p l e R s m args below meth c Q D cy A ad0 ad H locs ls hC hT hE hW hl)
theorem ov_i2c {x : Int32} (hd : decode Z.2.1.2.1 pc = .ok (.i2c, 1)) (h : ov_V Z k n S (pc + 1) L (.int (x.toUInt32 % 65536).toInt32 :: st) σ) : ov_V Z k n S pc L (.int x :: st) σ := by
  intro p l e R s m args below meth c Q D cy A ad0 ad H locs ls hC hT hE hW hl
  exact lv_i2c hC.1 hC.2.1 hd rfl (h p l e R s m args below meth c Q D cy A ad0 ad H locs ls hC hT hE hW hl)
theorem ov_dup {v : Value} (hv : v.category = 1) (hd : decode Z.2.1.2.1 pc = .ok (.dup, 1)) (h : ov_V Z k n S (pc + 1) L (v :: v :: st) σ) : ov_V Z k n S pc L (v :: st) σ := by
  intro p l e R s m args below meth c Q D cy A ad0 ad H locs ls hC hT hE hW hl
  exact lv_dup hC.1 hC.2.1 hd ((ov_cv_cat ad v).trans hv) (h p l e R s m args below meth c Q D cy A ad0 ad H locs ls hC hT hE hW hl)
theorem ov_pop {v : Value} (hv : v.category = 1) (hd : decode Z.2.1.2.1 pc = .ok (.pop, 1)) (h : ov_V Z k n S (pc + 1) L (st) σ) : ov_V Z k n S pc L (v :: st) σ := by
  intro p l e R s m args below meth c Q D cy A ad0 ad H locs ls hC hT hE hW hl
  exact lv_pop hC.1 hC.2.1 hd ((ov_cv_cat ad v).trans hv) (h p l e R s m args below meth c Q D cy A ad0 ad H locs ls hC hT hE hW hl)
theorem ov_dup2 {v w : Value} (hv : v.category = 1) (hw : w.category = 1) (hd : decode Z.2.1.2.1 pc = .ok (.dup2, 1)) (h : ov_V Z k n S (pc + 1) L (v :: w :: v :: w :: st) σ) : ov_V Z k n S pc L (v :: w :: st) σ := by
  intro p l e R s m args below meth c Q D cy A ad0 ad H locs ls hC hT hE hW hl
  exact lv_dup2_11 hC.1 hC.2.1 hd ((ov_cv_cat ad v).trans hv) ((ov_cv_cat ad w).trans hw) (h p l e R s m args below meth c Q D cy A ad0 ad H locs ls hC hT hE hW hl)
theorem ov_if_eq {x : Int32} {off : Int} (tgt : Nat) {A B : Prop} (hd : decode Z.2.1.2.1 pc = .ok (.ifCond .eq off, 3)) (ht : (pc : Int) + off = (tgt : Int)) (hF : if x = 0 then A else B) (h1 : A → ov_V Z k n S tgt L st σ) (h2 : B → ov_V Z k n S (pc + 3) L st σ) : ov_V Z k n S pc L (.int x :: st) σ := by
  intro p l e R s m args below meth c Q D cy A ad0 ad H locs ls hC hT hE hW hl
  exact lv_if_eq hC.1 hC.2.1 hd ht (fun z => h1 (by first | (rw [if_pos z] at hF; exact hF) | (rw [if_neg z] at hF; exact hF)) p l e R s m args below meth c Q D cy _ ad0 ad H locs ls hC hT hE hW hl) (fun z => h2 (by first | (rw [if_pos z] at hF; exact hF) | (rw [if_neg z] at hF; exact hF)) p l e R s m args below meth c Q D cy _ ad0 ad H locs ls hC hT hE hW hl)
theorem ov_icmp_eq {x y : Int32} {off : Int} (tgt : Nat) {A B : Prop} (hd : decode Z.2.1.2.1 pc = .ok (.if_icmp .eq off, 3)) (ht : (pc : Int) + off = (tgt : Int)) (hF : if x = y then A else B) (h1 : A → ov_V Z k n S tgt L st σ) (h2 : B → ov_V Z k n S (pc + 3) L st σ) : ov_V Z k n S pc L (.int y :: .int x :: st) σ := by
  intro p l e R s m args below meth c Q D cy A ad0 ad H locs ls hC hT hE hW hl
  exact lv_icmp_eq hC.1 hC.2.1 hd ht (fun z => h1 (by first | (rw [if_pos z] at hF; exact hF) | (rw [if_neg z] at hF; exact hF)) p l e R s m args below meth c Q D cy _ ad0 ad H locs ls hC hT hE hW hl) (fun z => h2 (by first | (rw [if_pos z] at hF; exact hF) | (rw [if_neg z] at hF; exact hF)) p l e R s m args below meth c Q D cy _ ad0 ad H locs ls hC hT hE hW hl)
theorem ov_if_ne {x : Int32} {off : Int} (tgt : Nat) {A B : Prop} (hd : decode Z.2.1.2.1 pc = .ok (.ifCond .ne off, 3)) (ht : (pc : Int) + off = (tgt : Int)) (hF : if x = 0 then A else B) (h1 : B → ov_V Z k n S tgt L st σ) (h2 : A → ov_V Z k n S (pc + 3) L st σ) : ov_V Z k n S pc L (.int x :: st) σ := by
  intro p l e R s m args below meth c Q D cy A ad0 ad H locs ls hC hT hE hW hl
  exact lv_if_ne hC.1 hC.2.1 hd ht (fun z => h1 (by first | (rw [if_pos z] at hF; exact hF) | (rw [if_neg z] at hF; exact hF)) p l e R s m args below meth c Q D cy _ ad0 ad H locs ls hC hT hE hW hl) (fun z => h2 (by first | (rw [if_pos z] at hF; exact hF) | (rw [if_neg z] at hF; exact hF)) p l e R s m args below meth c Q D cy _ ad0 ad H locs ls hC hT hE hW hl)
theorem ov_icmp_ne {x y : Int32} {off : Int} (tgt : Nat) {A B : Prop} (hd : decode Z.2.1.2.1 pc = .ok (.if_icmp .ne off, 3)) (ht : (pc : Int) + off = (tgt : Int)) (hF : if x = y then A else B) (h1 : B → ov_V Z k n S tgt L st σ) (h2 : A → ov_V Z k n S (pc + 3) L st σ) : ov_V Z k n S pc L (.int y :: .int x :: st) σ := by
  intro p l e R s m args below meth c Q D cy A ad0 ad H locs ls hC hT hE hW hl
  exact lv_icmp_ne hC.1 hC.2.1 hd ht (fun z => h1 (by first | (rw [if_pos z] at hF; exact hF) | (rw [if_neg z] at hF; exact hF)) p l e R s m args below meth c Q D cy _ ad0 ad H locs ls hC hT hE hW hl) (fun z => h2 (by first | (rw [if_pos z] at hF; exact hF) | (rw [if_neg z] at hF; exact hF)) p l e R s m args below meth c Q D cy _ ad0 ad H locs ls hC hT hE hW hl)
theorem ov_if_lt {x : Int32} {off : Int} (tgt : Nat) {A B : Prop} (hd : decode Z.2.1.2.1 pc = .ok (.ifCond .lt off, 3)) (ht : (pc : Int) + off = (tgt : Int)) (hF : if x < 0 then A else B) (h1 : A → ov_V Z k n S tgt L st σ) (h2 : B → ov_V Z k n S (pc + 3) L st σ) : ov_V Z k n S pc L (.int x :: st) σ := by
  intro p l e R s m args below meth c Q D cy A ad0 ad H locs ls hC hT hE hW hl
  exact lv_if_lt hC.1 hC.2.1 hd ht (fun z => h1 (by first | (rw [if_pos z] at hF; exact hF) | (rw [if_neg z] at hF; exact hF)) p l e R s m args below meth c Q D cy _ ad0 ad H locs ls hC hT hE hW hl) (fun z => h2 (by first | (rw [if_pos z] at hF; exact hF) | (rw [if_neg z] at hF; exact hF)) p l e R s m args below meth c Q D cy _ ad0 ad H locs ls hC hT hE hW hl)
theorem ov_icmp_lt {x y : Int32} {off : Int} (tgt : Nat) {A B : Prop} (hd : decode Z.2.1.2.1 pc = .ok (.if_icmp .lt off, 3)) (ht : (pc : Int) + off = (tgt : Int)) (hF : if x < y then A else B) (h1 : A → ov_V Z k n S tgt L st σ) (h2 : B → ov_V Z k n S (pc + 3) L st σ) : ov_V Z k n S pc L (.int y :: .int x :: st) σ := by
  intro p l e R s m args below meth c Q D cy A ad0 ad H locs ls hC hT hE hW hl
  exact lv_icmp_lt hC.1 hC.2.1 hd ht (fun z => h1 (by first | (rw [if_pos z] at hF; exact hF) | (rw [if_neg z] at hF; exact hF)) p l e R s m args below meth c Q D cy _ ad0 ad H locs ls hC hT hE hW hl) (fun z => h2 (by first | (rw [if_pos z] at hF; exact hF) | (rw [if_neg z] at hF; exact hF)) p l e R s m args below meth c Q D cy _ ad0 ad H locs ls hC hT hE hW hl)
theorem ov_if_ge {x : Int32} {off : Int} (tgt : Nat) {A B : Prop} (hd : decode Z.2.1.2.1 pc = .ok (.ifCond .ge off, 3)) (ht : (pc : Int) + off = (tgt : Int)) (hF : if 0 ≤ x then A else B) (h1 : A → ov_V Z k n S tgt L st σ) (h2 : B → ov_V Z k n S (pc + 3) L st σ) : ov_V Z k n S pc L (.int x :: st) σ := by
  intro p l e R s m args below meth c Q D cy A ad0 ad H locs ls hC hT hE hW hl
  exact lv_if_ge hC.1 hC.2.1 hd ht (fun z => h1 (by first | (rw [if_pos z] at hF; exact hF) | (rw [if_neg z] at hF; exact hF)) p l e R s m args below meth c Q D cy _ ad0 ad H locs ls hC hT hE hW hl) (fun z => h2 (by first | (rw [if_pos z] at hF; exact hF) | (rw [if_neg z] at hF; exact hF)) p l e R s m args below meth c Q D cy _ ad0 ad H locs ls hC hT hE hW hl)
theorem ov_icmp_ge {x y : Int32} {off : Int} (tgt : Nat) {A B : Prop} (hd : decode Z.2.1.2.1 pc = .ok (.if_icmp .ge off, 3)) (ht : (pc : Int) + off = (tgt : Int)) (hF : if y ≤ x then A else B) (h1 : A → ov_V Z k n S tgt L st σ) (h2 : B → ov_V Z k n S (pc + 3) L st σ) : ov_V Z k n S pc L (.int y :: .int x :: st) σ := by
  intro p l e R s m args below meth c Q D cy A ad0 ad H locs ls hC hT hE hW hl
  exact lv_icmp_ge hC.1 hC.2.1 hd ht (fun z => h1 (by first | (rw [if_pos z] at hF; exact hF) | (rw [if_neg z] at hF; exact hF)) p l e R s m args below meth c Q D cy _ ad0 ad H locs ls hC hT hE hW hl) (fun z => h2 (by first | (rw [if_pos z] at hF; exact hF) | (rw [if_neg z] at hF; exact hF)) p l e R s m args below meth c Q D cy _ ad0 ad H locs ls hC hT hE hW hl)
theorem ov_if_gt {x : Int32} {off : Int} (tgt : Nat) {A B : Prop} (hd : decode Z.2.1.2.1 pc = .ok (.ifCond .gt off, 3)) (ht : (pc : Int) + off = (tgt : Int)) (hF : if 0 < x then A else B) (h1 : A → ov_V Z k n S tgt L st σ) (h2 : B → ov_V Z k n S (pc + 3) L st σ) : ov_V Z k n S pc L (.int x :: st) σ := by
  intro p l e R s m args below meth c Q D cy A ad0 ad H locs ls hC hT hE hW hl
  exact lv_if_gt hC.1 hC.2.1 hd ht (fun z => h1 (by first | (rw [if_pos z] at hF; exact hF) | (rw [if_neg z] at hF; exact hF)) p l e R s m args below meth c Q D cy _ ad0 ad H locs ls hC hT hE hW hl) (fun z => h2 (by first | (rw [if_pos z] at hF; exact hF) | (rw [if_neg z] at hF; exact hF)) p l e R s m args below meth c Q D cy _ ad0 ad H locs ls hC hT hE hW hl)
theorem ov_icmp_gt {x y : Int32} {off : Int} (tgt : Nat) {A B : Prop} (hd : decode Z.2.1.2.1 pc = .ok (.if_icmp .gt off, 3)) (ht : (pc : Int) + off = (tgt : Int)) (hF : if y < x then A else B) (h1 : A → ov_V Z k n S tgt L st σ) (h2 : B → ov_V Z k n S (pc + 3) L st σ) : ov_V Z k n S pc L (.int y :: .int x :: st) σ := by
  intro p l e R s m args below meth c Q D cy A ad0 ad H locs ls hC hT hE hW hl
  exact lv_icmp_gt hC.1 hC.2.1 hd ht (fun z => h1 (by first | (rw [if_pos z] at hF; exact hF) | (rw [if_neg z] at hF; exact hF)) p l e R s m args below meth c Q D cy _ ad0 ad H locs ls hC hT hE hW hl) (fun z => h2 (by first | (rw [if_pos z] at hF; exact hF) | (rw [if_neg z] at hF; exact hF)) p l e R s m args below meth c Q D cy _ ad0 ad H locs ls hC hT hE hW hl)
theorem ov_if_le {x : Int32} {off : Int} (tgt : Nat) {A B : Prop} (hd : decode Z.2.1.2.1 pc = .ok (.ifCond .le off, 3)) (ht : (pc : Int) + off = (tgt : Int)) (hF : if x ≤ 0 then A else B) (h1 : A → ov_V Z k n S tgt L st σ) (h2 : B → ov_V Z k n S (pc + 3) L st σ) : ov_V Z k n S pc L (.int x :: st) σ := by
  intro p l e R s m args below meth c Q D cy A ad0 ad H locs ls hC hT hE hW hl
  exact lv_if_le hC.1 hC.2.1 hd ht (fun z => h1 (by first | (rw [if_pos z] at hF; exact hF) | (rw [if_neg z] at hF; exact hF)) p l e R s m args below meth c Q D cy _ ad0 ad H locs ls hC hT hE hW hl) (fun z => h2 (by first | (rw [if_pos z] at hF; exact hF) | (rw [if_neg z] at hF; exact hF)) p l e R s m args below meth c Q D cy _ ad0 ad H locs ls hC hT hE hW hl)
theorem ov_icmp_le {x y : Int32} {off : Int} (tgt : Nat) {A B : Prop} (hd : decode Z.2.1.2.1 pc = .ok (.if_icmp .le off, 3)) (ht : (pc : Int) + off = (tgt : Int)) (hF : if x ≤ y then A else B) (h1 : A → ov_V Z k n S tgt L st σ) (h2 : B → ov_V Z k n S (pc + 3) L st σ) : ov_V Z k n S pc L (.int y :: .int x :: st) σ := by
  intro p l e R s m args below meth c Q D cy A ad0 ad H locs ls hC hT hE hW hl
  exact lv_icmp_le hC.1 hC.2.1 hd ht (fun z => h1 (by first | (rw [if_pos z] at hF; exact hF) | (rw [if_neg z] at hF; exact hF)) p l e R s m args below meth c Q D cy _ ad0 ad H locs ls hC hT hE hW hl) (fun z => h2 (by first | (rw [if_pos z] at hF; exact hF) | (rw [if_neg z] at hF; exact hF)) p l e R s m args below meth c Q D cy _ ad0 ad H locs ls hC hT hE hW hl)
theorem ov_goto {off : Int} (tgt : Nat) (hd : decode Z.2.1.2.1 pc = .ok (.goto off, 3)) (ht : (pc : Int) + off = (tgt : Int)) (h : ov_V Z k n S tgt L st σ) : ov_V Z k n S pc L st σ := by
  intro p l e R s m args below meth c Q D cy A ad0 ad H locs ls hC hT hE hW hl
  exact lv_goto hC.1 hC.2.1 hd ht (h p l e R s m args below meth c Q D cy A ad0 ad H locs ls hC hT hE hW hl)
end OVR
end
section
/-! ===== the classes' own words, by their numbers ===== -/
theorem ov_g0 : ∀ w ∈ u_ws RX0 TX0 5, w ∈ gW := fun w h => List.mem_filter.mpr ⟨((goodIn_of (big := lw_tbl) (u_ws RX0 TX0 5) (by decide +kernel)) w h).1, by revert w; decide +kernel⟩
theorem ov_g1 : ∀ w ∈ u_ws RX1 TX1 3, w ∈ gW := fun w h => List.mem_filter.mpr ⟨((goodIn_of (big := lw_tbl) (u_ws RX1 TX1 3) (by decide +kernel)) w h).1, by revert w; decide +kernel⟩
theorem ov_g2 : ∀ w ∈ u_ws RX2 TX2 5, w ∈ gW := fun w h => List.mem_filter.mpr ⟨((goodIn_of (big := lw_tbl) (u_ws RX2 TX2 5) (by decide +kernel)) w h).1, by revert w; decide +kernel⟩
theorem ov_g3 : ∀ w ∈ u_ws RX3 TX3 14, w ∈ gW := fun w h => List.mem_filter.mpr ⟨((goodIn_of (big := lw_tbl) (u_ws RX3 TX3 14) (by decide +kernel)) w h).1, by revert w; decide +kernel⟩
theorem ov_g4 : ∀ w ∈ u_ws RX4 TX4 9, w ∈ gW := fun w h => List.mem_filter.mpr ⟨((goodIn_of (big := lw_tbl) (u_ws RX4 TX4 9) (by decide +kernel)) w h).1, by revert w; decide +kernel⟩
theorem ov_g5 : ∀ w ∈ u_ws RX5 TX5 11, w ∈ gW := fun w h => List.mem_filter.mpr ⟨((goodIn_of (big := lw_tbl) (u_ws RX5 TX5 11) (by decide +kernel)) w h).1, by revert w; decide +kernel⟩
theorem ov_g6 : ∀ w ∈ u_ws RX6 TX6 35, w ∈ gW := fun w h => List.mem_filter.mpr ⟨((goodIn_of (big := lw_tbl) (u_ws RX6 TX6 35) (by decide +kernel)) w h).1, by revert w; decide +kernel⟩
theorem ov_gc {ci : Nat} {C : String} {T : u_T} {N : Nat} (h : vwCl[ci]? = some (C, T, N)) : ∀ w ∈ u_ws C T N, w ∈ gW := by
  match ci, h with
  | 0, h => cases h; exact ov_g0
  | 1, h => cases h; exact ov_g1
  | 2, h => cases h; exact ov_g2
  | 3, h => cases h; exact ov_g3
  | 4, h => cases h; exact ov_g4
  | 5, h => cases h; exact ov_g5
  | 6, h => cases h; exact ov_g6
  | k + 7, h => cases h
theorem ov_gt {ci : Nat} {C : String} {T : u_T} {N : Nat} (h : vwCl[ci]? = some (C, T, N)) : ∃ ty0 : Nat → FieldType, (∀ k, k < N → parseFieldDescriptor (T k).2.2.1 = some (ty0 k)) ∧ (∀ a, a < N → ∀ b, b < N → a ≠ b → (T a).2.1 ≠ (T b).2.1) := by
  match ci, h with
  | 0, h => cases h; exact ⟨tyX0, tyX0_ok, nmX0⟩
  | 1, h => cases h; exact ⟨tyX1, tyX1_ok, nmX1⟩
  | 2, h => cases h; exact ⟨tyX2, tyX2_ok, nmX2⟩
  | 3, h => cases h; exact ⟨tyX3, tyX3_ok, nmX3⟩
  | 4, h => cases h; exact ⟨tyX4, tyX4_ok, nmX4⟩
  | 5, h => cases h; exact ⟨tyX5, tyX5_ok, nmX5⟩
  | 6, h => cases h; exact ⟨tyX6, tyX6_ok, nmX6⟩
  | k + 7, h => cases h
theorem ov_cl7 {ci : Nat} {C : String} {T : u_T} {N : Nat} (h : vwCl[ci]? = some (C, T, N)) : ci < 7 := (List.getElem?_eq_some_iff.mp h).1
theorem ov_at_o {cy : Nat → ClassId} {ad : Nat → Nat} {σ : ovSt} {S : ovSh} {i ci ln : Nat} {rs : List (Option Nat)} (h : S[i]? = some (ci, ln, rs)) (hc : ci < 7) : (ov_ws cy ad σ 0 S)[i]? = some (ad i, .inr (ci, ov_fl ad (σ i) 0 rs)) := by
  rw [ov_ws_at h]
  simp [ov_ce, hc]
theorem ov_at_i {cy : Nat → ClassId} {ad : Nat → Nat} {σ : ovSt} {S : ovSh} {i kd ln : Nat} {rs : List (Option Nat)} (h : S[i]? = some (kd, ln, rs)) (h1 : ¬ kd < 7) (h2 : kd < 11) : (ov_ws cy ad σ 0 S)[i]? = some (ad i, .inl (cy kd, ln, .inl (σ i))) := by
  rw [ov_ws_at h]
  simp [ov_ce, h1, h2]
theorem ov_at_q {cy : Nat → ClassId} {ad : Nat → Nat} {σ : ovSt} {S : ovSh} {i kd ln : Nat} {rs : List (Option Nat)} (h : S[i]? = some (kd, ln, rs)) (h1 : ¬ kd < 7) (h2 : ¬ kd < 11) : (ov_ws cy ad σ 0 S)[i]? = some (ad i, .inl (cy kd, ln, .inr (.inr (.inr (.inr (fun k => ((rs[k]?).getD none).bind (ov_rq ad))))))) := by
  rw [ov_ws_at h]
  simp [ov_ce, h1, h2]
theorem ov_set_o {cy : Nat → ClassId} {ad : Nat → Nat} {σ : ovSt} {S : ovSh} {i ci ln kf : Nat} {rs : List (Option Nat)} (h : S[i]? = some (ci, ln, rs)) (hc : ci < 7) (hr : rs[kf]? = some none) (v : Int32) : (ov_ws cy ad σ 0 S).set i (ad i, .inr (ci, (ov_fl ad (σ i) 0 rs).set kf (.int v))) = ov_ws cy ad (ov_up σ i kf v) 0 S := by
  rw [ov_fl_set hr, ← ov_row_up, ← ov_ws_set h]
  simp [ov_ce, hc]
theorem ov_set_i {cy : Nat → ClassId} {ad : Nat → Nat} {σ : ovSt} {S : ovSh} {i kd ln : Nat} {rs : List (Option Nat)} (h : S[i]? = some (kd, ln, rs)) (h1 : ¬ kd < 7) (h2 : kd < 11) (f : Nat → Int32) : (ov_ws cy ad σ 0 S).set i (ad i, .inl (cy kd, ln, .inl f)) = ov_ws cy ad (ov_row σ i f) 0 S := by
  rw [← ov_ws_set h]
  simp [ov_ce, h1, h2]
/-! ===== rows ===== -/
theorem ov_br {c A B G : Prop} [Decidable c] (hF : if c then A else B) (h1 : c → A → G) (h2 : ¬ c → B → G) : G := by
  by_cases z : c
  · rw [if_pos z] at hF; exact h1 z hF
  · rw [if_neg z] at hF; exact h2 z hF
section OVH
variable {Z : ovZ} {k : ovK} {n : Nat × Nat} {S : ovSh} {pc : Nat} {L : List (Nat × Value)} {st : List Value} {σ : ovSt}
theorem ov_nmI {x : Int32} (h : ∀ v : Int32, v = x → ov_V Z k n S pc L (.int v :: st) σ) : ov_V Z k n S pc L (.int x :: st) σ := h x rfl
theorem ov_nmL {x : Int64} (h : ∀ v : Int64, v = x → ov_V Z k n S pc L (.long v :: st) σ) : ov_V Z k n S pc L (.long x :: st) σ := h x rfl
theorem ov_nmS (h : ∀ σ' : ovSt, σ' = σ → ov_V Z k n S pc L st σ') : ov_V Z k n S pc L st σ := h σ rfl
theorem ov_geti {index i ci ln kf N : Nat} {rs : List (Option Nat)} {C : String} {T : u_T} (hd : decode Z.2.1.2.1 pc = .ok (.getfield index, 3)) (hw : Cond.fieldLink Z.2.1.1.cls index (T kf).1 (T kf).2.1 (T kf).2.2.1 ∈ gW) (hS : S[i]? = some (ci, ln, rs)) (hc : vwCl[ci]? = some (C, T, N)) (hk : kf < N) (hr : rs[kf]? = some none) (h : ov_V Z k n S (pc + 3) L (.int (σ i kf) :: st) σ) : ov_V Z k n S pc L (.ref i :: st) σ := by
  intro p l e R s m args below meth c Q D cy A ad0 ad H locs ls hC hT hE hW hl
  exact va_get hC.1 hC.2.1 hC.2.2.2.2.1 (ov_gc hc) hC.2.2.2.1 hE.1 hW.1 i (ov_at_o hS (ov_cl7 hc)) hc kf hk (hC.2.2.2.2.1 _ hw) (fun _ h9 => h9) (v := .int (σ i kf)) (by rw [ov_fl_get, hr]; simp [ov_fv]) hd (h p l e R s m args below meth c Q D cy A ad0 ad H locs ls hC hT hE hW hl)
theorem ov_getr {index i ci ln kf N j : Nat} {rs : List (Option Nat)} {C : String} {T : u_T} (hd : decode Z.2.1.2.1 pc = .ok (.getfield index, 3)) (hw : Cond.fieldLink Z.2.1.1.cls index (T kf).1 (T kf).2.1 (T kf).2.2.1 ∈ gW) (hS : S[i]? = some (ci, ln, rs)) (hc : vwCl[ci]? = some (C, T, N)) (hk : kf < N) (hr : rs[kf]? = some (some j)) (hj : ¬ j = 9999) (h : ov_V Z k n S (pc + 3) L (.ref j :: st) σ) : ov_V Z k n S pc L (.ref i :: st) σ := by
  intro p l e R s m args below meth c Q D cy A ad0 ad H locs ls hC hT hE hW hl
  exact va_get hC.1 hC.2.1 hC.2.2.2.2.1 (ov_gc hc) hC.2.2.2.1 hE.1 hW.1 i (ov_at_o hS (ov_cl7 hc)) hc kf hk (hC.2.2.2.2.1 _ hw) (fun _ h9 => h9) (v := .ref (ad j)) (by rw [ov_fl_get, hr]; simp [ov_fv, ov_rq, va_rf, hj]) hd (h p l e R s m args below meth c Q D cy A ad0 ad H locs ls hC hT hE hW hl)
theorem ov_puti {index i ci ln kf N : Nat} {x : Int32} {rs : List (Option Nat)} {C : String} {T : u_T} (hd : decode Z.2.1.2.1 pc = .ok (.putfield index, 3)) (hw : Cond.fieldLink Z.2.1.1.cls index (T kf).1 (T kf).2.1 (T kf).2.2.1 ∈ gW) (hS : S[i]? = some (ci, ln, rs)) (hc : vwCl[ci]? = some (C, T, N)) (hk : kf < N) (hr : rs[kf]? = some none) (hfin : (T kf).2.2.2 = false) (hp : parseFieldDescriptor (T kf).2.2.1 = some .int) (h : ov_V Z k n S (pc + 3) L st (ov_up σ i kf x)) : ov_V Z k n S pc L (.int x :: .ref i :: st) σ := by
  intro p l e R s m args below meth c Q D cy A ad0 ad H locs ls hC hT hE hW hl
  obtain ⟨ty0, hty, hnm⟩ := ov_gt hc
  refine va_put (v := .int x) hC.1 hC.2.1 hC.2.2.2.2.1 (ov_gc hc) ty0 hty hnm hC.2.2.2.1 hE.1 hW.1 hW.2.1 hW.2.2 i (ov_at_o hS (ov_cl7 hc)) hc kf hk (hC.2.2.2.2.1 _ hw) (fun _ h9 => h9) hfin hp (vp_nar_int x) rfl (by rw [ov_fl_len]; exact (List.getElem?_eq_some_iff.mp hr).1) hd (fun H1 locs1 hP1 hD1 hS1 => ?_)
  rw [ov_set_o hS (ov_cl7 hc) hr] at hP1 hD1
  exact h p l e R s m args below meth c Q D cy A ad0 ad H1 locs1 ls hC hT hE ⟨hP1, hD1, hS1⟩ hl
theorem ov_putz {index i ci ln kf N : Nat} {x : Int32} {rs : List (Option Nat)} {C : String} {T : u_T} (hn : narrow .boolean (.int x) = .int x) (hf : fits .boolean (.int x) = true) (hd : decode Z.2.1.2.1 pc = .ok (.putfield index, 3)) (hw : Cond.fieldLink Z.2.1.1.cls index (T kf).1 (T kf).2.1 (T kf).2.2.1 ∈ gW) (hS : S[i]? = some (ci, ln, rs)) (hc : vwCl[ci]? = some (C, T, N)) (hk : kf < N) (hr : rs[kf]? = some none) (hfin : (T kf).2.2.2 = false) (hp : parseFieldDescriptor (T kf).2.2.1 = some .boolean) (h : ov_V Z k n S (pc + 3) L st (ov_up σ i kf x)) : ov_V Z k n S pc L (.int x :: .ref i :: st) σ := by
  intro p l e R s m args below meth c Q D cy A ad0 ad H locs ls hC hT hE hW hl
  obtain ⟨ty0, hty, hnm⟩ := ov_gt hc
  refine va_put (v := .int x) hC.1 hC.2.1 hC.2.2.2.2.1 (ov_gc hc) ty0 hty hnm hC.2.2.2.1 hE.1 hW.1 hW.2.1 hW.2.2 i (ov_at_o hS (ov_cl7 hc)) hc kf hk (hC.2.2.2.2.1 _ hw) (fun _ h9 => h9) hfin hp hn hf (by rw [ov_fl_len]; exact (List.getElem?_eq_some_iff.mp hr).1) hd (fun H1 locs1 hP1 hD1 hS1 => ?_)
  rw [ov_set_o hS (ov_cl7 hc) hr] at hP1 hD1
  exact h p l e R s m args below meth c Q D cy A ad0 ad H1 locs1 ls hC hT hE ⟨hP1, hD1, hS1⟩ hl
theorem ov_iaload {i ln : Nat} {x : Int32} {rs : List (Option Nat)} (hd : decode Z.2.1.2.1 pc = .ok (.iaload, 1)) (hS : S[i]? = some (9, ln, rs)) (hi : vp_in x ln) (h : ov_V Z k n S (pc + 1) L (.int (σ i x.toNatClampNeg) :: st) σ) : ov_V Z k n S pc L (.int x :: .ref i :: st) σ := by
  intro p l e R s m args below meth c Q D cy A ad0 ad H locs ls hC hT hE hW hl
  exact va_iald hC.1 hC.2.1 hE.1 hW.1 i 2 (ov_at_i hS (by decide) (by decide)) rfl hi hd (h p l e R s m args below meth c Q D cy A ad0 ad H locs ls hC hT hE hW hl)
theorem ov_baload {i ln : Nat} {x : Int32} {rs : List (Option Nat)} (hd : decode Z.2.1.2.1 pc = .ok (.baload, 1)) (hS : S[i]? = some (7, ln, rs)) (hi : vp_in x ln) (h : ov_V Z k n S (pc + 1) L (.int (σ i x.toNatClampNeg) :: st) σ) : ov_V Z k n S pc L (.int x :: .ref i :: st) σ := by
  intro p l e R s m args below meth c Q D cy A ad0 ad H locs ls hC hT hE hW hl
  exact va_bald hC.1 hC.2.1 hE.1 hW.1 i 0 (ov_at_i hS (by decide) (by decide)) rfl hi hd (h p l e R s m args below meth c Q D cy A ad0 ad H locs ls hC hT hE hW hl)
theorem ov_zaload {i ln : Nat} {x : Int32} {rs : List (Option Nat)} (hd : decode Z.2.1.2.1 pc = .ok (.baload, 1)) (hS : S[i]? = some (10, ln, rs)) (hi : vp_in x ln) (h : ov_V Z k n S (pc + 1) L (.int (σ i x.toNatClampNeg) :: st) σ) : ov_V Z k n S pc L (.int x :: .ref i :: st) σ := by
  intro p l e R s m args below meth c Q D cy A ad0 ad H locs ls hC hT hE hW hl
  exact va_zald hC.1 hC.2.1 hE.1 hW.1 i 3 (ov_at_i hS (by decide) (by decide)) rfl hi hd (h p l e R s m args below meth c Q D cy A ad0 ad H locs ls hC hT hE hW hl)
theorem ov_caload {i ln : Nat} {x : Int32} {rs : List (Option Nat)} (hd : decode Z.2.1.2.1 pc = .ok (.caload, 1)) (hS : S[i]? = some (8, ln, rs)) (hi : vp_in x ln) (h : ov_V Z k n S (pc + 1) L (.int (σ i x.toNatClampNeg) :: st) σ) : ov_V Z k n S pc L (.int x :: .ref i :: st) σ := by
  intro p l e R s m args below meth c Q D cy A ad0 ad H locs ls hC hT hE hW hl
  exact va_cald hC.1 hC.2.1 hE.1 hW.1 i 1 (ov_at_i hS (by decide) (by decide)) rfl hi hd (h p l e R s m args below meth c Q D cy A ad0 ad H locs ls hC hT hE hW hl)
theorem ov_iastore {i ln : Nat} {x j : Int32} {rs : List (Option Nat)} (hd : decode Z.2.1.2.1 pc = .ok (.iastore, 1)) (hS : S[i]? = some (9, ln, rs)) (hi : vp_in j ln) (h : ov_V Z k n S (pc + 1) L st (ov_up σ i j.toNatClampNeg x)) : ov_V Z k n S pc L (.int x :: .int j :: .ref i :: st) σ := by
  intro p l e R s m args below meth c Q D cy A ad0 ad H locs ls hC hT hE hW hl
  refine va_iast hC.1 hC.2.1 hE.1 hW.1 hW.2.1 hW.2.2 i 2 (ov_at_i hS (by decide) (by decide)) rfl hi hd (fun H1 locs1 hP1 hD1 hS1 => ?_)
  rw [ov_set_i hS (by decide) (by decide)] at hP1 hD1
  exact h p l e R s m args below meth c Q D cy A ad0 ad H1 locs1 ls hC hT hE ⟨hP1, hD1, hS1⟩ hl
theorem ov_bastore {i ln : Nat} {x j : Int32} {rs : List (Option Nat)} (hd : decode Z.2.1.2.1 pc = .ok (.bastore, 1)) (hS : S[i]? = some (7, ln, rs)) (hi : vp_in j ln) (h : ov_V Z k n S (pc + 1) L st (ov_up σ i j.toNatClampNeg (vp_nar .byte x))) : ov_V Z k n S pc L (.int x :: .int j :: .ref i :: st) σ := by
  intro p l e R s m args below meth c Q D cy A ad0 ad H locs ls hC hT hE hW hl
  refine va_bast hC.1 hC.2.1 hE.1 hW.1 hW.2.1 hW.2.2 i 0 (ov_at_i hS (by decide) (by decide)) rfl hi hd (fun H1 locs1 hP1 hD1 hS1 => ?_)
  rw [ov_set_i hS (by decide) (by decide)] at hP1 hD1
  exact h p l e R s m args below meth c Q D cy A ad0 ad H1 locs1 ls hC hT hE ⟨hP1, hD1, hS1⟩ hl
theorem ov_zastore {i ln : Nat} {x j : Int32} {rs : List (Option Nat)} (hd : decode Z.2.1.2.1 pc = .ok (.bastore, 1)) (hS : S[i]? = some (10, ln, rs)) (hi : vp_in j ln) (h : ov_V Z k n S (pc + 1) L st (ov_up σ i j.toNatClampNeg (vp_nar .boolean x))) : ov_V Z k n S pc L (.int x :: .int j :: .ref i :: st) σ := by
  intro p l e R s m args below meth c Q D cy A ad0 ad H locs ls hC hT hE hW hl
  refine va_zast hC.1 hC.2.1 hE.1 hW.1 hW.2.1 hW.2.2 i 3 (ov_at_i hS (by decide) (by decide)) rfl hi hd (fun H1 locs1 hP1 hD1 hS1 => ?_)
  rw [ov_set_i hS (by decide) (by decide)] at hP1 hD1
  exact h p l e R s m args below meth c Q D cy A ad0 ad H1 locs1 ls hC hT hE ⟨hP1, hD1, hS1⟩ hl
theorem ov_castore {i ln : Nat} {x j : Int32} {rs : List (Option Nat)} (hd : decode Z.2.1.2.1 pc = .ok (.castore, 1)) (hS : S[i]? = some (8, ln, rs)) (hi : vp_in j ln) (h : ov_V Z k n S (pc + 1) L st (ov_up σ i j.toNatClampNeg (vp_nar .char x))) : ov_V Z k n S pc L (.int x :: .int j :: .ref i :: st) σ := by
  intro p l e R s m args below meth c Q D cy A ad0 ad H locs ls hC hT hE hW hl
  refine va_cast hC.1 hC.2.1 hE.1 hW.1 hW.2.1 hW.2.2 i 1 (ov_at_i hS (by decide) (by decide)) rfl hi hd (fun H1 locs1 hP1 hD1 hS1 => ?_)
  rw [ov_set_i hS (by decide) (by decide)] at hP1 hD1
  exact h p l e R s m args below meth c Q D cy A ad0 ad H1 locs1 ls hC hT hE ⟨hP1, hD1, hS1⟩ hl
theorem ov_aaloadR {i ln j : Nat} {x : Int32} {rs : List (Option Nat)} (hd : decode Z.2.1.2.1 pc = .ok (.aaload, 1)) (hS : S[i]? = some (11, ln, rs)) (hi : vp_in x ln) (hr : rs[x.toNatClampNeg]? = some (some j)) (hj : ¬ j = 9999) (h : ov_V Z k n S (pc + 1) L (.ref j :: st) σ) : ov_V Z k n S pc L (.int x :: .ref i :: st) σ := by
  intro p l e R s m args below meth c Q D cy A ad0 ad H locs ls hC hT hE hW hl
  refine va_aldq hC.1 hC.2.1 hE.1 hW.1 i 4 (ov_at_q hS (by decide) (by decide)) rfl hi hd ?_
  rw [hr, show va_rf ((((some (some j) : Option (Option Nat)).getD none)).bind (ov_rq ad)) = .ref (ad j) by simp [ov_rq, va_rf, hj]]
  exact (h p l e R s m args below meth c Q D cy A ad0 ad H locs ls hC hT hE hW hl)
theorem ov_aaloadS {i ln j : Nat} {x : Int32} {rs : List (Option Nat)} (hd : decode Z.2.1.2.1 pc = .ok (.aaload, 1)) (hS : S[i]? = some (12, ln, rs)) (hi : vp_in x ln) (hr : rs[x.toNatClampNeg]? = some (some j)) (hj : ¬ j = 9999) (h : ov_V Z k n S (pc + 1) L (.ref j :: st) σ) : ov_V Z k n S pc L (.int x :: .ref i :: st) σ := by
  intro p l e R s m args below meth c Q D cy A ad0 ad H locs ls hC hT hE hW hl
  refine va_aldq hC.1 hC.2.1 hE.1 hW.1 i 5 (ov_at_q hS (by decide) (by decide)) rfl hi hd ?_
  rw [hr, show va_rf ((((some (some j) : Option (Option Nat)).getD none)).bind (ov_rq ad)) = .ref (ad j) by simp [ov_rq, va_rf, hj]]
  exact (h p l e R s m args below meth c Q D cy A ad0 ad H locs ls hC hT hE hW hl)
theorem ov_aaloadI {i ln j : Nat} {x : Int32} {rs : List (Option Nat)} (hd : decode Z.2.1.2.1 pc = .ok (.aaload, 1)) (hS : S[i]? = some (13, ln, rs)) (hi : vp_in x ln) (hr : rs[x.toNatClampNeg]? = some (some j)) (hj : ¬ j = 9999) (h : ov_V Z k n S (pc + 1) L (.ref j :: st) σ) : ov_V Z k n S pc L (.int x :: .ref i :: st) σ := by
  intro p l e R s m args below meth c Q D cy A ad0 ad H locs ls hC hT hE hW hl
  have hlt : x.toNatClampNeg < ln := Nat.not_le.mp fun q => hi (Or.inr q)
  have ee : va_rf (((rs[x.toNatClampNeg]?).getD none).bind (ov_rq ad)) = .ref (ad j) := by simp [hr, ov_rq, va_rf, hj]
  exact W.aald (v := .ref (ad j)) (ty := .array .int) hC.1 hC.2.1 (hW.1 i _ (ov_at_q hS (by decide) (by decide))) ((hE.1.2 6 _ rfl).1 ln (fun q => va_rf (((rs[q]?).getD none).bind (ov_rq ad)))) rfl (fun q => by cases q) (by show ¬ (x < 0 ∨ (arrV _ _ _).slots.size ≤ _); rw [arrV_size]; exact hi) (by show (arrV _ _ _).slots[_]? = _; rw [arrV_read _ _ hlt, ee]) rfl rfl hd (h p l e R s m args below meth c Q D cy A ad0 ad H locs ls hC hT hE hW hl)
theorem ov_above {index : Nat} (hd : decode Z.2.1.2.1 pc = .ok (.getstatic index, 3)) (hw : Cond.fieldLink Z.2.1.1.cls index "OldPot" "ABOVE" "[I" ∈ gW) (h : ov_V Z k n S (pc + 3) L (.ref 5000 :: st) σ) : ov_V Z k n S pc L st σ := by
  intro p l e R s m args below meth c Q D cy A ad0 ad H locs ls hC hT hE hW hl
  exact va_gets hC.1 hC.2.1 hE.2.2.1.1.1 hW.2.2 hC.2.2.2.1 (hC.2.2.2.2.1 _ hw) (fun _ h9 => h9) hd (h p l e R s m args below meth c Q D cy A ad0 ad H locs ls hC hT hE hW hl)
theorem ov_aboveld {x : Int32} (hd : decode Z.2.1.2.1 pc = .ok (.iaload, 1)) (hi : vp_in x 6) (h : ov_V Z k n S (pc + 1) L (.int (ov_abv x.toNatClampNeg) :: st) σ) : ov_V Z k n S pc L (.int x :: .ref 5000 :: st) σ := by
  intro p l e R s m args below meth c Q D cy A ad0 ad H locs ls hC hT hE hW hl
  exact va_ti hC.1 hC.2.1 hE.2.2.1.1.2 hW.2.2 hi rfl hd (h p l e R s m args below meth c Q D cy A ad0 ad H locs ls hC hT hE hW hl)
theorem ov_ireturn {x : Int32} (hd : decode Z.2.1.2.1 pc = .ok (.ireturn, 1)) (h1 : n.1 ≤ Z.2.2.2.1.1) (h2 : n.2 ≤ Z.2.2.2.1.2) (h : k (some (.int x)) S σ) : ov_V Z k n S pc L [.int x] σ := by
  intro p l e R s m args below meth c Q D cy A ad0 ad H locs ls hC hT hE hW hl
  exact W.widen h1 h2 (hT ad H locs ls pc S σ (some (.int x)) hE.2.2.2.2 hW h hd)
theorem ov_lreturn {x : Int64} (hd : decode Z.2.1.2.1 pc = .ok (.lreturn, 1)) (h1 : n.1 ≤ Z.2.2.2.1.1) (h2 : n.2 ≤ Z.2.2.2.1.2) (h : k (some (.long x)) S σ) : ov_V Z k n S pc L [.long x] σ := by
  intro p l e R s m args below meth c Q D cy A ad0 ad H locs ls hC hT hE hW hl
  exact W.widen h1 h2 (hT ad H locs ls pc S σ (some (.long x)) hE.2.2.2.2 hW h hd)
theorem ov_areturn {x : Nat} (hd : decode Z.2.1.2.1 pc = .ok (.areturn, 1)) (h1 : n.1 ≤ Z.2.2.2.1.1) (h2 : n.2 ≤ Z.2.2.2.1.2) (h : k (some (.ref x)) S σ) : ov_V Z k n S pc L [.ref x] σ := by
  intro p l e R s m args below meth c Q D cy A ad0 ad H locs ls hC hT hE hW hl
  exact W.widen h1 h2 (hT ad H locs ls pc S σ (some (.ref x)) hE.2.2.2.2 hW h hd)
theorem ov_return (hd : decode Z.2.1.2.1 pc = .ok (.return_, 1)) (h1 : n.1 ≤ Z.2.2.2.1.1) (h2 : n.2 ≤ Z.2.2.2.1.2) (h : k none S σ) : ov_V Z k n S pc L [] σ := by
  intro p l e R s m args below meth c Q D cy A ad0 ad H locs ls hC hT hE hW hl
  exact W.widen h1 h2 (hT ad H locs ls pc S σ none hE.2.2.2.2 hW h hd)
theorem ov_tin {dflt lo hi : Int} {offs : Array Int} {len : Nat} {x : Int32} (v : Int32) (off : Int) (tgt : Nat) (hd : decode Z.2.1.2.1 pc = .ok (.tableswitch dflt lo hi offs, len)) (hx : x = v) (h1 : ¬ v.toInt < lo) (h2 : ¬ hi < v.toInt) (ho : offs[(v.toInt - lo).toNat]? = some off) (ht : (pc : Int) + off = (tgt : Int)) (h : ov_V Z k n S tgt L st σ) : ov_V Z k n S pc L (.int x :: st) σ := by
  intro p l e R s m args below meth c Q D cy A ad0 ad H locs ls hC hT hE hW hl
  subst hx
  exact lv_tableIn hC.1 hC.2.1 hd h1 h2 ho ht (h p l e R s m args below meth c Q D cy A ad0 ad H locs ls hC hT hE hW hl)
theorem ov_tout {dflt lo hi : Int} {offs : Array Int} {len : Nat} {x : Int32} (tgt : Nat) (hd : decode Z.2.1.2.1 pc = .ok (.tableswitch dflt lo hi offs, len)) (hx : x.toInt < lo ∨ hi < x.toInt) (ht : (pc : Int) + dflt = (tgt : Int)) (h : ov_V Z k n S tgt L st σ) : ov_V Z k n S pc L (.int x :: st) σ := by
  intro p l e R s m args below meth c Q D cy A ad0 ad H locs ls hC hT hE hW hl
  exact lv_tableOut hC.1 hC.2.1 hd hx ht (h p l e R s m args below meth c Q D cy A ad0 ad H locs ls hC hT hE hW hl)
theorem ov_lsw {dflt : Int} {ps : Array (Int × Int)} {len : Nat} {x : Int32} (off : Int) (tgt : Nat) (hd : decode Z.2.1.2.1 pc = .ok (.lookupswitch dflt ps, len)) (hp : (ps.toList.zip (ps.toList.drop 1)).all (fun (a, next) => a.1 < next.1) = true) (ho : Op.lookupswitch.offset ps.toList dflt x.toInt = off) (ht : (pc : Int) + off = (tgt : Int)) (h : ov_V Z k n S tgt L st σ) : ov_V Z k n S pc L (.int x :: st) σ := by
  intro p l e R s m args below meth c Q D cy A ad0 ad H locs ls hC hT hE hW hl
  exact lv_lookup hC.1 hC.2.1 hd hp ho ht (h p l e R s m args below meth c Q D cy A ad0 ad H locs ls hC hT hE hW hl)
end OVH
end
section
/-! ===== contracts ===== -/
def ov_rm (d : Nat) (M : Nat × Nat) : Room := { frames := d, cells := M.1, slots := M.2, locals := 40 * d }
def ov_noEx : ovEx := fun _ _ _ => True
def ov_Pm (S : ovSh) (σ : ovSt) (D : va_G) (cy : Nat → ClassId) (ad : Nat → Nat) (sz : Nat) (U : State) : Prop :=
  U.heap.size = sz ∧ va_P D vwCl (ov_ws cy ad σ 0 S) U.heap ∧ va_K D vwCl (ov_ty cy) U ∧ va_D (fun _ => True) (ov_ws cy ad σ 0 S) ∧ ov_Kst ad (va_A (ov_ws cy ad σ 0 S) sz) U U.heap
def ov_Qm (S : ovSh) (σ : ovSt) (D : va_G) (cy : Nat → ClassId) (ad : Nat → Nat) (sz : Nat) (k : Option Value → ovSt → Prop) : Array Value → State → Outcome → State → Prop := fun _ st o t =>
  (∃ (r : Option Value) (σ' : ovSt), o = .returned (r.map (ov_cv ad)) ∧ k r σ' ∧ va_P D vwCl (ov_ws cy ad σ' 0 S) t.heap ∧ va_D (va_A (ov_ws cy ad σ 0 S) sz) (ov_ws cy ad σ' 0 S)) ∧ va_F (va_A (ov_ws cy ad σ 0 S) sz) st t
def ov_Ct (d : Nat) (y : MethodName) (cc : ByteArray) (nL : Nat) (rt : Option FieldType) (S : ovSh) (av : List Value) (σ : ovSt) (k : Option Value → ovSt → Prop) : Prop :=
  ∀ (l : Launch) (D : va_G) (cy : Nat → ClassId) (ad : Nat → Nat) (sz : Nat),
    Met l y (Cond.code y cc nL rt :: gW) (ov_rm d (0, 0)) (va_Pc (av.map (ov_cv ad)) (ov_Pm S σ D cy ad sz)) (ov_Qm S σ D cy ad sz k) 0 0 (va_A (ov_ws cy ad σ 0 S) sz)
def ov_okr (rt : Option FieldType) (r : Option Value) : Prop := match rt, r with
  | none, none => True
  | some .int, some (.int _) => True
  | some .boolean, some (.int v) => narrow .boolean (.int v) = .int v
  | some .long, some (.long _) => True
  | some (.object _), some (.ref _) => True
  | _, _ => False
theorem ov_sl_len (ad : Nat → Nat) (av : List Value) : (lg_sl (av.map (ov_cv ad))).length = (lg_sl av).length := by
  induction av with
  | nil => rfl
  | cons v av ih =>
    simp only [lg_sl, List.map_cons, List.flatMap_cons, List.length_append] at ih ⊢
    rw [ih, ov_cv_cat]
    by_cases hv : v.category = 2 <;> simp [hv]
theorem ov_args_map (ad : Nat → Nat) : ∀ (av : List Value) (i : Nat), lv_args i (av.map (ov_cv ad)) = (lv_args i av).map (ov_lc ad)
  | [], i => rfl
  | v :: av, i => by
    simp only [List.map_cons, lv_args, ov_cv_cat]
    rw [ov_args_map ad av]
    rfl
abbrev ovZs (d : Nat) (y : MethodName) (cc : ByteArray) (nL : Nat) : ovZ := (d, (y, cc, nL), ov_noEx, (0, 0), none)
abbrev ovKs (rt : Option FieldType) (S : ovSh) (k : Option Value → ovSt → Prop) : ovK := fun r S' σ' => S' = S ∧ ov_okr rt r ∧ k r σ'
theorem ov_Ct.of {d : Nat} {y : MethodName} {cc : ByteArray} {nL : Nat} {rt : Option FieldType} {S : ovSh} {av : List Value} {σ : ovSt} {k : Option Value → ovSt → Prop} (hy : plainName y.cls = true) (hlen : (lg_sl av).length ≤ nL)
    (h : ov_V (ovZs d y cc nL) (ovKs rt S k) (0, 0) S 0 (lv_args 0 av) [] σ) : ov_Ct d y cc nL rt S av σ k := by
  intro l D cy ad sz
  refine Met.ofW (cc := cc) (maxL := nL) (ret := rt) hy rfl ?_
  intro p e s m args below meth c s₁ B hml hv
  obtain ⟨rfl, hsz, hP, hK, hD0, hKs⟩ := hv
  have hts := atoms_spec (ws := Cond.code y cc nL rt :: gW) B.pre
  have hown : s.vm.findClass y.cls = some m.cls := findClass_of_methodNamed B.named
  have hlocks : meth.locks = false := B.notSynchronized
  have hr := B.returns
  subst hsz
  have hD := hD0.self (sz := s.heap.size)
  have hl := lv_entry (av.map (ov_cv ad)) (n := nL) (by rw [ov_sl_len]; exact hlen)
  rw [ov_args_map] at hl
  rw [lg_entry_eq]
  refine h p l e _ s m _ below meth c _ D cy (va_A (ov_ws cy ad σ 0 S) s.heap.size) ad ad s.heap [] _ ⟨B.exec, B.bytes, hml, hown, fun w hw => hts w (List.mem_cons_of_mem _ hw), fun hn => (name_of_methodNamed B.named B.method).1.trans hn, Nat.le_refl _, Nat.le_refl _, Nat.le_refl _, Nat.le_refl _⟩ ?_ ⟨hK, fun q h => Or.inr h, hKs, trivial, rfl⟩ ⟨hP, hD, va_S.rf⟩ hl
  intro ad' H locs ls pc S' σ' r hag hW hk hd
  obtain rfl : ad' = ad := hag
  obtain ⟨rfl, hok, hk⟩ := hk
  have hq : ∀ t : State, t.heap = H → ov_Qm S' σ D cy ad' s.heap.size k (av.map (ov_cv ad')).toArray s (.returned (r.map (ov_cv ad'))) t := fun t ht => ⟨⟨r, σ', rfl, hk, by rw [ht]; exact hW.1, hW.2.1⟩, hW.2.2.F ht⟩
  have hf := hW.2.2.2.2
  unfold ov_okr at hok
  split at hok
  · exact W.vret B.exec B.bytes hr (fun t ht _ => hq t ht) hf hd
  · exact W.iret B.exec B.bytes hr (fun t ht _ => hq t ht) hf hd
  · exact W.zret B.exec B.bytes hr hok (fun t ht _ => hq t ht) hf hd
  · exact W.lret B.exec B.bytes hr (fun t ht _ => hq t ht) hf hd
  · exact W.aret B.exec B.bytes hr (Or.inl ⟨_, rfl⟩) (Or.inr ⟨_, rfl⟩) (fun t ht _ => hq t ht) hf hd
  · exact hok.elim
theorem ov_Ct.mono {d : Nat} {y : MethodName} {cc : ByteArray} {nL : Nat} {rt : Option FieldType} {S : ovSh} {av : List Value} {σ : ovSt} {k k' : Option Value → ovSt → Prop} (h : ∀ r σ', k r σ' → k' r σ')
    (hV : ov_V (ovZs d y cc nL) (ovKs rt S k) (0, 0) S 0 (lv_args 0 av) [] σ) : ov_V (ovZs d y cc nL) (ovKs rt S k') (0, 0) S 0 (lv_args 0 av) [] σ := by
  intro p l e R s m args below meth c Q D cy A ad0 ad H locs ls hC hT hE hW hl
  exact hV p l e R s m args below meth c Q D cy A ad0 ad H locs ls hC (fun ad H locs ls pc S σ r a1 a2 a3 a4 => hT ad H locs ls pc S σ r a1 a2 ⟨a3.1, a3.2.1, h _ _ a3.2.2⟩ a4) hE hW hl
theorem ov_blind {av : List Value} {S : ovSh} {σ : ovSt} {D : va_G} {cy : Nat → ClassId} {ad : Nat → Nat} {sz : Nat} : FrameBlind (va_Pc av (ov_Pm S σ D cy ad sz)) := fun a U g mk q => by
  obtain ⟨q0, q1, qP, qK, qD, qS⟩ := q
  exact ⟨q0, q1, qP, va_K.moved (u := U) (U := U.calling g mk a) (Vm.Alike.refl U.vm) qK, qD, ov_Kst.blind qS⟩
theorem ov_inA {A : Nat → Prop} {ws : va_W} {H0 H : Heap} {locs : List Loc} (hD : va_D A ws) (hS : va_S A H0 H locs) (hA : ∀ q, H0.size ≤ q → A q) : ∀ q, va_A ws H.size q → A q := by
  intro q h
  rcases h with ⟨k, e, h⟩ | h
  · exact hD.2 k (q, e) h
  · exact hA q (Nat.le_trans hS.1 h)
/-- behind a call, whatever it answers -/
theorem ov_after {Z : ovZ} {k : ovK} {n : Nat × Nat} {S : ovSh} {pc : Nat} {L : List (Nat × Value)} {st : List Value} {σ : ovSt} {k0 : Option Value → ovSt → Prop} (h : ∀ r σ', k0 r σ' → ov_V Z k n S (pc + 3) L (r.toList ++ st) σ')
    {p : Program} {l : Launch} {e : Env} {R : Room} {s : State} {m : MethodId} {args : Array Value} {below : List Frame} {meth : Method} {c : Code} {Q : State → Prop} {D : va_G} {cy : Nat → ClassId} {A : Nat → Prop} {ad0 ad : Nat → Nat} {H : Heap} {locs : List Loc} {ls : Array Slot}
    (hC : ov_C Z p s m args meth c R) (hT : ov_Rt Z k D cy A ad0 p l e R s m args below meth c Q) (hE : ov_E Z D cy A ad0 ad s) (hW : ov_Wd D cy A ad S σ s H locs) (hl : lv_has ls Z.2.1.2.2 (L.map (ov_lc ad))) {st0 : List Value} {a : Array Value}
    (hr : va_Run p l e R s m args below meth c H locs n.1 n.2 0 0 (F0 m pc ls st0) (st.map (ov_cv ad)) (ov_Qm S σ D cy ad H.size k0 a) (va_A (ov_ws cy ad σ 0 S) H.size)) : W p l e R s m args below meth c H locs n.1 n.2 Q (F0 m pc ls st0) := by
  have hAB := ov_inA hW.2.1 hW.2.2 hE.2.1
  intro T hTH X
  obtain ⟨v, st₀, t, T', Lc, h0, X', hL, e1, e2, ⟨⟨r, σ', hv, hk0, hP1, hD1⟩, hz, hkp⟩, step⟩ := hr T hTH X
  cases hv
  rw [h0] at hz hkp
  have hS1 : va_S A s.heap T'.heap (locs ++ Lc) := ⟨Nat.le_trans hW.2.2.1 (by rw [e1]; exact hz), fun q h1 h2 => by rw [e1, hkp q (Nat.lt_of_lt_of_le h1 hW.2.2.1) (fun z => h2 (hAB q z))]; exact hW.2.2.2.1 q h1 h2, fun q hq => by
    rcases List.mem_append.mp hq with h | h
    · exact hW.2.2.2.2 q h
    · exact hAB _ (hL q h)⟩
  obtain ⟨t2, a1, b1⟩ := h r σ' hk0 p l e R s m args below meth c Q D cy A ad0 ad T'.heap (locs ++ Lc) ls hC hT hE ⟨by rw [e1]; exact hP1, hD1.weaken (fun _ q _ z => hAB q.1 z), hS1⟩ hl T' rfl X'
  refine ⟨t2, step t2 ?_, b1⟩
  have e3 : (r.toList ++ st).map (ov_cv ad) = (r.map (ov_cv ad)).toList ++ st.map (ov_cv ad) := by cases r <;> simp
  rw [e3] at a1
  exact a1
theorem ov_stsum (ad : Nat → Nat) (st : List Value) : ((st.map (ov_cv ad)).map fun v => v.category) = (st.map fun v => v.category) := by
  rw [List.map_map]
  congr 1
  funext v
  exact ov_cv_cat ad v
/-- the words of a call -/
def ov_lkV (own : String) (index : Nat) (y : MethodName) (cc : ByteArray) (nL : Nat) (rt : Option FieldType) (n : Nat) : Prop :=
  GoodIn gW (wsV own index y.cls y [Cond.code y cc nL rt]) ∧ (y.cls = y.cls ∧ y.cls ≠ "java/lang/invoke/MethodHandle" ∧ y.cls ≠ "java/lang/invoke/VarHandle" ∧ (parseMethodDescriptor y.desc).map (fun d => d.parameters.length) = some n)
def ov_lkS (own : String) (index : Nat) (y : MethodName) (cc : ByteArray) (nL : Nat) (rt : Option FieldType) (n : Nat) : Prop :=
  GoodIn gW (wsS own index y [Cond.code y cc nL rt]) ∧ (y.cls = own ∧ y.cls ≠ "java/lang/invoke/MethodHandle" ∧ y.cls ≠ "java/lang/invoke/VarHandle" ∧ (parseMethodDescriptor y.desc).map (fun d => d.parameters.length) = some n)
def ov_lkN (own : String) (index : Nat) (y : MethodName) (cc : ByteArray) (nL : Nat) (rt : Option FieldType) (n : Nat) : Prop :=
  (Cond.methodLinkNest own index y RX5 ∈ ov_nest ∧ Cond.static y ∈ gW ∧ Cond.initialized y.cls ∈ gW ∧ Cond.code y cc nL rt ∈ gW) ∧ (y.cls ≠ "java/lang/invoke/MethodHandle" ∧ y.cls ≠ "java/lang/invoke/VarHandle" ∧ (parseMethodDescriptor y.desc).map (fun d => d.parameters.length) = some n)
theorem ov_gg {y : MethodName} {cc : ByteArray} {nL : Nat} {rt : Option FieldType} (h : Cond.code y cc nL rt ∈ gW) : GoodIn gW (Cond.code y cc nL rt :: gW) := by
  intro w hw
  rcases List.mem_cons.mp hw with rfl | hw
  · exact ⟨h, gW_good _ h⟩
  · exact ⟨hw, gW_good _ hw⟩
theorem ov_ggV {own : String} {index : Nat} {C : String} {y : MethodName} {cc : ByteArray} {nL : Nat} {rt : Option FieldType} (h : GoodIn gW (wsV own index C y [Cond.code y cc nL rt])) : GoodIn gW (wsV own index C y (Cond.code y cc nL rt :: gW)) := by
  intro w hw
  unfold wsV at h hw
  rcases List.mem_append.mp hw with q | q
  · exact h w (List.mem_append_left _ q)
  · exact ov_gg (h _ (List.mem_append_right _ List.mem_cons_self)).1 w q
theorem ov_ggS {own : String} {index : Nat} {y : MethodName} {cc : ByteArray} {nL : Nat} {rt : Option FieldType} (h : GoodIn gW (wsS own index y [Cond.code y cc nL rt])) : GoodIn gW (wsS own index y (Cond.code y cc nL rt :: gW)) := by
  intro w hw
  unfold wsS at h hw
  rcases List.mem_append.mp hw with q | q
  · exact h w (List.mem_append_left _ q)
  · exact ov_gg (h _ (List.mem_append_right _ List.mem_cons_self)).1 w q
theorem ov_roomR {Z : ovZ} {p : Program} {s : State} {m : MethodId} {args : Array Value} {meth : Method} {c : Code} {R : Room} (hC : ov_C Z p s m args meth c R) {d nL : Nat} (hd : d + 1 ≤ Z.1) (hn : nL ≤ 21) : (ov_rm d (0, 0)).frames + 1 ≤ R.frames ∧ 8 + (nL + 11) + (ov_rm d (0, 0)).locals ≤ R.locals := by
  have h1 := hC.2.2.2.2.2.2.1
  have h2 := hC.2.2.2.2.2.2.2.1
  refine ⟨Nat.le_trans hd h1, ?_⟩
  show 8 + (nL + 11) + 40 * d ≤ R.locals
  omega
section OVC
variable {Z : ovZ} {k : ovK} {n : Nat × Nat} {S : ovSh} {pc : Nat} {L : List (Nat × Value)} {st : List Value} {σ : ovSt} {d' nL index b ci ln N : Nat} {y : MethodName} {cc : ByteArray} {rt : Option FieldType} {k0 : Option Value → ovSt → Prop} {rs : List (Option Nat)} {T : u_T}
theorem ov_callV (As : List Value) (hd : decode Z.2.1.2.1 pc = .ok (.invokevirtual index, 3)) (hc : ov_Ct d' y cc nL rt S (.ref b :: As) σ k0) (hdd : d' + 1 ≤ Z.1) (hnL : nL ≤ 21) (hq : ov_lkV Z.2.1.1.cls index y cc nL rt As.length) (hS : S[b]? = some (ci, ln, rs)) (hcl : vwCl[ci]? = some (y.cls, T, N)) (hst : (st.map fun v => v.category).sum ≤ 8) (h1 : n.1 ≤ Z.2.2.2.1.1) (h2 : n.2 ≤ Z.2.2.2.1.2)
    (h : ∀ r σ', k0 r σ' → ov_V Z k n S (pc + 3) L (r.toList ++ st) σ') : ov_V Z k n S pc L (As.reverse ++ .ref b :: st) σ := by
  intro p l e R s m args below meth c Q D cy A ad0 ad H locs ls hC hT hE hW hl
  refine ov_after h hC hT hE hW hl (va_runV (As := As.map (ov_cv ad)) (rest := st.map (ov_cv ad)) ⟨hC.1, hC.2.1, hC.2.2.1, hC.2.2.2.1, hC.2.2.2.2.1⟩ (hc l D cy ad H.size) (cwV (As.map (ov_cv ad)).length hC.2.2.2.2.1 (ov_ggV hq.1) rfl rfl rfl (by rw [List.length_map]; exact hq.2) (ov_roomR hC hdd hnL)) ⟨ov_blind, va_recv hE.1 hW.1 hcl (ov_at_o hS (ov_cl7 hcl)), fun U hU hWm => ⟨rfl, by rw [hU], by rw [hU]; exact hW.1, va_K.moved hWm.alike hE.1, hW.2.1.weaken (fun _ _ _ _ => trivial), hE.2.2.1.call hW.2.2 hWm hU (ov_inA hW.2.1 hW.2.2 hE.2.1)⟩⟩ rfl rfl hl.1 ?_ (lv_room (by rw [ov_stsum]; exact hst)) hd ⟨Nat.le_trans h1 hC.2.2.2.2.2.2.2.2.1, Nat.le_trans h2 hC.2.2.2.2.2.2.2.2.2⟩)
  simp [ov_cv]
theorem ov_callS (As : List Value) (hd : decode Z.2.1.2.1 pc = .ok (.invokestatic index, 3)) (hc : ov_Ct d' y cc nL rt S As σ k0) (hdd : d' + 1 ≤ Z.1) (hnL : nL ≤ 21) (hq : ov_lkS Z.2.1.1.cls index y cc nL rt As.length) (hst : (st.map fun v => v.category).sum ≤ 8) (h1 : n.1 ≤ Z.2.2.2.1.1) (h2 : n.2 ≤ Z.2.2.2.1.2)
    (h : ∀ r σ', k0 r σ' → ov_V Z k n S (pc + 3) L (r.toList ++ st) σ') : ov_V Z k n S pc L (As.reverse ++ st) σ := by
  intro p l e R s m args below meth c Q D cy A ad0 ad H locs ls hC hT hE hW hl
  refine ov_after h hC hT hE hW hl (va_runS (As := As.map (ov_cv ad)) (rest := st.map (ov_cv ad)) ⟨hC.1, hC.2.1, hC.2.2.1, hC.2.2.2.1, hC.2.2.2.2.1⟩ (hc l D cy ad H.size) (cwS (As.map (ov_cv ad)).length hC.2.2.2.2.1 (ov_ggS hq.1) rfl rfl rfl (by rw [List.length_map]; exact hq.2) (ov_roomR hC hdd hnL)) ⟨ov_blind, fun U hU hWm => ⟨rfl, by rw [hU], by rw [hU]; exact hW.1, va_K.moved hWm.alike hE.1, hW.2.1.weaken (fun _ _ _ _ => trivial), hE.2.2.1.call hW.2.2 hWm hU (ov_inA hW.2.1 hW.2.2 hE.2.1)⟩⟩ rfl rfl hl.1 ?_ (lv_room (by rw [ov_stsum]; exact hst)) hd ⟨Nat.le_trans h1 hC.2.2.2.2.2.2.2.2.1, Nat.le_trans h2 hC.2.2.2.2.2.2.2.2.2⟩)
  simp
theorem ov_callN (As : List Value) (hd : decode Z.2.1.2.1 pc = .ok (.invokestatic index, 3)) (hc : ov_Ct d' y cc nL rt S As σ k0) (hdd : d' + 1 ≤ Z.1) (hnL : nL ≤ 21) (hq : ov_lkN Z.2.1.1.cls index y cc nL rt As.length) (hst : (st.map fun v => v.category).sum ≤ 8) (h1 : n.1 ≤ Z.2.2.2.1.1) (h2 : n.2 ≤ Z.2.2.2.1.2)
    (h : ∀ r σ', k0 r σ' → ov_V Z k n S (pc + 3) L (r.toList ++ st) σ') : ov_V Z k n S pc L (As.reverse ++ st) σ := by
  intro p l e R s m args below meth c Q D cy A ad0 ad H locs ls hC hT hE hW hl
  refine ov_after h hC hT hE hW hl (va_runSN (As := As.map (ov_cv ad)) (rest := st.map (ov_cv ad)) ⟨hC.1, hC.2.1, hC.2.2.1, hC.2.2.2.1, hC.2.2.2.2.1⟩ (hc l D cy ad H.size) ⟨va_cnB (As.map (ov_cv ad)).length hC.2.2.2.2.1 (ov_gg hq.1.2.2.2) rfl rfl rfl (hE.2.2.1.2.2.2.1 _ hq.1.1) (hC.2.2.2.2.1 _ hq.1.2.2.1) (by rw [List.length_map]; exact hq.2) (ov_roomR hC hdd hnL), hC.2.2.2.2.1 _ hq.1.2.1, trivial⟩ ⟨ov_blind, fun U hU hWm => ⟨rfl, by rw [hU], by rw [hU]; exact hW.1, va_K.moved hWm.alike hE.1, hW.2.1.weaken (fun _ _ _ _ => trivial), hE.2.2.1.call hW.2.2 hWm hU (ov_inA hW.2.1 hW.2.2 hE.2.1)⟩⟩ rfl rfl hl.1 ?_ (lv_room (by rw [ov_stsum]; exact hst)) hd ⟨Nat.le_trans h1 hC.2.2.2.2.2.2.2.2.1, Nat.le_trans h2 hC.2.2.2.2.2.2.2.2.2⟩)
  simp
end OVC
/-! ===== Math, System.arraycopy ===== -/
section OVM
variable {Z : ovZ} {k : ovK} {n : Nat × Nat} {S : ovSh} {pc : Nat} {L : List (Nat × Value)} {st : List Value} {σ : ovSt} {index : Nat}
theorem ov_mmin {x y : Int32} (hd : decode Z.2.1.2.1 pc = .ok (.invokestatic index, 3)) (hw : Cond.methodLink Z.2.1.1.cls index Lib.Math.min.name ∈ gW ∧ Cond.static Lib.Math.min.name ∈ gW ∧ Cond.initialized "java/lang/Math" ∈ gW ∧ Cond.code Lib.Math.min.name Lib.Math.min.code 2 (some .int) ∈ gW) (hd1 : 1 ≤ Z.1) (hst : (st.map fun v => v.category).sum ≤ 27) (h1 : n.1 ≤ Z.2.2.2.1.1) (h2 : n.2 ≤ Z.2.2.2.1.2) (h : ov_V Z k n S (pc + 3) L (.int (if y < x then y else x) :: st) σ) : ov_V Z k n S pc L (.int y :: .int x :: st) σ := by
  intro p l e R s m args below meth c Q D cy A ad0 ad H locs ls hC hT hE hW hl
  exact va_mmin hC.1 hC.2.1 (hC.2.2.1.trans hl.1.symm) hC.2.2.2.1 (hC.2.2.2.2.1 _ hw.1) (hC.2.2.2.2.1 _ hw.2.1) (hC.2.2.2.2.1 _ hw.2.2.1) (hC.2.2.2.2.1 _ hw.2.2.2) (Nat.le_trans hd1 hC.2.2.2.2.2.2.1) (by rw [ov_stsum]; have := hC.2.2.2.2.2.2.2.1; omega) (Nat.le_trans h1 hC.2.2.2.2.2.2.2.2.1) (Nat.le_trans h2 hC.2.2.2.2.2.2.2.2.2) hd (h p l e R s m args below meth c Q D cy A ad0 ad H locs ls hC hT hE hW hl)
theorem ov_mmax {x y : Int32} (hd : decode Z.2.1.2.1 pc = .ok (.invokestatic index, 3)) (hw : Cond.methodLink Z.2.1.1.cls index Lib.Math.max.name ∈ gW ∧ Cond.static Lib.Math.max.name ∈ gW ∧ Cond.initialized "java/lang/Math" ∈ gW ∧ Cond.code Lib.Math.max.name Lib.Math.max.code 2 (some .int) ∈ gW) (hd1 : 1 ≤ Z.1) (hst : (st.map fun v => v.category).sum ≤ 27) (h1 : n.1 ≤ Z.2.2.2.1.1) (h2 : n.2 ≤ Z.2.2.2.1.2) (h : ov_V Z k n S (pc + 3) L (.int (if x < y then y else x) :: st) σ) : ov_V Z k n S pc L (.int y :: .int x :: st) σ := by
  intro p l e R s m args below meth c Q D cy A ad0 ad H locs ls hC hT hE hW hl
  exact va_mmax hC.1 hC.2.1 (hC.2.2.1.trans hl.1.symm) hC.2.2.2.1 (hC.2.2.2.2.1 _ hw.1) (hC.2.2.2.2.1 _ hw.2.1) (hC.2.2.2.2.1 _ hw.2.2.1) (hC.2.2.2.2.1 _ hw.2.2.2) (Nat.le_trans hd1 hC.2.2.2.2.2.2.1) (by rw [ov_stsum]; have := hC.2.2.2.2.2.2.2.1; omega) (Nat.le_trans h1 hC.2.2.2.2.2.2.2.2.1) (Nat.le_trans h2 hC.2.2.2.2.2.2.2.2.2) hd (h p l e R s m args below meth c Q D cy A ad0 ad H locs ls hC hT hE hW hl)
theorem ov_mabs {x : Int32} (hd : decode Z.2.1.2.1 pc = .ok (.invokestatic index, 3)) (hw : Cond.methodLink Z.2.1.1.cls index Lib.Math.abs.name ∈ gW ∧ Cond.static Lib.Math.abs.name ∈ gW ∧ Cond.initialized "java/lang/Math" ∈ gW ∧ Cond.code Lib.Math.abs.name Lib.Math.abs.code 1 (some .int) ∈ gW) (hd1 : 1 ≤ Z.1) (hst : (st.map fun v => v.category).sum ≤ 27) (h1 : n.1 ≤ Z.2.2.2.1.1) (h2 : n.2 ≤ Z.2.2.2.1.2) (h : ov_V Z k n S (pc + 3) L (.int (if 0 ≤ x then x else 0 - x) :: st) σ) : ov_V Z k n S pc L (.int x :: st) σ := by
  intro p l e R s m args below meth c Q D cy A ad0 ad H locs ls hC hT hE hW hl
  exact va_mabs hC.1 hC.2.1 (hC.2.2.1.trans hl.1.symm) hC.2.2.2.1 (hC.2.2.2.2.1 _ hw.1) (hC.2.2.2.2.1 _ hw.2.1) (hC.2.2.2.2.1 _ hw.2.2.1) (hC.2.2.2.2.1 _ hw.2.2.2) (Nat.le_trans hd1 hC.2.2.2.2.2.2.1) (by rw [ov_stsum]; have := hC.2.2.2.2.2.2.2.1; omega) (Nat.le_trans h1 hC.2.2.2.2.2.2.2.2.1) (Nat.le_trans h2 hC.2.2.2.2.2.2.2.2.2) hd (h p l e R s m args below meth c Q D cy A ad0 ad H locs ls hC hT hE hW hl)
theorem ov_copy {a0 a1 n0 n1 : Nat} {r0 r1 : List (Option Nat)} {sp dp q : Int32} (hd : decode Z.2.1.2.1 pc = .ok (.invokestatic index, 3)) (hw : Cond.methodLink Z.2.1.1.cls index arraycopyName ∈ gW ∧ Cond.native arraycopyName ∈ gW ∧ Cond.static arraycopyName ∈ gW ∧ Cond.initialized "java/lang/System" ∈ gW) (hS0 : S[a0]? = some (9, n0, r0)) (hS1 : S[a1]? = some (9, n1, r1)) (hb : (¬ sp < 0 ∧ ¬ dp < 0 ∧ ¬ q < 0) ∧ sp.toNatClampNeg + q.toNatClampNeg ≤ n0 ∧ dp.toNatClampNeg + q.toNatClampNeg ≤ n1) (hd1 : 1 ≤ Z.1) (hst : (st.map fun v => v.category).sum + (nativeFrameWords "java/lang/System" "arraycopy" 5 + 11) ≤ 40)
    (h : ov_V Z k n S (pc + 3) L st (ov_row σ a1 (va_cpy (σ a0) (σ a1) sp.toNatClampNeg dp.toNatClampNeg q.toNatClampNeg))) : ov_V Z k n S pc L (.int q :: .int dp :: .ref a1 :: .int sp :: .ref a0 :: st) σ := by
  intro p l e R s m args below meth c Q D cy A ad0 ad H locs ls hC hT hE hW hl
  refine va_copyi (ty := .int) hC.1 hC.2.1 (hC.2.2.1.trans hl.1.symm) hC.2.2.2.1 (hC.2.2.2.2.1 _ hw.1) (hC.2.2.2.2.1 _ hw.2.1) (hC.2.2.2.2.1 _ hw.2.2.1) (hC.2.2.2.2.1 _ hw.2.2.2) hE.1 hW.1 hW.2.1 hW.2.2 a0 a1 2 2 (ov_at_i hS0 (by decide) (by decide)) (ov_at_i hS1 (by decide) (by decide)) rfl rfl rfl hb.1.1 hb.1.2.1 hb.1.2.2 hb.2.1 hb.2.2 (fun _ _ => rfl) (Nat.le_trans hd1 hC.2.2.2.2.2.2.1) (by rw [ov_stsum]; have := hC.2.2.2.2.2.2.2.1; omega) hd (fun H1 locs1 hP1 hD1 hS1' => ?_)
  rw [ov_set_i hS1 (by decide) (by decide)] at hP1 hD1
  exact h p l e R s m args below meth c Q D cy A ad0 ad H1 locs1 ls hC hT hE ⟨hP1, hD1, hS1'⟩ hl
end OVM
end
