section
-- ===== PART A: goes FIRST, ahead of the names: the tables' words, and 'selects' of the private methods out of them =====
/-- a private method of a class that the tables say can be made, by its rows of tables_1 -/
def lw_okq (q : MethodName × Nat) : Prop := (q.1.cls ≠ "java/lang/invoke/MethodHandle" ∧ q.1.cls ≠ "java/lang/invoke/VarHandle") ∧ Cond.instantiable q.1.cls q.2 ∈ tables_1 ∧ Cond.privateMethod q.1 ∈ tables_1 ∧ Cond.instanceMethod q.1 ∈ tables_1
theorem lw_p0 : lw_okq (⟨"SectionTemplates$Reader", "skipBlanks", "()V"⟩, 7) := ⟨⟨by decide +kernel, by decide +kernel⟩, List.mem_of_getElem? (i := 59) (by decide +kernel), List.mem_of_getElem? (i := 465) (by decide +kernel), List.mem_of_getElem? (i := 466) (by decide +kernel)⟩
theorem lw_p1 : lw_okq (⟨"SectionTemplates$Reader", "template", "()V"⟩, 7) := ⟨⟨by decide +kernel, by decide +kernel⟩, List.mem_of_getElem? (i := 59) (by decide +kernel), List.mem_of_getElem? (i := 469) (by decide +kernel), List.mem_of_getElem? (i := 470) (by decide +kernel)⟩
theorem lw_p2 : lw_okq (⟨"SectionTemplates$Reader", "expect", "(I)V"⟩, 7) := ⟨⟨by decide +kernel, by decide +kernel⟩, List.mem_of_getElem? (i := 59) (by decide +kernel), List.mem_of_getElem? (i := 477) (by decide +kernel), List.mem_of_getElem? (i := 478) (by decide +kernel)⟩
theorem lw_p3 : lw_okq (⟨"SectionTemplates$Reader", "sign", "()I"⟩, 7) := ⟨⟨by decide +kernel, by decide +kernel⟩, List.mem_of_getElem? (i := 59) (by decide +kernel), List.mem_of_getElem? (i := 481) (by decide +kernel), List.mem_of_getElem? (i := 482) (by decide +kernel)⟩
theorem lw_p4 : lw_okq (⟨"SectionTemplates$Reader", "closeSteps", "()V"⟩, 7) := ⟨⟨by decide +kernel, by decide +kernel⟩, List.mem_of_getElem? (i := 59) (by decide +kernel), List.mem_of_getElem? (i := 489) (by decide +kernel), List.mem_of_getElem? (i := 490) (by decide +kernel)⟩
theorem lw_p5 : lw_okq (⟨"SectionTemplates$Templates", "inside", "(I)I"⟩, 8) := ⟨⟨by decide +kernel, by decide +kernel⟩, List.mem_of_getElem? (i := 25) (by decide +kernel), List.mem_of_getElem? (i := 497) (by decide +kernel), List.mem_of_getElem? (i := 498) (by decide +kernel)⟩
theorem lw_p6 : lw_okq (⟨"SectionTemplates$Reader", "openSteps", "()V"⟩, 7) := ⟨⟨by decide +kernel, by decide +kernel⟩, List.mem_of_getElem? (i := 59) (by decide +kernel), List.mem_of_getElem? (i := 509) (by decide +kernel), List.mem_of_getElem? (i := 510) (by decide +kernel)⟩
theorem lw_p7 : lw_okq (⟨"SectionTemplates$Reader", "waitFor", "(I)V"⟩, 7) := ⟨⟨by decide +kernel, by decide +kernel⟩, List.mem_of_getElem? (i := 59) (by decide +kernel), List.mem_of_getElem? (i := 521) (by decide +kernel), List.mem_of_getElem? (i := 522) (by decide +kernel)⟩
theorem lw_p8 : lw_okq (⟨"SectionTemplates$Reader", "step", "(I)V"⟩, 7) := ⟨⟨by decide +kernel, by decide +kernel⟩, List.mem_of_getElem? (i := 59) (by decide +kernel), List.mem_of_getElem? (i := 529) (by decide +kernel), List.mem_of_getElem? (i := 530) (by decide +kernel)⟩
theorem lw_p9 : lw_okq (⟨"SectionTemplates$Reader", "choice", "()V"⟩, 7) := ⟨⟨by decide +kernel, by decide +kernel⟩, List.mem_of_getElem? (i := 59) (by decide +kernel), List.mem_of_getElem? (i := 540) (by decide +kernel), List.mem_of_getElem? (i := 541) (by decide +kernel)⟩
theorem lw_p10 : lw_okq (⟨"SectionTemplates$Reader", "number", "(I)I"⟩, 7) := ⟨⟨by decide +kernel, by decide +kernel⟩, List.mem_of_getElem? (i := 59) (by decide +kernel), List.mem_of_getElem? (i := 547) (by decide +kernel), List.mem_of_getElem? (i := 548) (by decide +kernel)⟩
theorem lw_p11 : lw_okq (⟨"SectionTemplates$Reader", "signedNumber", "()I"⟩, 7) := ⟨⟨by decide +kernel, by decide +kernel⟩, List.mem_of_getElem? (i := 59) (by decide +kernel), List.mem_of_getElem? (i := 561) (by decide +kernel), List.mem_of_getElem? (i := 562) (by decide +kernel)⟩
theorem lw_p12 : lw_okq (⟨"SectionTemplates$Walker", "holds", "(IJ)Z"⟩, 7) := ⟨⟨by decide +kernel, by decide +kernel⟩, List.mem_of_getElem? (i := 278) (by decide +kernel), List.mem_of_getElem? (i := 654) (by decide +kernel), List.mem_of_getElem? (i := 655) (by decide +kernel)⟩
theorem lw_p13 : lw_okq (⟨"SectionTemplates$Walker", "gapUp", "()J"⟩, 7) := ⟨⟨by decide +kernel, by decide +kernel⟩, List.mem_of_getElem? (i := 278) (by decide +kernel), List.mem_of_getElem? (i := 658) (by decide +kernel), List.mem_of_getElem? (i := 659) (by decide +kernel)⟩
theorem lw_p14 : lw_okq (⟨"SectionTemplates$Side", "inside", "(I)I"⟩, 10) := ⟨⟨by decide +kernel, by decide +kernel⟩, List.mem_of_getElem? (i := 172) (by decide +kernel), List.mem_of_getElem? (i := 666) (by decide +kernel), List.mem_of_getElem? (i := 667) (by decide +kernel)⟩
theorem lw_p15 : lw_okq (⟨"SectionTemplates$Ground", "pointsUpTo", "(J)I"⟩, 3) := ⟨⟨by decide +kernel, by decide +kernel⟩, List.mem_of_getElem? (i := 89) (by decide +kernel), List.mem_of_getElem? (i := 677) (by decide +kernel), List.mem_of_getElem? (i := 678) (by decide +kernel)⟩
def lw_privs_1 : List (MethodName × Nat) := [(⟨"SectionTemplates$Reader", "skipBlanks", "()V"⟩, 7), (⟨"SectionTemplates$Reader", "template", "()V"⟩, 7), (⟨"SectionTemplates$Reader", "expect", "(I)V"⟩, 7), (⟨"SectionTemplates$Reader", "sign", "()I"⟩, 7), (⟨"SectionTemplates$Reader", "closeSteps", "()V"⟩, 7), (⟨"SectionTemplates$Templates", "inside", "(I)I"⟩, 8), (⟨"SectionTemplates$Reader", "openSteps", "()V"⟩, 7), (⟨"SectionTemplates$Reader", "waitFor", "(I)V"⟩, 7), (⟨"SectionTemplates$Reader", "step", "(I)V"⟩, 7), (⟨"SectionTemplates$Reader", "choice", "()V"⟩, 7), (⟨"SectionTemplates$Reader", "number", "(I)I"⟩, 7), (⟨"SectionTemplates$Reader", "signedNumber", "()I"⟩, 7), (⟨"SectionTemplates$Walker", "holds", "(IJ)Z"⟩, 7), (⟨"SectionTemplates$Walker", "gapUp", "()J"⟩, 7), (⟨"SectionTemplates$Side", "inside", "(I)I"⟩, 10), (⟨"SectionTemplates$Ground", "pointsUpTo", "(J)I"⟩, 3)]
theorem lw_r1 : ∀ q ∈ lw_privs_1, lw_okq q := List.forall_mem_cons.mpr ⟨lw_p0, List.forall_mem_cons.mpr ⟨lw_p1, List.forall_mem_cons.mpr ⟨lw_p2, List.forall_mem_cons.mpr ⟨lw_p3, List.forall_mem_cons.mpr ⟨lw_p4, List.forall_mem_cons.mpr ⟨lw_p5, List.forall_mem_cons.mpr ⟨lw_p6, List.forall_mem_cons.mpr ⟨lw_p7, List.forall_mem_cons.mpr ⟨lw_p8, List.forall_mem_cons.mpr ⟨lw_p9, List.forall_mem_cons.mpr ⟨lw_p10, List.forall_mem_cons.mpr ⟨lw_p11, List.forall_mem_cons.mpr ⟨lw_p12, List.forall_mem_cons.mpr ⟨lw_p13, List.forall_mem_cons.mpr ⟨lw_p14, List.forall_mem_cons.mpr ⟨lw_p15, fun _ h => absurd h List.not_mem_nil⟩⟩⟩⟩⟩⟩⟩⟩⟩⟩⟩⟩⟩⟩⟩⟩
theorem lw_p16 : lw_okq (⟨"SectionTemplates$Walker", "gapLow", "()J"⟩, 7) := ⟨⟨by decide +kernel, by decide +kernel⟩, List.mem_of_getElem? (i := 278) (by decide +kernel), List.mem_of_getElem? (i := 692) (by decide +kernel), List.mem_of_getElem? (i := 693) (by decide +kernel)⟩
theorem lw_p17 : lw_okq (⟨"SectionTemplates$Walker", "choose", "(ZZ)Z"⟩, 7) := ⟨⟨by decide +kernel, by decide +kernel⟩, List.mem_of_getElem? (i := 278) (by decide +kernel), List.mem_of_getElem? (i := 696) (by decide +kernel), List.mem_of_getElem? (i := 697) (by decide +kernel)⟩
theorem lw_p18 : lw_okq (⟨"SectionTemplates$Walker", "slope", "(JJ)V"⟩, 7) := ⟨⟨by decide +kernel, by decide +kernel⟩, List.mem_of_getElem? (i := 278) (by decide +kernel), List.mem_of_getElem? (i := 704) (by decide +kernel), List.mem_of_getElem? (i := 705) (by decide +kernel)⟩
theorem lw_p19 : lw_okq (⟨"SectionTemplates$Walker", "meet", "(IJJ)V"⟩, 7) := ⟨⟨by decide +kernel, by decide +kernel⟩, List.mem_of_getElem? (i := 278) (by decide +kernel), List.mem_of_getElem? (i := 722) (by decide +kernel), List.mem_of_getElem? (i := 723) (by decide +kernel)⟩
theorem lw_p20 : lw_okq (⟨"SectionTemplates$Arithmetic", "findCommon", "(LSectionTemplates$Whole;LSectionTemplates$Whole;LSectionTemplates$Whole;)V"⟩, 11) := ⟨⟨by decide +kernel, by decide +kernel⟩, List.mem_of_getElem? (i := 107) (by decide +kernel), List.mem_of_getElem? (i := 742) (by decide +kernel), List.mem_of_getElem? (i := 743) (by decide +kernel)⟩
theorem lw_p21 : lw_okq (⟨"SectionTemplates$Walker", "wall", "()V"⟩, 7) := ⟨⟨by decide +kernel, by decide +kernel⟩, List.mem_of_getElem? (i := 278) (by decide +kernel), List.mem_of_getElem? (i := 811) (by decide +kernel), List.mem_of_getElem? (i := 812) (by decide +kernel)⟩
theorem lw_p22 : lw_okq (⟨"SectionTemplates$Walker", "stride", "(IJJ)V"⟩, 7) := ⟨⟨by decide +kernel, by decide +kernel⟩, List.mem_of_getElem? (i := 278) (by decide +kernel), List.mem_of_getElem? (i := 815) (by decide +kernel), List.mem_of_getElem? (i := 816) (by decide +kernel)⟩
theorem lw_p23 : lw_okq (⟨"SectionTemplates$Areas", "startAt", "(LSectionTemplates$Side;)V"⟩, 14) := ⟨⟨by decide +kernel, by decide +kernel⟩, List.mem_of_getElem? (i := 308) (by decide +kernel), List.mem_of_getElem? (i := 899) (by decide +kernel), List.mem_of_getElem? (i := 900) (by decide +kernel)⟩
theorem lw_p24 : lw_okq (⟨"SectionTemplates$Areas", "findPiece", "()Z"⟩, 14) := ⟨⟨by decide +kernel, by decide +kernel⟩, List.mem_of_getElem? (i := 308) (by decide +kernel), List.mem_of_getElem? (i := 904) (by decide +kernel), List.mem_of_getElem? (i := 905) (by decide +kernel)⟩
theorem lw_p25 : lw_okq (⟨"SectionTemplates$Areas", "measurePiece", "()V"⟩, 14) := ⟨⟨by decide +kernel, by decide +kernel⟩, List.mem_of_getElem? (i := 308) (by decide +kernel), List.mem_of_getElem? (i := 909) (by decide +kernel), List.mem_of_getElem? (i := 910) (by decide +kernel)⟩
theorem lw_p26 : lw_okq (⟨"SectionTemplates$Areas", "gapAt", "(LSectionTemplates$Fraction;J)V"⟩, 14) := ⟨⟨by decide +kernel, by decide +kernel⟩, List.mem_of_getElem? (i := 308) (by decide +kernel), List.mem_of_getElem? (i := 913) (by decide +kernel), List.mem_of_getElem? (i := 914) (by decide +kernel)⟩
theorem lw_p27 : lw_okq (⟨"SectionTemplates$Areas", "addTriangle", "(LSectionTemplates$Fraction;LSectionTemplates$Fraction;)V"⟩, 14) := ⟨⟨by decide +kernel, by decide +kernel⟩, List.mem_of_getElem? (i := 308) (by decide +kernel), List.mem_of_getElem? (i := 944) (by decide +kernel), List.mem_of_getElem? (i := 945) (by decide +kernel)⟩
theorem lw_p28 : lw_okq (⟨"SectionTemplates$Areas", "addShare", "()V"⟩, 14) := ⟨⟨by decide +kernel, by decide +kernel⟩, List.mem_of_getElem? (i := 308) (by decide +kernel), List.mem_of_getElem? (i := 948) (by decide +kernel), List.mem_of_getElem? (i := 949) (by decide +kernel)⟩
theorem lw_p29 : lw_okq (⟨"SectionTemplates$Areas", "addTrapezium", "()V"⟩, 14) := ⟨⟨by decide +kernel, by decide +kernel⟩, List.mem_of_getElem? (i := 308) (by decide +kernel), List.mem_of_getElem? (i := 952) (by decide +kernel), List.mem_of_getElem? (i := 953) (by decide +kernel)⟩
theorem lw_p30 : lw_okq (⟨"SectionTemplatesModel", "set", "(IJJ)V"⟩, 39) := ⟨⟨by decide +kernel, by decide +kernel⟩, List.mem_of_getElem? (i := 986) (by decide +kernel), List.mem_of_getElem? (i := 994) (by decide +kernel), List.mem_of_getElem? (i := 995) (by decide +kernel)⟩
theorem lw_p31 : lw_okq (⟨"SectionTemplatesModel", "setNumber", "(IJ)V"⟩, 39) := ⟨⟨by decide +kernel, by decide +kernel⟩, List.mem_of_getElem? (i := 986) (by decide +kernel), List.mem_of_getElem? (i := 1001) (by decide +kernel), List.mem_of_getElem? (i := 1002) (by decide +kernel)⟩
def lw_privs_2 : List (MethodName × Nat) := [(⟨"SectionTemplates$Walker", "gapLow", "()J"⟩, 7), (⟨"SectionTemplates$Walker", "choose", "(ZZ)Z"⟩, 7), (⟨"SectionTemplates$Walker", "slope", "(JJ)V"⟩, 7), (⟨"SectionTemplates$Walker", "meet", "(IJJ)V"⟩, 7), (⟨"SectionTemplates$Arithmetic", "findCommon", "(LSectionTemplates$Whole;LSectionTemplates$Whole;LSectionTemplates$Whole;)V"⟩, 11), (⟨"SectionTemplates$Walker", "wall", "()V"⟩, 7), (⟨"SectionTemplates$Walker", "stride", "(IJJ)V"⟩, 7), (⟨"SectionTemplates$Areas", "startAt", "(LSectionTemplates$Side;)V"⟩, 14), (⟨"SectionTemplates$Areas", "findPiece", "()Z"⟩, 14), (⟨"SectionTemplates$Areas", "measurePiece", "()V"⟩, 14), (⟨"SectionTemplates$Areas", "gapAt", "(LSectionTemplates$Fraction;J)V"⟩, 14), (⟨"SectionTemplates$Areas", "addTriangle", "(LSectionTemplates$Fraction;LSectionTemplates$Fraction;)V"⟩, 14), (⟨"SectionTemplates$Areas", "addShare", "()V"⟩, 14), (⟨"SectionTemplates$Areas", "addTrapezium", "()V"⟩, 14), (⟨"SectionTemplatesModel", "set", "(IJJ)V"⟩, 39), (⟨"SectionTemplatesModel", "setNumber", "(IJ)V"⟩, 39)]
theorem lw_r2 : ∀ q ∈ lw_privs_2, lw_okq q := List.forall_mem_cons.mpr ⟨lw_p16, List.forall_mem_cons.mpr ⟨lw_p17, List.forall_mem_cons.mpr ⟨lw_p18, List.forall_mem_cons.mpr ⟨lw_p19, List.forall_mem_cons.mpr ⟨lw_p20, List.forall_mem_cons.mpr ⟨lw_p21, List.forall_mem_cons.mpr ⟨lw_p22, List.forall_mem_cons.mpr ⟨lw_p23, List.forall_mem_cons.mpr ⟨lw_p24, List.forall_mem_cons.mpr ⟨lw_p25, List.forall_mem_cons.mpr ⟨lw_p26, List.forall_mem_cons.mpr ⟨lw_p27, List.forall_mem_cons.mpr ⟨lw_p28, List.forall_mem_cons.mpr ⟨lw_p29, List.forall_mem_cons.mpr ⟨lw_p30, List.forall_mem_cons.mpr ⟨lw_p31, fun _ h => absurd h List.not_mem_nil⟩⟩⟩⟩⟩⟩⟩⟩⟩⟩⟩⟩⟩⟩⟩⟩
theorem lw_p32 : lw_okq (⟨"SectionTemplatesModel", "reduce", "(I)V"⟩, 39) := ⟨⟨by decide +kernel, by decide +kernel⟩, List.mem_of_getElem? (i := 986) (by decide +kernel), List.mem_of_getElem? (i := 1006) (by decide +kernel), List.mem_of_getElem? (i := 1007) (by decide +kernel)⟩
theorem lw_p33 : lw_okq (⟨"SectionTemplatesModel", "common", "(II)V"⟩, 39) := ⟨⟨by decide +kernel, by decide +kernel⟩, List.mem_of_getElem? (i := 986) (by decide +kernel), List.mem_of_getElem? (i := 1010) (by decide +kernel), List.mem_of_getElem? (i := 1011) (by decide +kernel)⟩
theorem lw_p34 : lw_okq (⟨"SectionTemplatesModel", "copyNumber", "(II)V"⟩, 39) := ⟨⟨by decide +kernel, by decide +kernel⟩, List.mem_of_getElem? (i := 986) (by decide +kernel), List.mem_of_getElem? (i := 1014) (by decide +kernel), List.mem_of_getElem? (i := 1015) (by decide +kernel)⟩
theorem lw_p35 : lw_okq (⟨"SectionTemplatesModel", "isOdd", "(I)Z"⟩, 39) := ⟨⟨by decide +kernel, by decide +kernel⟩, List.mem_of_getElem? (i := 986) (by decide +kernel), List.mem_of_getElem? (i := 1018) (by decide +kernel), List.mem_of_getElem? (i := 1019) (by decide +kernel)⟩
theorem lw_p36 : lw_okq (⟨"SectionTemplatesModel", "halve", "(I)V"⟩, 39) := ⟨⟨by decide +kernel, by decide +kernel⟩, List.mem_of_getElem? (i := 986) (by decide +kernel), List.mem_of_getElem? (i := 1022) (by decide +kernel), List.mem_of_getElem? (i := 1023) (by decide +kernel)⟩
theorem lw_p37 : lw_okq (⟨"SectionTemplatesModel", "trim", "(I)V"⟩, 39) := ⟨⟨by decide +kernel, by decide +kernel⟩, List.mem_of_getElem? (i := 986) (by decide +kernel), List.mem_of_getElem? (i := 1027) (by decide +kernel), List.mem_of_getElem? (i := 1028) (by decide +kernel)⟩
theorem lw_p38 : lw_okq (⟨"SectionTemplatesModel", "compareNumbers", "(II)I"⟩, 39) := ⟨⟨by decide +kernel, by decide +kernel⟩, List.mem_of_getElem? (i := 986) (by decide +kernel), List.mem_of_getElem? (i := 1031) (by decide +kernel), List.mem_of_getElem? (i := 1032) (by decide +kernel)⟩
theorem lw_p39 : lw_okq (⟨"SectionTemplatesModel", "takeNumbers", "(III)V"⟩, 39) := ⟨⟨by decide +kernel, by decide +kernel⟩, List.mem_of_getElem? (i := 986) (by decide +kernel), List.mem_of_getElem? (i := 1035) (by decide +kernel), List.mem_of_getElem? (i := 1036) (by decide +kernel)⟩
theorem lw_p40 : lw_okq (⟨"SectionTemplatesModel", "addNumbers", "(III)V"⟩, 39) := ⟨⟨by decide +kernel, by decide +kernel⟩, List.mem_of_getElem? (i := 986) (by decide +kernel), List.mem_of_getElem? (i := 1039) (by decide +kernel), List.mem_of_getElem? (i := 1040) (by decide +kernel)⟩
theorem lw_p41 : lw_okq (⟨"SectionTemplatesModel", "divideNumbers", "(IIII)V"⟩, 39) := ⟨⟨by decide +kernel, by decide +kernel⟩, List.mem_of_getElem? (i := 986) (by decide +kernel), List.mem_of_getElem? (i := 1044) (by decide +kernel), List.mem_of_getElem? (i := 1045) (by decide +kernel)⟩
theorem lw_p42 : lw_okq (⟨"SectionTemplatesModel", "next", "()I"⟩, 39) := ⟨⟨by decide +kernel, by decide +kernel⟩, List.mem_of_getElem? (i := 986) (by decide +kernel), List.mem_of_getElem? (i := 1175) (by decide +kernel), List.mem_of_getElem? (i := 1176) (by decide +kernel)⟩
theorem lw_p43 : lw_okq (⟨"SectionTemplatesModel", "eat", "(I)Z"⟩, 39) := ⟨⟨by decide +kernel, by decide +kernel⟩, List.mem_of_getElem? (i := 986) (by decide +kernel), List.mem_of_getElem? (i := 1179) (by decide +kernel), List.mem_of_getElem? (i := 1180) (by decide +kernel)⟩
theorem lw_p44 : lw_okq (⟨"SectionTemplatesModel", "readTemplate", "()Z"⟩, 39) := ⟨⟨by decide +kernel, by decide +kernel⟩, List.mem_of_getElem? (i := 986) (by decide +kernel), List.mem_of_getElem? (i := 1183) (by decide +kernel), List.mem_of_getElem? (i := 1184) (by decide +kernel)⟩
theorem lw_p45 : lw_okq (⟨"SectionTemplatesModel", "readAsk", "()Z"⟩, 39) := ⟨⟨by decide +kernel, by decide +kernel⟩, List.mem_of_getElem? (i := 986) (by decide +kernel), List.mem_of_getElem? (i := 1187) (by decide +kernel), List.mem_of_getElem? (i := 1188) (by decide +kernel)⟩
theorem lw_p46 : lw_okq (⟨"SectionTemplatesModel", "readNumber", "(ZZ)Z"⟩, 39) := ⟨⟨by decide +kernel, by decide +kernel⟩, List.mem_of_getElem? (i := 986) (by decide +kernel), List.mem_of_getElem? (i := 1191) (by decide +kernel), List.mem_of_getElem? (i := 1192) (by decide +kernel)⟩
theorem lw_p47 : lw_okq (⟨"SectionTemplatesModel", "open", "()Z"⟩, 39) := ⟨⟨by decide +kernel, by decide +kernel⟩, List.mem_of_getElem? (i := 986) (by decide +kernel), List.mem_of_getElem? (i := 1198) (by decide +kernel), List.mem_of_getElem? (i := 1199) (by decide +kernel)⟩
def lw_privs_3 : List (MethodName × Nat) := [(⟨"SectionTemplatesModel", "reduce", "(I)V"⟩, 39), (⟨"SectionTemplatesModel", "common", "(II)V"⟩, 39), (⟨"SectionTemplatesModel", "copyNumber", "(II)V"⟩, 39), (⟨"SectionTemplatesModel", "isOdd", "(I)Z"⟩, 39), (⟨"SectionTemplatesModel", "halve", "(I)V"⟩, 39), (⟨"SectionTemplatesModel", "trim", "(I)V"⟩, 39), (⟨"SectionTemplatesModel", "compareNumbers", "(II)I"⟩, 39), (⟨"SectionTemplatesModel", "takeNumbers", "(III)V"⟩, 39), (⟨"SectionTemplatesModel", "addNumbers", "(III)V"⟩, 39), (⟨"SectionTemplatesModel", "divideNumbers", "(IIII)V"⟩, 39), (⟨"SectionTemplatesModel", "next", "()I"⟩, 39), (⟨"SectionTemplatesModel", "eat", "(I)Z"⟩, 39), (⟨"SectionTemplatesModel", "readTemplate", "()Z"⟩, 39), (⟨"SectionTemplatesModel", "readAsk", "()Z"⟩, 39), (⟨"SectionTemplatesModel", "readNumber", "(ZZ)Z"⟩, 39), (⟨"SectionTemplatesModel", "open", "()Z"⟩, 39)]
theorem lw_r3 : ∀ q ∈ lw_privs_3, lw_okq q := List.forall_mem_cons.mpr ⟨lw_p32, List.forall_mem_cons.mpr ⟨lw_p33, List.forall_mem_cons.mpr ⟨lw_p34, List.forall_mem_cons.mpr ⟨lw_p35, List.forall_mem_cons.mpr ⟨lw_p36, List.forall_mem_cons.mpr ⟨lw_p37, List.forall_mem_cons.mpr ⟨lw_p38, List.forall_mem_cons.mpr ⟨lw_p39, List.forall_mem_cons.mpr ⟨lw_p40, List.forall_mem_cons.mpr ⟨lw_p41, List.forall_mem_cons.mpr ⟨lw_p42, List.forall_mem_cons.mpr ⟨lw_p43, List.forall_mem_cons.mpr ⟨lw_p44, List.forall_mem_cons.mpr ⟨lw_p45, List.forall_mem_cons.mpr ⟨lw_p46, List.forall_mem_cons.mpr ⟨lw_p47, fun _ h => absurd h List.not_mem_nil⟩⟩⟩⟩⟩⟩⟩⟩⟩⟩⟩⟩⟩⟩⟩⟩
theorem lw_p48 : lw_okq (⟨"SectionTemplatesModel", "row", "(III)V"⟩, 39) := ⟨⟨by decide +kernel, by decide +kernel⟩, List.mem_of_getElem? (i := 986) (by decide +kernel), List.mem_of_getElem? (i := 1202) (by decide +kernel), List.mem_of_getElem? (i := 1203) (by decide +kernel)⟩
theorem lw_p49 : lw_okq (⟨"SectionTemplatesModel", "readStep", "(I)Z"⟩, 39) := ⟨⟨by decide +kernel, by decide +kernel⟩, List.mem_of_getElem? (i := 986) (by decide +kernel), List.mem_of_getElem? (i := 1206) (by decide +kernel), List.mem_of_getElem? (i := 1207) (by decide +kernel)⟩
theorem lw_p50 : lw_okq (⟨"SectionTemplatesModel", "close", "()Z"⟩, 39) := ⟨⟨by decide +kernel, by decide +kernel⟩, List.mem_of_getElem? (i := 986) (by decide +kernel), List.mem_of_getElem? (i := 1210) (by decide +kernel), List.mem_of_getElem? (i := 1211) (by decide +kernel)⟩
theorem lw_p51 : lw_okq (⟨"SectionTemplatesModel", "walk", "(II)V"⟩, 39) := ⟨⟨by decide +kernel, by decide +kernel⟩, List.mem_of_getElem? (i := 986) (by decide +kernel), List.mem_of_getElem? (i := 1239) (by decide +kernel), List.mem_of_getElem? (i := 1240) (by decide +kernel)⟩
theorem lw_p52 : lw_okq (⟨"SectionTemplatesModel", "corner", "(I)V"⟩, 39) := ⟨⟨by decide +kernel, by decide +kernel⟩, List.mem_of_getElem? (i := 986) (by decide +kernel), List.mem_of_getElem? (i := 1244) (by decide +kernel), List.mem_of_getElem? (i := 1245) (by decide +kernel)⟩
theorem lw_p53 : lw_okq (⟨"SectionTemplatesModel", "slope", "(II)V"⟩, 39) := ⟨⟨by decide +kernel, by decide +kernel⟩, List.mem_of_getElem? (i := 986) (by decide +kernel), List.mem_of_getElem? (i := 1248) (by decide +kernel), List.mem_of_getElem? (i := 1249) (by decide +kernel)⟩
theorem lw_p54 : lw_okq (⟨"SectionTemplatesModel", "above", "()J"⟩, 39) := ⟨⟨by decide +kernel, by decide +kernel⟩, List.mem_of_getElem? (i := 986) (by decide +kernel), List.mem_of_getElem? (i := 1252) (by decide +kernel), List.mem_of_getElem? (i := 1253) (by decide +kernel)⟩
theorem lw_p55 : lw_okq (⟨"SectionTemplatesModel", "line", "(J)V"⟩, 39) := ⟨⟨by decide +kernel, by decide +kernel⟩, List.mem_of_getElem? (i := 986) (by decide +kernel), List.mem_of_getElem? (i := 1256) (by decide +kernel), List.mem_of_getElem? (i := 1257) (by decide +kernel)⟩
theorem lw_p56 : lw_okq (⟨"SectionTemplatesModel", "isBeyond", "(IIII)Z"⟩, 39) := ⟨⟨by decide +kernel, by decide +kernel⟩, List.mem_of_getElem? (i := 986) (by decide +kernel), List.mem_of_getElem? (i := 1260) (by decide +kernel), List.mem_of_getElem? (i := 1261) (by decide +kernel)⟩
theorem lw_p57 : lw_okq (⟨"SectionTemplatesModel", "times", "(III)V"⟩, 39) := ⟨⟨by decide +kernel, by decide +kernel⟩, List.mem_of_getElem? (i := 986) (by decide +kernel), List.mem_of_getElem? (i := 1264) (by decide +kernel), List.mem_of_getElem? (i := 1265) (by decide +kernel)⟩
theorem lw_p58 : lw_okq (⟨"SectionTemplatesModel", "multiplyNumbers", "(III)V"⟩, 39) := ⟨⟨by decide +kernel, by decide +kernel⟩, List.mem_of_getElem? (i := 986) (by decide +kernel), List.mem_of_getElem? (i := 1268) (by decide +kernel), List.mem_of_getElem? (i := 1269) (by decide +kernel)⟩
theorem lw_p59 : lw_okq (⟨"SectionTemplatesModel", "add", "(III)V"⟩, 39) := ⟨⟨by decide +kernel, by decide +kernel⟩, List.mem_of_getElem? (i := 986) (by decide +kernel), List.mem_of_getElem? (i := 1272) (by decide +kernel), List.mem_of_getElem? (i := 1273) (by decide +kernel)⟩
theorem lw_p60 : lw_okq (⟨"SectionTemplatesModel", "plus", "(IIII)V"⟩, 39) := ⟨⟨by decide +kernel, by decide +kernel⟩, List.mem_of_getElem? (i := 986) (by decide +kernel), List.mem_of_getElem? (i := 1276) (by decide +kernel), List.mem_of_getElem? (i := 1277) (by decide +kernel)⟩
theorem lw_p61 : lw_okq (⟨"SectionTemplatesModel", "wall", "()V"⟩, 39) := ⟨⟨by decide +kernel, by decide +kernel⟩, List.mem_of_getElem? (i := 986) (by decide +kernel), List.mem_of_getElem? (i := 1280) (by decide +kernel), List.mem_of_getElem? (i := 1281) (by decide +kernel)⟩
theorem lw_p62 : lw_okq (⟨"SectionTemplatesModel", "take", "(III)V"⟩, 39) := ⟨⟨by decide +kernel, by decide +kernel⟩, List.mem_of_getElem? (i := 986) (by decide +kernel), List.mem_of_getElem? (i := 1284) (by decide +kernel), List.mem_of_getElem? (i := 1285) (by decide +kernel)⟩
theorem lw_p63 : lw_okq (⟨"SectionTemplatesModel", "holds", "(II)Z"⟩, 39) := ⟨⟨by decide +kernel, by decide +kernel⟩, List.mem_of_getElem? (i := 986) (by decide +kernel), List.mem_of_getElem? (i := 1288) (by decide +kernel), List.mem_of_getElem? (i := 1289) (by decide +kernel)⟩
def lw_privs_4 : List (MethodName × Nat) := [(⟨"SectionTemplatesModel", "row", "(III)V"⟩, 39), (⟨"SectionTemplatesModel", "readStep", "(I)Z"⟩, 39), (⟨"SectionTemplatesModel", "close", "()Z"⟩, 39), (⟨"SectionTemplatesModel", "walk", "(II)V"⟩, 39), (⟨"SectionTemplatesModel", "corner", "(I)V"⟩, 39), (⟨"SectionTemplatesModel", "slope", "(II)V"⟩, 39), (⟨"SectionTemplatesModel", "above", "()J"⟩, 39), (⟨"SectionTemplatesModel", "line", "(J)V"⟩, 39), (⟨"SectionTemplatesModel", "isBeyond", "(IIII)Z"⟩, 39), (⟨"SectionTemplatesModel", "times", "(III)V"⟩, 39), (⟨"SectionTemplatesModel", "multiplyNumbers", "(III)V"⟩, 39), (⟨"SectionTemplatesModel", "add", "(III)V"⟩, 39), (⟨"SectionTemplatesModel", "plus", "(IIII)V"⟩, 39), (⟨"SectionTemplatesModel", "wall", "()V"⟩, 39), (⟨"SectionTemplatesModel", "take", "(III)V"⟩, 39), (⟨"SectionTemplatesModel", "holds", "(II)Z"⟩, 39)]
theorem lw_r4 : ∀ q ∈ lw_privs_4, lw_okq q := List.forall_mem_cons.mpr ⟨lw_p48, List.forall_mem_cons.mpr ⟨lw_p49, List.forall_mem_cons.mpr ⟨lw_p50, List.forall_mem_cons.mpr ⟨lw_p51, List.forall_mem_cons.mpr ⟨lw_p52, List.forall_mem_cons.mpr ⟨lw_p53, List.forall_mem_cons.mpr ⟨lw_p54, List.forall_mem_cons.mpr ⟨lw_p55, List.forall_mem_cons.mpr ⟨lw_p56, List.forall_mem_cons.mpr ⟨lw_p57, List.forall_mem_cons.mpr ⟨lw_p58, List.forall_mem_cons.mpr ⟨lw_p59, List.forall_mem_cons.mpr ⟨lw_p60, List.forall_mem_cons.mpr ⟨lw_p61, List.forall_mem_cons.mpr ⟨lw_p62, List.forall_mem_cons.mpr ⟨lw_p63, fun _ h => absurd h List.not_mem_nil⟩⟩⟩⟩⟩⟩⟩⟩⟩⟩⟩⟩⟩⟩⟩⟩
theorem lw_p64 : lw_okq (⟨"SectionTemplatesModel", "turn", "()V"⟩, 39) := ⟨⟨by decide +kernel, by decide +kernel⟩, List.mem_of_getElem? (i := 986) (by decide +kernel), List.mem_of_getElem? (i := 1292) (by decide +kernel), List.mem_of_getElem? (i := 1293) (by decide +kernel)⟩
theorem lw_p65 : lw_okq (⟨"SectionTemplatesModel", "copy", "(II)V"⟩, 39) := ⟨⟨by decide +kernel, by decide +kernel⟩, List.mem_of_getElem? (i := 986) (by decide +kernel), List.mem_of_getElem? (i := 1296) (by decide +kernel), List.mem_of_getElem? (i := 1297) (by decide +kernel)⟩
theorem lw_p66 : lw_okq (⟨"SectionTemplatesModel", "areas", "()V"⟩, 39) := ⟨⟨by decide +kernel, by decide +kernel⟩, List.mem_of_getElem? (i := 986) (by decide +kernel), List.mem_of_getElem? (i := 1300) (by decide +kernel), List.mem_of_getElem? (i := 1301) (by decide +kernel)⟩
theorem lw_p67 : lw_okq (⟨"SectionTemplatesModel", "compare", "(II)I"⟩, 39) := ⟨⟨by decide +kernel, by decide +kernel⟩, List.mem_of_getElem? (i := 986) (by decide +kernel), List.mem_of_getElem? (i := 1304) (by decide +kernel), List.mem_of_getElem? (i := 1305) (by decide +kernel)⟩
theorem lw_p68 : lw_okq (⟨"SectionTemplatesModel", "piece", "(I)V"⟩, 39) := ⟨⟨by decide +kernel, by decide +kernel⟩, List.mem_of_getElem? (i := 986) (by decide +kernel), List.mem_of_getElem? (i := 1308) (by decide +kernel), List.mem_of_getElem? (i := 1309) (by decide +kernel)⟩
theorem lw_p69 : lw_okq (⟨"SectionTemplatesModel", "between", "(III)V"⟩, 39) := ⟨⟨by decide +kernel, by decide +kernel⟩, List.mem_of_getElem? (i := 986) (by decide +kernel), List.mem_of_getElem? (i := 1312) (by decide +kernel), List.mem_of_getElem? (i := 1313) (by decide +kernel)⟩
theorem lw_p70 : lw_okq (⟨"SectionTemplatesModel", "groundAt", "(II)V"⟩, 39) := ⟨⟨by decide +kernel, by decide +kernel⟩, List.mem_of_getElem? (i := 986) (by decide +kernel), List.mem_of_getElem? (i := 1316) (by decide +kernel), List.mem_of_getElem? (i := 1317) (by decide +kernel)⟩
theorem lw_p71 : lw_okq (⟨"SectionTemplatesModel", "sectionAt", "(III)V"⟩, 39) := ⟨⟨by decide +kernel, by decide +kernel⟩, List.mem_of_getElem? (i := 986) (by decide +kernel), List.mem_of_getElem? (i := 1320) (by decide +kernel), List.mem_of_getElem? (i := 1321) (by decide +kernel)⟩
theorem lw_p72 : lw_okq (⟨"SectionTemplatesModel", "over", "(III)V"⟩, 39) := ⟨⟨by decide +kernel, by decide +kernel⟩, List.mem_of_getElem? (i := 986) (by decide +kernel), List.mem_of_getElem? (i := 1324) (by decide +kernel), List.mem_of_getElem? (i := 1325) (by decide +kernel)⟩
theorem lw_p73 : lw_okq (⟨"SectionTemplatesModel", "addHalf", "(III)V"⟩, 39) := ⟨⟨by decide +kernel, by decide +kernel⟩, List.mem_of_getElem? (i := 986) (by decide +kernel), List.mem_of_getElem? (i := 1328) (by decide +kernel), List.mem_of_getElem? (i := 1329) (by decide +kernel)⟩
theorem lw_p74 : lw_okq (⟨"SectionTemplatesModel", "isCorner", "(I)Z"⟩, 39) := ⟨⟨by decide +kernel, by decide +kernel⟩, List.mem_of_getElem? (i := 986) (by decide +kernel), List.mem_of_getElem? (i := 1337) (by decide +kernel), List.mem_of_getElem? (i := 1338) (by decide +kernel)⟩
theorem lw_p75 : lw_okq (⟨"SectionTemplatesModel", "tell", "(II)J"⟩, 39) := ⟨⟨by decide +kernel, by decide +kernel⟩, List.mem_of_getElem? (i := 986) (by decide +kernel), List.mem_of_getElem? (i := 1345) (by decide +kernel), List.mem_of_getElem? (i := 1346) (by decide +kernel)⟩
theorem lw_p76 : lw_okq (⟨"SectionTemplatesModel", "digits", "(II)J"⟩, 39) := ⟨⟨by decide +kernel, by decide +kernel⟩, List.mem_of_getElem? (i := 986) (by decide +kernel), List.mem_of_getElem? (i := 1349) (by decide +kernel), List.mem_of_getElem? (i := 1350) (by decide +kernel)⟩
theorem lw_p77 : lw_okq (⟨"SectionTemplatesModel", "whole", "(II)V"⟩, 39) := ⟨⟨by decide +kernel, by decide +kernel⟩, List.mem_of_getElem? (i := 986) (by decide +kernel), List.mem_of_getElem? (i := 1381) (by decide +kernel), List.mem_of_getElem? (i := 1382) (by decide +kernel)⟩
def lw_privs_5 : List (MethodName × Nat) := [(⟨"SectionTemplatesModel", "turn", "()V"⟩, 39), (⟨"SectionTemplatesModel", "copy", "(II)V"⟩, 39), (⟨"SectionTemplatesModel", "areas", "()V"⟩, 39), (⟨"SectionTemplatesModel", "compare", "(II)I"⟩, 39), (⟨"SectionTemplatesModel", "piece", "(I)V"⟩, 39), (⟨"SectionTemplatesModel", "between", "(III)V"⟩, 39), (⟨"SectionTemplatesModel", "groundAt", "(II)V"⟩, 39), (⟨"SectionTemplatesModel", "sectionAt", "(III)V"⟩, 39), (⟨"SectionTemplatesModel", "over", "(III)V"⟩, 39), (⟨"SectionTemplatesModel", "addHalf", "(III)V"⟩, 39), (⟨"SectionTemplatesModel", "isCorner", "(I)Z"⟩, 39), (⟨"SectionTemplatesModel", "tell", "(II)J"⟩, 39), (⟨"SectionTemplatesModel", "digits", "(II)J"⟩, 39), (⟨"SectionTemplatesModel", "whole", "(II)V"⟩, 39)]
theorem lw_r5 : ∀ q ∈ lw_privs_5, lw_okq q := List.forall_mem_cons.mpr ⟨lw_p64, List.forall_mem_cons.mpr ⟨lw_p65, List.forall_mem_cons.mpr ⟨lw_p66, List.forall_mem_cons.mpr ⟨lw_p67, List.forall_mem_cons.mpr ⟨lw_p68, List.forall_mem_cons.mpr ⟨lw_p69, List.forall_mem_cons.mpr ⟨lw_p70, List.forall_mem_cons.mpr ⟨lw_p71, List.forall_mem_cons.mpr ⟨lw_p72, List.forall_mem_cons.mpr ⟨lw_p73, List.forall_mem_cons.mpr ⟨lw_p74, List.forall_mem_cons.mpr ⟨lw_p75, List.forall_mem_cons.mpr ⟨lw_p76, List.forall_mem_cons.mpr ⟨lw_p77, fun _ h => absurd h List.not_mem_nil⟩⟩⟩⟩⟩⟩⟩⟩⟩⟩⟩⟩⟩⟩
def lw_privs : List (MethodName × Nat) := lw_privs_1 ++ (lw_privs_2 ++ (lw_privs_3 ++ (lw_privs_4 ++ (lw_privs_5))))
def lw_tbl : List Cond := k2_sels lw_privs ++ tables_1
theorem lw_privs_ok : ∀ q ∈ lw_privs, lw_okq q := by
  show ∀ q ∈ lw_privs_1 ++ (lw_privs_2 ++ (lw_privs_3 ++ (lw_privs_4 ++ (lw_privs_5)))), lw_okq q
  exact List.forall_mem_append.mpr ⟨lw_r1, List.forall_mem_append.mpr ⟨lw_r2, List.forall_mem_append.mpr ⟨lw_r3, List.forall_mem_append.mpr ⟨lw_r4, lw_r5⟩⟩⟩⟩
end
section
/-! TABLES OF THE PLAIN MACHINE, printed by wip/whole/tools/gen_tables.py out of claim/Statement.lean -/
def am_T0 : u_T := fun k => match k with
  | 0 => ("SectionTemplates", "reader", "LSectionTemplates$Reader;", true)
  | 1 => ("SectionTemplates", "templates", "LSectionTemplates$Templates;", false)
  | 2 => ("SectionTemplates", "draft", "LSectionTemplates$Templates;", false)
  | 3 => ("SectionTemplates", "ground", "LSectionTemplates$Ground;", true)
  | 4 => ("SectionTemplates", "walkedGround", "LSectionTemplates$Ground;", true)
  | 5 => ("SectionTemplates", "axisLevel", "I", false)
  | 6 => ("SectionTemplates", "axisBank", "I", false)
  | 7 => ("SectionTemplates", "landLeft", "I", false)
  | 8 => ("SectionTemplates", "landRight", "I", false)
  | 9 => ("SectionTemplates", "arithmetic", "LSectionTemplates$Arithmetic;", true)
  | 10 => ("SectionTemplates", "section", "LSectionTemplates$Section;", true)
  | 11 => ("SectionTemplates", "walker", "LSectionTemplates$Walker;", true)
  | 12 => ("SectionTemplates", "areas", "LSectionTemplates$Areas;", true)
  | 13 => ("SectionTemplates", "cutKept", "LSectionTemplates$Earthwork;", true)
  | 14 => ("SectionTemplates", "fillKept", "LSectionTemplates$Earthwork;", true)
  | 15 => ("SectionTemplates", "sectionsKept", "I", false)
  | 16 => ("SectionTemplates", "lastMetre", "I", false)
  | _ => ("SectionTemplates", "told", "LSectionTemplates$Fraction;", true)
def am_T1 : u_T := fun k => match k with
  | 0 => ("SectionTemplates$Templates", "kinds", "[I", true)
  | 1 => ("SectionTemplates$Templates", "firsts", "[I", true)
  | 2 => ("SectionTemplates$Templates", "seconds", "[I", true)
  | 3 => ("SectionTemplates$Templates", "targets", "[I", true)
  | 4 => ("SectionTemplates$Templates", "ends", "[I", true)
  | 5 => ("SectionTemplates$Templates", "orders", "I", false)
  | 6 => ("SectionTemplates$Templates", "steps", "I", false)
  | _ => ("SectionTemplates$Templates", "size", "I", false)
def am_T2 : u_T := fun k => match k with
  | 0 => ("SectionTemplates$Reader", "signs", "[I", true)
  | 1 => ("SectionTemplates$Reader", "size", "I", false)
  | 2 => ("SectionTemplates$Reader", "at", "I", false)
  | 3 => ("SectionTemplates$Reader", "wrong", "Z", false)
  | 4 => ("SectionTemplates$Reader", "into", "LSectionTemplates$Templates;", false)
  | 5 => ("SectionTemplates$Reader", "waiting", "[I", true)
  | _ => ("SectionTemplates$Reader", "open", "I", false)
def am_T3 : u_T := fun k => match k with
  | 0 => ("SectionTemplates$Ground", "offs", "[I", true)
  | 1 => ("SectionTemplates$Ground", "levels", "[I", true)
  | _ => ("SectionTemplates$Ground", "size", "I", false)
def am_T4 : u_T := fun k => match k with
  | 0 => ("SectionTemplates$Arithmetic", "common", "LSectionTemplates$Whole;", true)
  | 1 => ("SectionTemplates$Arithmetic", "again", "LSectionTemplates$Whole;", true)
  | 2 => ("SectionTemplates$Arithmetic", "aUp", "LSectionTemplates$Whole;", true)
  | 3 => ("SectionTemplates$Arithmetic", "bUp", "LSectionTemplates$Whole;", true)
  | 4 => ("SectionTemplates$Arithmetic", "aLow", "LSectionTemplates$Whole;", true)
  | 5 => ("SectionTemplates$Arithmetic", "bLow", "LSectionTemplates$Whole;", true)
  | 6 => ("SectionTemplates$Arithmetic", "up", "LSectionTemplates$Whole;", true)
  | 7 => ("SectionTemplates$Arithmetic", "rest", "LSectionTemplates$Whole;", true)
  | 8 => ("SectionTemplates$Arithmetic", "divisor", "LSectionTemplates$Whole;", true)
  | 9 => ("SectionTemplates$Arithmetic", "other", "LSectionTemplates$Whole;", true)
  | _ => ("SectionTemplates$Arithmetic", "unused", "LSectionTemplates$Whole;", true)
def am_T5 : u_T := fun k => match k with
  | 0 => ("SectionTemplates$Whole", "limbs", "[J", true)
  | _ => ("SectionTemplates$Whole", "size", "I", false)
def am_T6 : u_T := fun k => match k with
  | 0 => ("SectionTemplates$Section", "left", "LSectionTemplates$Side;", true)
  | 1 => ("SectionTemplates$Section", "right", "LSectionTemplates$Side;", true)
  | 2 => ("SectionTemplates$Section", "walked", "Z", false)
  | 3 => ("SectionTemplates$Section", "taken", "[I", true)
  | _ => ("SectionTemplates$Section", "choices", "I", false)
def am_T7 : u_T := fun k => match k with
  | 0 => ("SectionTemplates$Side", "sign", "I", true)
  | 1 => ("SectionTemplates$Side", "codes", "[I", true)
  | 2 => ("SectionTemplates$Side", "outs", "[J", true)
  | 3 => ("SectionTemplates$Side", "heights", "[J", true)
  | 4 => ("SectionTemplates$Side", "rises", "[J", true)
  | 5 => ("SectionTemplates$Side", "runs", "[J", true)
  | 6 => ("SectionTemplates$Side", "last", "I", false)
  | 7 => ("SectionTemplates$Side", "ended", "Z", false)
  | 8 => ("SectionTemplates$Side", "endOut", "LSectionTemplates$Fraction;", true)
  | _ => ("SectionTemplates$Side", "endLevel", "LSectionTemplates$Fraction;", true)
def am_T8 : u_T := fun k => match k with
  | 0 => ("SectionTemplates$Fraction", "sign", "I", false)
  | 1 => ("SectionTemplates$Fraction", "up", "LSectionTemplates$Whole;", true)
  | _ => ("SectionTemplates$Fraction", "low", "LSectionTemplates$Whole;", true)
def am_T9 : u_T := fun k => match k with
  | 0 => ("SectionTemplates$Walker", "section", "LSectionTemplates$Section;", true)
  | 1 => ("SectionTemplates$Walker", "ground", "LSectionTemplates$Ground;", true)
  | 2 => ("SectionTemplates$Walker", "arithmetic", "LSectionTemplates$Arithmetic;", true)
  | 3 => ("SectionTemplates$Walker", "side", "LSectionTemplates$Side;", false)
  | 4 => ("SectionTemplates$Walker", "here", "LSectionTemplates$Fraction;", true)
  | 5 => ("SectionTemplates$Walker", "there", "LSectionTemplates$Fraction;", true)
  | _ => ("SectionTemplates$Walker", "spare", "LSectionTemplates$Fraction;", true)
def am_T10 : u_T := fun k => match k with
  | 0 => ("SectionTemplates$Areas", "section", "LSectionTemplates$Section;", true)
  | 1 => ("SectionTemplates$Areas", "ground", "LSectionTemplates$Ground;", true)
  | 2 => ("SectionTemplates$Areas", "arithmetic", "LSectionTemplates$Arithmetic;", true)
  | 3 => ("SectionTemplates$Areas", "cut", "LSectionTemplates$Fraction;", true)
  | 4 => ("SectionTemplates$Areas", "fill", "LSectionTemplates$Fraction;", true)
  | 5 => ("SectionTemplates$Areas", "settled", "Z", false)
  | 6 => ("SectionTemplates$Areas", "side", "LSectionTemplates$Side;", false)
  | 7 => ("SectionTemplates$Areas", "index", "I", false)
  | 8 => ("SectionTemplates$Areas", "place", "J", false)
  | 9 => ("SectionTemplates$Areas", "here", "LSectionTemplates$Fraction;", true)
  | 10 => ("SectionTemplates$Areas", "there", "LSectionTemplates$Fraction;", true)
  | 11 => ("SectionTemplates$Areas", "halfWidth", "LSectionTemplates$Fraction;", true)
  | 12 => ("SectionTemplates$Areas", "share", "LSectionTemplates$Fraction;", true)
  | _ => ("SectionTemplates$Areas", "spare", "LSectionTemplates$Fraction;", true)
def am_T11 : u_T := fun k => match k with
  | 0 => ("SectionTemplates$Earthwork", "last", "LSectionTemplates$Whole;", true)
  | 1 => ("SectionTemplates$Earthwork", "kept", "LSectionTemplates$Whole;", true)
  | 2 => ("SectionTemplates$Earthwork", "product", "LSectionTemplates$Whole;", true)
  | 3 => ("SectionTemplates$Earthwork", "halfDistance", "LSectionTemplates$Whole;", true)
  | _ => ("SectionTemplates$Earthwork", "volume", "LSectionTemplates$Fraction;", true)
def am_T12 : u_T := fun k => match k with
  | 0 => ("SectionTemplatesModel", "limbs", "[I", true)
  | 1 => ("SectionTemplatesModel", "sizes", "[I", true)
  | 2 => ("SectionTemplatesModel", "signs", "[I", true)
  | 3 => ("SectionTemplatesModel", "text", "[I", true)
  | 4 => ("SectionTemplatesModel", "count", "I", false)
  | 5 => ("SectionTemplatesModel", "place", "I", false)
  | 6 => ("SectionTemplatesModel", "wrong", "I", false)
  | 7 => ("SectionTemplatesModel", "ops", "[I", true)
  | 8 => ("SectionTemplatesModel", "ones", "[I", true)
  | 9 => ("SectionTemplatesModel", "twos", "[I", true)
  | 10 => ("SectionTemplatesModel", "goes", "[I", true)
  | 11 => ("SectionTemplatesModel", "begins", "[I", true)
  | 12 => ("SectionTemplatesModel", "templates", "I", false)
  | 13 => ("SectionTemplatesModel", "rows", "I", false)
  | 14 => ("SectionTemplatesModel", "number", "I", false)
  | 15 => ("SectionTemplatesModel", "opened", "[I", true)
  | 16 => ("SectionTemplatesModel", "openCount", "I", false)
  | 17 => ("SectionTemplatesModel", "groundOffs", "[I", true)
  | 18 => ("SectionTemplatesModel", "groundLevels", "[I", true)
  | 19 => ("SectionTemplatesModel", "points", "I", false)
  | 20 => ("SectionTemplatesModel", "axisLevel", "I", false)
  | 21 => ("SectionTemplatesModel", "bank", "I", false)
  | 22 => ("SectionTemplatesModel", "lands", "[I", true)
  | 23 => ("SectionTemplatesModel", "corners", "I", false)
  | 24 => ("SectionTemplatesModel", "codes", "[I", true)
  | 25 => ("SectionTemplatesModel", "axisAt", "I", false)
  | 26 => ("SectionTemplatesModel", "ends", "[Z", true)
  | 27 => ("SectionTemplatesModel", "asked", "I", false)
  | 28 => ("SectionTemplatesModel", "answers", "[I", true)
  | 29 => ("SectionTemplatesModel", "side", "I", false)
  | 30 => ("SectionTemplatesModel", "out", "J", false)
  | 31 => ("SectionTemplatesModel", "high", "J", false)
  | 32 => ("SectionTemplatesModel", "sideCorners", "I", false)
  | 33 => ("SectionTemplatesModel", "ended", "Z", false)
  | 34 => ("SectionTemplatesModel", "lineFrom", "I", false)
  | 35 => ("SectionTemplatesModel", "lineTo", "I", false)
  | 36 => ("SectionTemplatesModel", "wide", "J", false)
  | 37 => ("SectionTemplatesModel", "kept", "I", false)
  | _ => ("SectionTemplatesModel", "metres", "[I", true)
abbrev vwCl : List vw_C := [("SectionTemplates", am_T0, 18), ("SectionTemplates$Templates", am_T1, 8), ("SectionTemplates$Reader", am_T2, 7), ("SectionTemplates$Ground", am_T3, 3), ("SectionTemplates$Arithmetic", am_T4, 11), ("SectionTemplates$Whole", am_T5, 2), ("SectionTemplates$Section", am_T6, 5), ("SectionTemplates$Side", am_T7, 10), ("SectionTemplates$Fraction", am_T8, 3), ("SectionTemplates$Walker", am_T9, 7), ("SectionTemplates$Areas", am_T10, 14), ("SectionTemplates$Earthwork", am_T11, 5), ("SectionTemplatesModel", am_T12, 39)]
def am_ftyL : List (List FieldType) := [[(.object "SectionTemplates$Reader"), (.object "SectionTemplates$Templates"), (.object "SectionTemplates$Templates"), (.object "SectionTemplates$Ground"), (.object "SectionTemplates$Ground"), .int, .int, .int, .int, (.object "SectionTemplates$Arithmetic"), (.object "SectionTemplates$Section"), (.object "SectionTemplates$Walker"), (.object "SectionTemplates$Areas"), (.object "SectionTemplates$Earthwork"), (.object "SectionTemplates$Earthwork"), .int, .int, (.object "SectionTemplates$Fraction")],
  [.array .int, .array .int, .array .int, .array .int, .array .int, .int, .int, .int],
  [.array .int, .int, .int, .boolean, (.object "SectionTemplates$Templates"), .array .int, .int],
  [.array .int, .array .int, .int],
  [(.object "SectionTemplates$Whole"), (.object "SectionTemplates$Whole"), (.object "SectionTemplates$Whole"), (.object "SectionTemplates$Whole"), (.object "SectionTemplates$Whole"), (.object "SectionTemplates$Whole"), (.object "SectionTemplates$Whole"), (.object "SectionTemplates$Whole"), (.object "SectionTemplates$Whole"), (.object "SectionTemplates$Whole"), (.object "SectionTemplates$Whole")],
  [.array .long, .int],
  [(.object "SectionTemplates$Side"), (.object "SectionTemplates$Side"), .boolean, .array .int, .int],
  [.int, .array .int, .array .long, .array .long, .array .long, .array .long, .int, .boolean, (.object "SectionTemplates$Fraction"), (.object "SectionTemplates$Fraction")],
  [.int, (.object "SectionTemplates$Whole"), (.object "SectionTemplates$Whole")],
  [(.object "SectionTemplates$Section"), (.object "SectionTemplates$Ground"), (.object "SectionTemplates$Arithmetic"), (.object "SectionTemplates$Side"), (.object "SectionTemplates$Fraction"), (.object "SectionTemplates$Fraction"), (.object "SectionTemplates$Fraction")],
  [(.object "SectionTemplates$Section"), (.object "SectionTemplates$Ground"), (.object "SectionTemplates$Arithmetic"), (.object "SectionTemplates$Fraction"), (.object "SectionTemplates$Fraction"), .boolean, (.object "SectionTemplates$Side"), .int, .long, (.object "SectionTemplates$Fraction"), (.object "SectionTemplates$Fraction"), (.object "SectionTemplates$Fraction"), (.object "SectionTemplates$Fraction"), (.object "SectionTemplates$Fraction")],
  [(.object "SectionTemplates$Whole"), (.object "SectionTemplates$Whole"), (.object "SectionTemplates$Whole"), (.object "SectionTemplates$Whole"), (.object "SectionTemplates$Fraction")],
  [.array .int, .array .int, .array .int, .array .int, .int, .int, .int, .array .int, .array .int, .array .int, .array .int, .array .int, .int, .int, .int, .array .int, .int, .array .int, .array .int, .int, .int, .int, .array .int, .int, .array .int, .int, .array .boolean, .int, .array .int, .int, .long, .long, .int, .boolean, .int, .int, .long, .int, .array .int]]
def am_finL : List (List Bool) := [[true, false, false, true, true, false, false, false, false, true, true, true, true, true, true, false, false, true], [true, true, true, true, true, false, false, false], [true, false, false, false, false, true, false], [true, true, false], [true, true, true, true, true, true, true, true, true, true, true], [true, false], [true, true, false, true, false], [true, true, true, true, true, true, false, false, true, true], [false, true, true], [true, true, true, false, true, true, true], [true, true, true, true, true, false, false, false, false, true, true, true, true, true], [true, true, true, true, true], [true, true, true, true, false, false, false, true, true, true, true, true, false, false, false, true, false, true, true, false, false, false, true, false, true, false, true, false, true, false, false, false, false, false, false, false, false, false, true]]
def am_dflL : List (List Value) := [[.null, .null, .null, .null, .null, .int 0, .int 0, .int 0, .int 0, .null, .null, .null, .null, .null, .null, .int 0, .int 0, .null],
  [.null, .null, .null, .null, .null, .int 0, .int 0, .int 0],
  [.null, .int 0, .int 0, .int 0, .null, .null, .int 0],
  [.null, .null, .int 0],
  [.null, .null, .null, .null, .null, .null, .null, .null, .null, .null, .null],
  [.null, .int 0],
  [.null, .null, .int 0, .null, .int 0],
  [.int 0, .null, .null, .null, .null, .null, .int 0, .int 0, .null, .null],
  [.int 0, .null, .null],
  [.null, .null, .null, .null, .null, .null, .null],
  [.null, .null, .null, .null, .null, .int 0, .null, .int 0, .long 0, .null, .null, .null, .null, .null],
  [.null, .null, .null, .null, .null],
  [.null, .null, .null, .null, .int 0, .int 0, .int 0, .null, .null, .null, .null, .null, .int 0, .int 0, .int 0, .null, .int 0, .null, .null, .int 0, .int 0, .int 0, .null, .int 0, .null, .int 0, .null, .int 0, .null, .int 0, .long 0, .long 0, .int 0, .int 0, .int 0, .int 0, .long 0, .int 0, .null]]
def am_fty (ci f : Nat) : FieldType := ((am_ftyL[ci]?.getD [])[f]?).getD .int
def am_fin (ci f : Nat) : Bool := ((am_finL[ci]?.getD [])[f]?).getD true
def am_dfl (ci : Nat) : List Value := (am_dflL[ci]?).getD []
def am_cnL : List String := ["SectionTemplates", "SectionTemplates$Templates", "SectionTemplates$Reader", "SectionTemplates$Ground", "SectionTemplates$Arithmetic", "SectionTemplates$Whole", "java/lang/Math", "SectionTemplates$Section", "SectionTemplates$Side", "SectionTemplates$Fraction", "SectionTemplates$Walker", "SectionTemplates$Areas", "SectionTemplates$Earthwork", "java/lang/Long", "SectionTemplatesModel", "SectionTemplatesLaw"]
def am_cn (o : Nat) : String := (am_cnL[o]?).getD ""
/-- a method: name, locals, answer, owner, is it a constructor, its class, frames and locals that its calls need -/
def am_mL : List (MethodName × Nat × Option FieldType × Nat × Bool × Nat × Nat × Nat) := [
  (⟨"SectionTemplates", "<init>", "()V"⟩, 1, none, 0, true, 0, 5, 104),
  (⟨"SectionTemplates$Templates", "<init>", "()V"⟩, 1, none, 1, true, 1, 1, 20),
  (⟨"SectionTemplates$Reader", "<init>", "(LSectionTemplates$Templates;)V"⟩, 2, none, 2, true, 2, 1, 20),
  (⟨"SectionTemplates$Ground", "<init>", "()V"⟩, 1, none, 3, true, 3, 1, 20),
  (⟨"SectionTemplates$Arithmetic", "<init>", "()V"⟩, 1, none, 4, true, 4, 2, 42),
  (⟨"SectionTemplates$Whole", "<init>", "(I)V"⟩, 2, none, 5, true, 5, 1, 21),
  (⟨"java/lang/Math", "max", "(II)I"⟩, 2, (some FieldType.int), 6, false, 99, 0, 0),
  (⟨"SectionTemplates$Section", "<init>", "()V"⟩, 1, none, 7, true, 6, 4, 84),
  (⟨"SectionTemplates$Side", "<init>", "(I)V"⟩, 2, none, 8, true, 7, 3, 63),
  (⟨"SectionTemplates$Fraction", "<init>", "(I)V"⟩, 2, none, 9, true, 8, 2, 42),
  (⟨"SectionTemplates$Whole", "put", "(J)V"⟩, 7, none, 5, false, 5, 0, 0),
  (⟨"SectionTemplates$Walker", "<init>", "(LSectionTemplates$Section;LSectionTemplates$Ground;LSectionTemplates$Arithmetic;)V"⟩, 4, none, 10, true, 9, 3, 63),
  (⟨"SectionTemplates$Areas", "<init>", "(LSectionTemplates$Section;LSectionTemplates$Ground;LSectionTemplates$Arithmetic;)V"⟩, 4, none, 11, true, 10, 3, 63),
  (⟨"SectionTemplates$Earthwork", "<init>", "()V"⟩, 1, none, 12, true, 11, 3, 63),
  (⟨"SectionTemplates", "unit", "(I)Z"⟩, 2, (some FieldType.boolean), 0, false, 0, 1, 21),
  (⟨"SectionTemplates$Reader", "collect", "(I)Z"⟩, 2, (some FieldType.boolean), 2, false, 2, 0, 0),
  (⟨"SectionTemplates", "read", "()I"⟩, 4, (some FieldType.int), 0, false, 0, 6, 138),
  (⟨"SectionTemplates$Reader", "parse", "(LSectionTemplates$Templates;)Z"⟩, 3, (some FieldType.boolean), 2, false, 2, 5, 116),
  (⟨"SectionTemplates$Templates", "empty", "()V"⟩, 1, none, 1, false, 1, 0, 0),
  (⟨"SectionTemplates$Reader", "skipBlanks", "()V"⟩, 1, none, 2, false, 2, 0, 0),
  (⟨"SectionTemplates$Reader", "template", "()V"⟩, 4, none, 2, false, 2, 4, 93),
  (⟨"SectionTemplates$Templates", "isFull", "()Z"⟩, 1, (some FieldType.boolean), 1, false, 1, 0, 0),
  (⟨"SectionTemplates$Reader", "expect", "(I)V"⟩, 2, none, 2, false, 2, 1, 20),
  (⟨"SectionTemplates$Reader", "sign", "()I"⟩, 1, (some FieldType.int), 2, false, 2, 0, 0),
  (⟨"SectionTemplates$Templates", "begin", "()V"⟩, 1, none, 1, false, 1, 0, 0),
  (⟨"SectionTemplates$Reader", "closeSteps", "()V"⟩, 2, none, 2, false, 2, 3, 63),
  (⟨"SectionTemplates$Templates", "kindOf", "(I)I"⟩, 2, (some FieldType.int), 1, false, 1, 2, 42),
  (⟨"SectionTemplates$Templates", "inside", "(I)I"⟩, 2, (some FieldType.int), 1, false, 1, 1, 21),
  (⟨"java/lang/Math", "min", "(II)I"⟩, 2, (some FieldType.int), 6, false, 99, 0, 0),
  (⟨"SectionTemplates$Templates", "aimHere", "(I)V"⟩, 2, none, 1, false, 1, 0, 0),
  (⟨"SectionTemplates$Reader", "openSteps", "()V"⟩, 1, none, 2, false, 2, 1, 20),
  (⟨"SectionTemplates$Templates", "markOthers", "(I)V"⟩, 2, none, 1, false, 1, 2, 42),
  (⟨"SectionTemplates$Templates", "addOrder", "(III)I"⟩, 5, (some FieldType.int), 1, false, 1, 0, 0),
  (⟨"SectionTemplates$Reader", "waitFor", "(I)V"⟩, 2, none, 2, false, 2, 0, 0),
  (⟨"SectionTemplates$Templates", "finish", "()V"⟩, 1, none, 1, false, 1, 0, 0),
  (⟨"SectionTemplates$Reader", "step", "(I)V"⟩, 5, none, 2, false, 2, 3, 69),
  (⟨"SectionTemplates$Reader", "kindBy", "(I)I"⟩, 1, (some FieldType.int), 2, false, 2, 0, 0),
  (⟨"SectionTemplates$Templates", "hasAllSteps", "()Z"⟩, 1, (some FieldType.boolean), 1, false, 1, 0, 0),
  (⟨"SectionTemplates$Reader", "choice", "()V"⟩, 3, none, 2, false, 2, 2, 47),
  (⟨"SectionTemplates$Reader", "conditionBy", "(I)I"⟩, 1, (some FieldType.int), 2, false, 2, 0, 0),
  (⟨"SectionTemplates$Reader", "number", "(I)I"⟩, 7, (some FieldType.int), 2, false, 2, 1, 21),
  (⟨"SectionTemplates$Reader", "isDigit", "(I)Z"⟩, 1, (some FieldType.boolean), 2, false, 2, 0, 0),
  (⟨"SectionTemplates$Templates", "addStep", "(III)I"⟩, 4, (some FieldType.int), 1, false, 1, 1, 24),
  (⟨"SectionTemplates$Reader", "signedNumber", "()I"⟩, 1, (some FieldType.int), 2, false, 2, 2, 47),
  (⟨"SectionTemplates$Reader", "forget", "()V"⟩, 1, none, 2, false, 2, 0, 0),
  (⟨"SectionTemplates$Section", "forget", "()V"⟩, 1, none, 7, false, 6, 0, 0),
  (⟨"SectionTemplates", "ground", "(II)Z"⟩, 3, (some FieldType.boolean), 0, false, 0, 2, 44),
  (⟨"SectionTemplates$Ground", "add", "(II)Z"⟩, 3, (some FieldType.boolean), 3, false, 3, 1, 22),
  (⟨"SectionTemplates", "within", "(III)Z"⟩, 3, (some FieldType.boolean), 0, false, 0, 0, 0),
  (⟨"SectionTemplates", "clear", "()V"⟩, 1, none, 0, false, 0, 1, 20),
  (⟨"SectionTemplates$Ground", "empty", "()V"⟩, 1, none, 3, false, 3, 0, 0),
  (⟨"SectionTemplates", "axis", "(II)Z"⟩, 3, (some FieldType.boolean), 0, false, 0, 1, 22),
  (⟨"SectionTemplates", "land", "(II)Z"⟩, 3, (some FieldType.boolean), 0, false, 0, 1, 22),
  (⟨"SectionTemplates", "isSide", "(I)Z"⟩, 1, (some FieldType.boolean), 0, false, 0, 0, 0),
  (⟨"SectionTemplates", "run", "(I)I"⟩, 2, (some FieldType.int), 0, false, 0, 7, 208),
  (⟨"SectionTemplates$Ground", "copy", "(LSectionTemplates$Ground;)V"⟩, 3, none, 3, false, 3, 0, 0),
  (⟨"SectionTemplates$Section", "begin", "(J)V"⟩, 3, none, 7, false, 6, 1, 22),
  (⟨"SectionTemplates$Side", "begin", "(J)V"⟩, 3, none, 8, false, 7, 0, 0),
  (⟨"SectionTemplates$Areas", "forget", "()V"⟩, 1, none, 11, false, 10, 0, 0),
  (⟨"SectionTemplates$Walker", "walk", "(LSectionTemplates$Side;LSectionTemplates$Templates;II)V"⟩, 12, none, 10, false, 9, 6, 177),
  (⟨"SectionTemplates$Templates", "startOf", "(I)I"⟩, 2, (some FieldType.int), 1, false, 1, 0, 0),
  (⟨"SectionTemplates$Templates", "endOf", "(I)I"⟩, 2, (some FieldType.int), 1, false, 1, 0, 0),
  (⟨"SectionTemplates$Templates", "firstOf", "(I)I"⟩, 2, (some FieldType.int), 1, false, 1, 2, 42),
  (⟨"SectionTemplates$Templates", "secondOf", "(I)I"⟩, 2, (some FieldType.int), 1, false, 1, 2, 42),
  (⟨"SectionTemplates$Templates", "targetOf", "(I)I"⟩, 2, (some FieldType.int), 1, false, 1, 2, 42),
  (⟨"SectionTemplates$Walker", "holds", "(IJ)Z"⟩, 6, (some FieldType.boolean), 10, false, 9, 4, 85),
  (⟨"SectionTemplates$Walker", "gapUp", "()J"⟩, 3, (some FieldType.long), 10, false, 9, 3, 63),
  (⟨"SectionTemplates$Side", "out", "(I)J"⟩, 2, (some FieldType.long), 8, false, 7, 2, 42),
  (⟨"SectionTemplates$Side", "inside", "(I)I"⟩, 2, (some FieldType.int), 8, false, 7, 1, 21),
  (⟨"SectionTemplates$Ground", "upper", "(J)J"⟩, 6, (some FieldType.long), 3, false, 3, 1, 24),
  (⟨"SectionTemplates$Ground", "pointsUpTo", "(J)I"⟩, 5, (some FieldType.int), 3, false, 3, 0, 0),
  (⟨"SectionTemplates$Side", "height", "(I)J"⟩, 2, (some FieldType.long), 8, false, 7, 2, 42),
  (⟨"SectionTemplates$Ground", "lower", "(J)J"⟩, 4, (some FieldType.long), 3, false, 3, 1, 24),
  (⟨"java/lang/Math", "abs", "(J)J"⟩, 2, (some FieldType.long), 6, false, 99, 0, 0),
  (⟨"SectionTemplates$Walker", "gapLow", "()J"⟩, 1, (some FieldType.long), 10, false, 9, 3, 63),
  (⟨"SectionTemplates$Walker", "choose", "(ZZ)Z"⟩, 3, (some FieldType.boolean), 10, false, 9, 1, 21),
  (⟨"SectionTemplates$Section", "addChoice", "(I)V"⟩, 2, none, 7, false, 6, 0, 0),
  (⟨"SectionTemplates$Walker", "slope", "(JJ)V"⟩, 8, none, 10, false, 9, 5, 150),
  (⟨"java/lang/Long", "compare", "(JJ)I"⟩, 4, (some FieldType.int), 13, false, 99, 0, 0),
  (⟨"SectionTemplates$Arithmetic", "ratio", "(LSectionTemplates$Fraction;JJ)V"⟩, 10, none, 4, false, 4, 1, 30),
  (⟨"SectionTemplates$Arithmetic", "commonOf", "(JJ)J"⟩, 11, (some FieldType.long), 4, false, 4, 0, 0),
  (⟨"SectionTemplates$Walker", "meet", "(IJJ)V"⟩, 18, none, 10, false, 9, 4, 113),
  (⟨"SectionTemplates$Ground", "nextPoint", "(IJ)I"⟩, 7, (some FieldType.int), 3, false, 3, 0, 0),
  (⟨"SectionTemplates$Ground", "outOf", "(II)J"⟩, 3, (some FieldType.long), 3, false, 3, 0, 0),
  (⟨"SectionTemplates$Ground", "levelOf", "(I)J"⟩, 2, (some FieldType.long), 3, false, 3, 0, 0),
  (⟨"SectionTemplates$Arithmetic", "add", "(LSectionTemplates$Fraction;LSectionTemplates$Fraction;LSectionTemplates$Fraction;I)V"⟩, 8, none, 4, false, 4, 3, 86),
  (⟨"SectionTemplates$Arithmetic", "findCommon", "(LSectionTemplates$Whole;LSectionTemplates$Whole;LSectionTemplates$Whole;)V"⟩, 5, none, 4, false, 4, 2, 62),
  (⟨"SectionTemplates$Whole", "copy", "(LSectionTemplates$Whole;)V"⟩, 4, none, 5, false, 5, 0, 0),
  (⟨"SectionTemplates$Whole", "eighteen", "(I)J"⟩, 3, (some FieldType.long), 5, false, 5, 0, 0),
  (⟨"SectionTemplates$Arithmetic", "divide", "(LSectionTemplates$Whole;LSectionTemplates$Whole;LSectionTemplates$Whole;)V"⟩, 13, none, 4, false, 4, 1, 30),
  (⟨"SectionTemplates$Whole", "factor", "()J"⟩, 1, (some FieldType.long), 5, false, 5, 0, 0),
  (⟨"SectionTemplates$Whole", "scale", "(LSectionTemplates$Whole;J)V"⟩, 11, none, 5, false, 5, 0, 0),
  (⟨"SectionTemplates$Whole", "beginDigits", "(I)V"⟩, 2, none, 5, false, 5, 0, 0),
  (⟨"SectionTemplates$Whole", "timesAt", "(LSectionTemplates$Whole;I)J"⟩, 10, (some FieldType.long), 5, false, 5, 0, 0),
  (⟨"SectionTemplates$Whole", "takeAway", "(LSectionTemplates$Whole;JI)V"⟩, 10, none, 5, false, 5, 0, 0),
  (⟨"SectionTemplates$Whole", "setDigit", "(IJ)V"⟩, 4, none, 5, false, 5, 0, 0),
  (⟨"SectionTemplates$Whole", "unscale", "(J)V"⟩, 9, none, 5, false, 5, 0, 0),
  (⟨"SectionTemplates$Whole", "product", "(LSectionTemplates$Whole;LSectionTemplates$Whole;)V"⟩, 11, none, 5, false, 5, 0, 0),
  (⟨"SectionTemplates$Whole", "compare", "(LSectionTemplates$Whole;)I"⟩, 3, (some FieldType.int), 5, false, 5, 0, 0),
  (⟨"SectionTemplates$Whole", "sum", "(LSectionTemplates$Whole;LSectionTemplates$Whole;)V"⟩, 11, none, 5, false, 5, 0, 0),
  (⟨"SectionTemplates$Whole", "difference", "(LSectionTemplates$Whole;LSectionTemplates$Whole;)V"⟩, 10, none, 5, false, 5, 0, 0),
  (⟨"SectionTemplates$Arithmetic", "product", "(LSectionTemplates$Fraction;LSectionTemplates$Fraction;LSectionTemplates$Fraction;Z)V"⟩, 5, none, 4, false, 4, 3, 86),
  (⟨"SectionTemplates$Side", "add", "(IJJJJ)V"⟩, 10, none, 8, false, 7, 0, 0),
  (⟨"SectionTemplates$Walker", "wall", "()V"⟩, 3, none, 10, false, 9, 3, 63),
  (⟨"SectionTemplates$Walker", "stride", "(IJJ)V"⟩, 6, none, 10, false, 9, 1, 29),
  (⟨"SectionTemplates$Section", "corners", "()I"⟩, 1, (some FieldType.int), 7, false, 6, 0, 0),
  (⟨"SectionTemplates", "corner", "(III)J"⟩, 8, (some FieldType.long), 0, false, 0, 3, 63),
  (⟨"SectionTemplates", "missing", "(I)J"⟩, 1, (some FieldType.long), 0, false, 0, 0, 0),
  (⟨"SectionTemplates$Section", "sideOf", "(I)LSectionTemplates$Side;"⟩, 2, (some (FieldType.object "SectionTemplates$Side")), 7, false, 6, 0, 0),
  (⟨"SectionTemplates$Section", "indexOf", "(I)I"⟩, 2, (some FieldType.int), 7, false, 6, 0, 0),
  (⟨"SectionTemplates$Side", "isEnd", "(I)Z"⟩, 2, (some FieldType.boolean), 8, false, 7, 0, 0),
  (⟨"SectionTemplates", "tell", "(LSectionTemplates$Fraction;II)J"⟩, 3, (some FieldType.long), 0, false, 0, 1, 22),
  (⟨"SectionTemplates", "code", "(I)I"⟩, 2, (some FieldType.int), 0, false, 0, 3, 63),
  (⟨"SectionTemplates$Side", "codeAt", "(I)I"⟩, 2, (some FieldType.int), 8, false, 7, 2, 42),
  (⟨"SectionTemplates", "ended", "(I)Z"⟩, 2, (some FieldType.boolean), 0, false, 0, 1, 21),
  (⟨"SectionTemplates$Section", "sideBy", "(I)LSectionTemplates$Side;"⟩, 2, (some (FieldType.object "SectionTemplates$Side")), 7, false, 6, 0, 0),
  (⟨"SectionTemplates", "passed", "(I)Z"⟩, 3, (some FieldType.boolean), 0, false, 0, 4, 87),
  (⟨"SectionTemplates$Side", "against", "(IJLSectionTemplates$Arithmetic;)I"⟩, 5, (some FieldType.int), 8, false, 7, 3, 63),
  (⟨"SectionTemplates$Arithmetic", "compare", "(LSectionTemplates$Fraction;J)I"⟩, 4, (some FieldType.int), 4, false, 4, 1, 30),
  (⟨"SectionTemplates", "condition", "(I)I"⟩, 2, (some FieldType.int), 0, false, 0, 1, 21),
  (⟨"SectionTemplates$Section", "choiceAt", "(I)I"⟩, 2, (some FieldType.int), 7, false, 6, 0, 0),
  (⟨"SectionTemplates", "area", "(ZI)J"⟩, 3, (some FieldType.long), 0, false, 0, 7, 183),
  (⟨"SectionTemplates$Areas", "settle", "()V"⟩, 2, none, 11, false, 10, 6, 162),
  (⟨"SectionTemplates$Areas", "startAt", "(LSectionTemplates$Side;)V"⟩, 2, none, 11, false, 10, 0, 0),
  (⟨"SectionTemplates$Areas", "findPiece", "()Z"⟩, 2, (some FieldType.boolean), 11, false, 10, 4, 87),
  (⟨"SectionTemplates$Areas", "measurePiece", "()V"⟩, 5, none, 11, false, 10, 5, 138),
  (⟨"SectionTemplates$Areas", "gapAt", "(LSectionTemplates$Fraction;J)V"⟩, 6, none, 11, false, 10, 4, 113),
  (⟨"SectionTemplates$Side", "levelUp", "(IJ)J"⟩, 5, (some FieldType.long), 8, false, 7, 3, 63),
  (⟨"SectionTemplates$Side", "runOf", "(I)J"⟩, 2, (some FieldType.long), 8, false, 7, 2, 42),
  (⟨"SectionTemplates$Side", "rise", "(I)J"⟩, 2, (some FieldType.long), 8, false, 7, 2, 42),
  (⟨"SectionTemplates$Side", "levelLow", "(I)J"⟩, 2, (some FieldType.long), 8, false, 7, 3, 63),
  (⟨"SectionTemplates$Areas", "addTriangle", "(LSectionTemplates$Fraction;LSectionTemplates$Fraction;)V"⟩, 3, none, 11, false, 10, 5, 134),
  (⟨"SectionTemplates$Areas", "addShare", "()V"⟩, 2, none, 11, false, 10, 4, 113),
  (⟨"SectionTemplates$Areas", "addTrapezium", "()V"⟩, 1, none, 11, false, 10, 5, 134),
  (⟨"SectionTemplates", "level", "(II)J"⟩, 7, (some FieldType.long), 0, false, 0, 4, 87),
  (⟨"SectionTemplates", "keep", "(I)I"⟩, 5, (some FieldType.int), 0, false, 0, 7, 183),
  (⟨"SectionTemplates$Earthwork", "add", "(LSectionTemplates$Fraction;JLSectionTemplates$Arithmetic;)V"⟩, 5, none, 12, false, 11, 2, 62),
  (⟨"SectionTemplates", "volume", "(ZI)J"⟩, 3, (some FieldType.long), 0, false, 0, 2, 44),
  (⟨"SectionTemplates", "count", "(I)I"⟩, 2, (some FieldType.int), 0, false, 0, 1, 20),
  (⟨"SectionTemplatesModel", "<init>", "()V"⟩, 2, none, 14, true, 12, 5, 122),
  (⟨"SectionTemplatesModel", "set", "(IJJ)V"⟩, 6, none, 14, false, 12, 4, 97),
  (⟨"SectionTemplatesModel", "size", "(J)J"⟩, 2, (some FieldType.long), 14, false, 12, 0, 0),
  (⟨"SectionTemplatesModel", "setNumber", "(IJ)V"⟩, 6, none, 14, false, 12, 0, 0),
  (⟨"SectionTemplatesModel", "reduce", "(I)V"⟩, 2, none, 14, false, 12, 3, 76),
  (⟨"SectionTemplatesModel", "common", "(II)V"⟩, 5, none, 14, false, 12, 2, 50),
  (⟨"SectionTemplatesModel", "copyNumber", "(II)V"⟩, 4, none, 14, false, 12, 0, 0),
  (⟨"SectionTemplatesModel", "isOdd", "(I)Z"⟩, 2, (some FieldType.boolean), 14, false, 12, 0, 0),
  (⟨"SectionTemplatesModel", "halve", "(I)V"⟩, 7, none, 14, false, 12, 1, 21),
  (⟨"SectionTemplatesModel", "trim", "(I)V"⟩, 2, none, 14, false, 12, 0, 0),
  (⟨"SectionTemplatesModel", "compareNumbers", "(II)I"⟩, 4, (some FieldType.int), 14, false, 12, 0, 0),
  (⟨"SectionTemplatesModel", "takeNumbers", "(III)V"⟩, 10, none, 14, false, 12, 1, 21),
  (⟨"SectionTemplatesModel", "addNumbers", "(III)V"⟩, 10, none, 14, false, 12, 0, 0),
  (⟨"SectionTemplatesModel", "divideNumbers", "(IIII)V"⟩, 7, none, 14, false, 12, 2, 50),
  (⟨"SectionTemplatesModel", "unit", "(I)Z"⟩, 2, (some FieldType.boolean), 14, false, 12, 0, 0),
  (⟨"SectionTemplatesModel", "read", "()I"⟩, 4, (some FieldType.int), 14, false, 12, 5, 108),
  (⟨"SectionTemplatesModel", "next", "()I"⟩, 1, (some FieldType.int), 14, false, 12, 0, 0),
  (⟨"SectionTemplatesModel", "eat", "(I)Z"⟩, 3, (some FieldType.boolean), 14, false, 12, 1, 20),
  (⟨"SectionTemplatesModel", "readTemplate", "()Z"⟩, 5, (some FieldType.boolean), 14, false, 12, 4, 84),
  (⟨"SectionTemplatesModel", "readAsk", "()Z"⟩, 3, (some FieldType.boolean), 14, false, 12, 3, 62),
  (⟨"SectionTemplatesModel", "readNumber", "(ZZ)Z"⟩, 9, (some FieldType.boolean), 14, false, 12, 1, 20),
  (⟨"SectionTemplatesModel", "open", "()Z"⟩, 1, (some FieldType.boolean), 14, false, 12, 2, 42),
  (⟨"SectionTemplatesModel", "row", "(III)V"⟩, 5, none, 14, false, 12, 0, 0),
  (⟨"SectionTemplatesModel", "readStep", "(I)Z"⟩, 3, (some FieldType.boolean), 14, false, 12, 2, 48),
  (⟨"SectionTemplatesModel", "close", "()Z"⟩, 2, (some FieldType.boolean), 14, false, 12, 3, 62),
  (⟨"SectionTemplatesModel", "ground", "(II)Z"⟩, 3, (some FieldType.boolean), 14, false, 12, 1, 22),
  (⟨"SectionTemplatesModel", "isIn", "(III)Z"⟩, 3, (some FieldType.boolean), 14, false, 12, 0, 0),
  (⟨"SectionTemplatesModel", "clear", "()V"⟩, 1, none, 14, false, 12, 0, 0),
  (⟨"SectionTemplatesModel", "axis", "(II)Z"⟩, 3, (some FieldType.boolean), 14, false, 12, 1, 22),
  (⟨"SectionTemplatesModel", "land", "(II)Z"⟩, 3, (some FieldType.boolean), 14, false, 12, 0, 0),
  (⟨"SectionTemplatesModel", "run", "(I)I"⟩, 2, (some FieldType.int), 14, false, 12, 10, 236),
  (⟨"SectionTemplatesModel", "walk", "(II)V"⟩, 6, none, 14, false, 12, 7, 184),
  (⟨"SectionTemplatesModel", "corner", "(I)V"⟩, 3, none, 14, false, 12, 5, 122),
  (⟨"SectionTemplatesModel", "slope", "(II)V"⟩, 19, none, 14, false, 12, 6, 146),
  (⟨"SectionTemplatesModel", "above", "()J"⟩, 7, (some FieldType.long), 14, false, 12, 1, 23),
  (⟨"SectionTemplatesModel", "line", "(J)V"⟩, 4, none, 14, false, 12, 0, 0),
  (⟨"SectionTemplatesModel", "isBeyond", "(IIII)Z"⟩, 11, (some FieldType.boolean), 14, false, 12, 0, 0),
  (⟨"SectionTemplatesModel", "times", "(III)V"⟩, 4, none, 14, false, 12, 4, 97),
  (⟨"SectionTemplatesModel", "multiplyNumbers", "(III)V"⟩, 13, none, 14, false, 12, 1, 21),
  (⟨"SectionTemplatesModel", "add", "(III)V"⟩, 4, none, 14, false, 12, 5, 123),
  (⟨"SectionTemplatesModel", "plus", "(IIII)V"⟩, 7, none, 14, false, 12, 4, 97),
  (⟨"SectionTemplatesModel", "wall", "()V"⟩, 4, none, 14, false, 12, 6, 146),
  (⟨"SectionTemplatesModel", "take", "(III)V"⟩, 4, none, 14, false, 12, 5, 123),
  (⟨"SectionTemplatesModel", "holds", "(II)Z"⟩, 5, (some FieldType.boolean), 14, false, 12, 2, 49),
  (⟨"SectionTemplatesModel", "turn", "()V"⟩, 4, none, 14, false, 12, 2, 45),
  (⟨"SectionTemplatesModel", "copy", "(II)V"⟩, 3, none, 14, false, 12, 1, 23),
  (⟨"SectionTemplatesModel", "areas", "()V"⟩, 3, none, 14, false, 12, 9, 214),
  (⟨"SectionTemplatesModel", "compare", "(II)I"⟩, 4, (some FieldType.int), 14, false, 12, 2, 53),
  (⟨"SectionTemplatesModel", "piece", "(I)V"⟩, 2, none, 14, false, 12, 8, 193),
  (⟨"SectionTemplatesModel", "between", "(III)V"⟩, 4, none, 14, false, 12, 7, 170),
  (⟨"SectionTemplatesModel", "groundAt", "(II)V"⟩, 5, none, 14, false, 12, 6, 146),
  (⟨"SectionTemplatesModel", "sectionAt", "(III)V"⟩, 4, none, 14, false, 12, 6, 146),
  (⟨"SectionTemplatesModel", "over", "(III)V"⟩, 4, none, 14, false, 12, 4, 97),
  (⟨"SectionTemplatesModel", "addHalf", "(III)V"⟩, 4, none, 14, false, 12, 6, 146),
  (⟨"SectionTemplatesModel", "corner", "(III)J"⟩, 4, (some FieldType.long), 14, false, 12, 2, 48),
  (⟨"SectionTemplatesModel", "isCorner", "(I)Z"⟩, 2, (some FieldType.boolean), 14, false, 12, 0, 0),
  (⟨"SectionTemplatesModel", "bad", "(I)J"⟩, 1, (some FieldType.long), 14, false, 12, 0, 0),
  (⟨"SectionTemplatesModel", "tell", "(II)J"⟩, 3, (some FieldType.long), 14, false, 12, 1, 26),
  (⟨"SectionTemplatesModel", "digits", "(II)J"⟩, 7, (some FieldType.long), 14, false, 12, 0, 0),
  (⟨"SectionTemplatesModel", "code", "(I)I"⟩, 2, (some FieldType.int), 14, false, 12, 1, 21),
  (⟨"SectionTemplatesModel", "ended", "(I)Z"⟩, 2, (some FieldType.boolean), 14, false, 12, 0, 0),
  (⟨"SectionTemplatesModel", "passed", "(I)Z"⟩, 4, (some FieldType.boolean), 14, false, 12, 5, 122),
  (⟨"SectionTemplatesModel", "condition", "(I)I"⟩, 2, (some FieldType.int), 14, false, 12, 0, 0),
  (⟨"SectionTemplatesModel", "area", "(ZI)J"⟩, 3, (some FieldType.long), 14, false, 12, 2, 48),
  (⟨"SectionTemplatesModel", "level", "(II)J"⟩, 6, (some FieldType.long), 14, false, 12, 7, 169),
  (⟨"SectionTemplatesModel", "keep", "(I)I"⟩, 2, (some FieldType.int), 14, false, 12, 4, 98),
  (⟨"SectionTemplatesModel", "whole", "(II)V"⟩, 3, none, 14, false, 12, 3, 76),
  (⟨"SectionTemplatesModel", "volume", "(ZI)J"⟩, 5, (some FieldType.long), 14, false, 12, 6, 146),
  (⟨"SectionTemplatesModel", "count", "(I)I"⟩, 2, (some FieldType.int), 14, false, 12, 0, 0),
  (⟨"SectionTemplatesLaw", "law", "([I)Z"⟩, 4, (some FieldType.boolean), 15, false, 99, 11, 257)]
def am_m (k : Nat) : MethodName × Nat × Option FieldType × Nat × Bool × Nat × Nat × Nat := (am_mL[k]?).getD (⟨"", "", ""⟩, 0, none, 99, false, 99, 0, 0)
def am_name (k : Nat) : MethodName := (am_m k).1
def am_mxl (k : Nat) : Nat := (am_m k).2.1
def am_ret (k : Nat) : Option FieldType := (am_m k).2.2.1
def am_own (k : Nat) : Nat := (am_m k).2.2.2.1
def am_isi (k : Nat) : Bool := (am_m k).2.2.2.2.1
def am_rcv (k : Nat) : Nat := (am_m k).2.2.2.2.2.1
def am_fr (k : Nat) : Nat := (am_m k).2.2.2.2.2.2.1
def am_lc (k : Nat) : Nat := (am_m k).2.2.2.2.2.2.2
def am_ctor (k ci : Nat) : Bool := am_isi k && (am_rcv k == ci)
def am_fnd {α : Type} : List ((Nat × Nat) × α) → Nat → Nat → Option α
  | [], _, _ => none
  | q :: r, o, j => match Nat.beq q.1.1 o && Nat.beq q.1.2 j with
    | true => some q.2
    | false => am_fnd r o j
def am_fldL : List ((Nat × Nat) × (Nat × Nat × Nat)) := [((0, 12), (0, 1, 468)), ((0, 16), (0, 2, 469)), ((0, 24), (0, 0, 467)), ((0, 31), (0, 3, 470)), ((0, 35), (0, 4, 471)), ((0, 39), (0, 7, 474)), ((0, 43), (0, 8, 475)), ((0, 49), (0, 9, 476)), ((0, 56), (0, 10, 477)), ((0, 65), (0, 11, 478)), ((0, 72), (0, 12, 479)), ((0, 79), (0, 13, 480)), ((0, 83), (0, 14, 481)), ((0, 91), (0, 17, 484)), ((0, 103), (2, 2, 145)), ((0, 110), (1, 7, 116)), ((0, 126), (0, 5, 472)), ((0, 129), (0, 6, 473)), ((0, 146), (6, 0, 335)), ((0, 154), (6, 1, 338)), ((0, 173), (7, 0, 290)), ((0, 181), (7, 8, 307)), ((0, 184), (7, 9, 310)), ((0, 204), (6, 2, 340)), ((0, 211), (7, 7, 303)), ((0, 214), (7, 6, 300)), ((0, 227), (10, 3, 397)), ((0, 230), (10, 4, 399)), ((0, 246), (0, 15, 482)), ((0, 249), (0, 16, 483)), ((0, 255), (11, 4, 453)), ((0, 258), (3, 2, 175)), ((0, 259), (2, 1, 144)), ((0, 260), (6, 4, 343)), ((0, 267), (8, 0, 271)), ((0, 268), (8, 1, 275)), ((0, 272), (8, 2, 279)), ((11, 14), (10, 3, 396)), ((11, 20), (10, 4, 398)), ((11, 23), (10, 9, 404)), ((11, 26), (10, 10, 405)), ((11, 29), (10, 11, 406)), ((11, 32), (10, 12, 407)), ((11, 35), (10, 13, 408)), ((11, 38), (10, 0, 393)), ((11, 42), (10, 1, 394)), ((11, 46), (10, 2, 395)), ((11, 50), (6, 0, 334)), ((11, 56), (10, 6, 401)), ((11, 59), (10, 5, 400)), ((11, 81), (8, 0, 270)), ((11, 92), (10, 7, 402)), ((11, 95), (10, 8, 403)), ((11, 99), (7, 6, 298)), ((11, 104), (6, 1, 337)), ((11, 115), (7, 0, 289)), ((11, 130), (7, 8, 305)), ((4, 14), (4, 0, 209)), ((4, 20), (4, 1, 210)), ((4, 23), (4, 2, 211)), ((4, 26), (4, 3, 212)), ((4, 29), (4, 4, 213)), ((4, 32), (4, 5, 214)), ((4, 35), (4, 6, 215)), ((4, 38), (4, 7, 216)), ((4, 41), (4, 8, 217)), ((4, 44), (4, 9, 218)), ((4, 47), (4, 10, 219)), ((4, 60), (8, 0, 268)), ((4, 66), (8, 1, 274)), ((4, 71), (8, 2, 278)), ((4, 100), (5, 1, 202)), ((12, 14), (11, 0, 448)), ((12, 20), (11, 1, 449)), ((12, 23), (11, 2, 450)), ((12, 26), (11, 3, 451)), ((12, 32), (11, 4, 452)), ((12, 36), (8, 1, 273)), ((12, 39), (8, 2, 277)), ((12, 62), (5, 1, 201)), ((12, 66), (8, 0, 269)), ((9, 12), (8, 1, 272)), ((9, 18), (8, 2, 276)), ((3, 9), (3, 0, 172)), ((3, 15), (3, 1, 173)), ((3, 24), (3, 2, 174)), ((2, 9), (2, 0, 142)), ((2, 15), (2, 5, 149)), ((2, 18), (2, 4, 148)), ((2, 22), (2, 1, 143)), ((2, 31), (2, 2, 146)), ((2, 34), (2, 3, 147)), ((2, 41), (1, 7, 117)), ((2, 56), (2, 6, 150)), ((7, 14), (6, 0, 332)), ((7, 20), (6, 1, 336)), ((7, 23), (6, 3, 341)), ((7, 31), (6, 2, 339)), ((7, 35), (6, 4, 342)), ((7, 39), (7, 6, 297)), ((8, 9), (7, 1, 291)), ((8, 15), (7, 2, 292)), ((8, 19), (7, 3, 293)), ((8, 22), (7, 4, 294)), ((8, 25), (7, 5, 295)), ((8, 33), (7, 8, 304)), ((8, 37), (7, 9, 308)), ((8, 40), (7, 0, 287)), ((8, 44), (7, 6, 296)), ((8, 47), (7, 7, 302)), ((1, 9), (1, 0, 108)), ((1, 15), (1, 1, 109)), ((1, 18), (1, 2, 110)), ((1, 21), (1, 3, 111)), ((1, 24), (1, 4, 112)), ((1, 27), (1, 5, 113)), ((1, 31), (1, 7, 115)), ((1, 34), (1, 6, 114)), ((10, 14), (9, 4, 367)), ((10, 20), (9, 5, 368)), ((10, 23), (9, 6, 369)), ((10, 26), (9, 0, 363)), ((10, 30), (9, 1, 364)), ((10, 34), (9, 2, 365)), ((10, 38), (6, 0, 333)), ((10, 44), (9, 3, 366)), ((10, 56), (7, 7, 301)), ((10, 89), (7, 0, 288)), ((10, 119), (7, 6, 299)), ((10, 137), (7, 8, 306)), ((10, 146), (7, 9, 309)), ((5, 15), (5, 0, 199)), ((5, 23), (5, 1, 200)), ((14, 1), (12, 1, 1126)), ((14, 7), (12, 0, 1125)), ((14, 44), (12, 2, 1127)), ((14, 83), (12, 3, 1128)), ((14, 86), (12, 7, 1132)), ((14, 89), (12, 8, 1133)), ((14, 92), (12, 9, 1134)), ((14, 95), (12, 10, 1135)), ((14, 98), (12, 11, 1136)), ((14, 101), (12, 15, 1140)), ((14, 104), (12, 17, 1142)), ((14, 107), (12, 18, 1143)), ((14, 111), (12, 22, 1147)), ((14, 114), (12, 24, 1149)), ((14, 117), (12, 26, 1151)), ((14, 121), (12, 28, 1153)), ((14, 124), (12, 38, 1163)), ((14, 131), (12, 4, 1129)), ((14, 135), (12, 5, 1130)), ((14, 142), (12, 6, 1131)), ((14, 151), (12, 14, 1139)), ((14, 154), (12, 13, 1138)), ((14, 167), (12, 16, 1141)), ((14, 186), (12, 12, 1137)), ((14, 189), (12, 23, 1148)), ((14, 192), (12, 27, 1152)), ((14, 201), (12, 19, 1144)), ((14, 204), (12, 20, 1145)), ((14, 207), (12, 21, 1146)), ((14, 210), (12, 34, 1159)), ((14, 213), (12, 35, 1160)), ((14, 216), (12, 36, 1161)), ((14, 220), (12, 31, 1156)), ((14, 223), (12, 29, 1154)), ((14, 226), (12, 30, 1155)), ((14, 239), (12, 25, 1150)), ((14, 242), (12, 32, 1157)), ((14, 251), (12, 33, 1158)), ((14, 318), (12, 37, 1162))]
def am_met_0 : List ((Nat × Nat) × (Nat × Nat × Nat × Nat × Nat × Nat)) := [((0, 3), (3, 0, 0, 99, 0, 0)), ((0, 11), (2, 1, 0, 104, 105, 0)), ((0, 21), (2, 2, 1, 138, 139, 0)), ((0, 30), (2, 3, 0, 168, 169, 0)), ((0, 48), (2, 4, 0, 186, 187, 0)), ((0, 55), (2, 7, 0, 245, 246, 0)), ((0, 62), (2, 11, 3, 357, 358, 0)), ((0, 71), (2, 12, 3, 387, 388, 0)), ((0, 78), (2, 13, 0, 440, 441, 0)), ((0, 88), (2, 9, 1, 466, 258, 0)), ((0, 95), (1, 15, 1, 526, 527, 528)), ((0, 99), (1, 17, 1, 534, 535, 536)), ((0, 106), (1, 44, 0, 642, 643, 644)), ((0, 109), (1, 45, 0, 646, 647, 648)), ((0, 113), (1, 47, 2, 654, 655, 656)), ((0, 117), (1, 50, 0, 667, 668, 669)), ((0, 122), (0, 48, 3, 677, 661, 0)), ((0, 132), (0, 53, 1, 682, 683, 0)), ((0, 135), (1, 55, 1, 689, 690, 691)), ((0, 141), (1, 56, 1, 694, 695, 696)), ((0, 145), (1, 58, 0, 702, 703, 704)), ((0, 150), (1, 59, 4, 706, 707, 708)), ((0, 157), (1, 105, 0, 896, 897, 898)), ((0, 161), (0, 107, 1, 904, 905, 0))]
def am_met_1 : List ((Nat × Nat) × (Nat × Nat × Nat × Nat × Nat × Nat)) := [((0, 165), (1, 108, 1, 909, 910, 911)), ((0, 169), (1, 109, 1, 913, 914, 915)), ((0, 178), (1, 110, 1, 917, 918, 919)), ((0, 187), (0, 111, 3, 921, 922, 0)), ((0, 191), (1, 67, 1, 925, 740, 741)), ((0, 194), (1, 71, 1, 926, 759, 760)), ((0, 197), (1, 79, 3, 927, 789, 790)), ((0, 201), (1, 113, 1, 932, 933, 934)), ((0, 208), (1, 115, 1, 940, 941, 942)), ((0, 217), (1, 117, 3, 948, 949, 950)), ((0, 221), (1, 120, 1, 963, 964, 965)), ((0, 224), (1, 122, 0, 971, 972, 973)), ((0, 233), (4, 5, 1, 1037, 767, 0)), ((0, 239), (1, 127, 2, 1038, 997, 998)), ((0, 243), (1, 130, 1, 1039, 1011, 1012)), ((0, 252), (1, 136, 3, 1044, 1045, 1046)), ((0, 275), (1, 88, 1, 924, 828, 829)), ((11, 3), (3, 0, 0, 390, 0, 0)), ((11, 11), (2, 9, 1, 392, 258, 0)), ((11, 63), (1, 79, 3, 975, 789, 790)), ((11, 69), (1, 123, 1, 976, 978, 23)), ((11, 74), (1, 124, 0, 981, 983, 24)), ((11, 78), (1, 125, 0, 986, 988, 25)), ((11, 85), (1, 131, 2, 1021, 1023, 27))]
def am_met_2 : List ((Nat × Nat) × (Nat × Nat × Nat × Nat × Nat × Nat)) := [((11, 89), (1, 133, 0, 1029, 1031, 29)), ((11, 107), (1, 117, 3, 985, 949, 950)), ((11, 111), (1, 126, 2, 990, 992, 26)), ((11, 116), (1, 82, 2, 1015, 804, 805)), ((11, 122), (1, 83, 2, 1016, 808, 809)), ((11, 126), (1, 110, 1, 1017, 918, 919)), ((11, 133), (1, 85, 4, 1014, 816, 817)), ((11, 139), (1, 101, 4, 1019, 881, 882)), ((11, 143), (1, 67, 1, 1020, 740, 741)), ((11, 147), (1, 69, 1, 994, 751, 752)), ((11, 151), (1, 72, 1, 995, 763, 764)), ((11, 154), (1, 127, 2, 996, 997, 998)), ((11, 158), (1, 130, 1, 1010, 1011, 1012)), ((11, 161), (1, 132, 0, 1025, 1027, 28)), ((4, 3), (3, 0, 0, 189, 0, 0)), ((4, 11), (2, 5, 1, 192, 193, 0)), ((4, 50), (4, 5, 1, 792, 767, 0)), ((4, 56), (0, 80, 2, 793, 794, 0)), ((4, 67), (1, 10, 1, 797, 264, 265)), ((4, 74), (0, 78, 2, 798, 786, 0)), ((4, 80), (1, 86, 3, 819, 821, 20)), ((4, 84), (1, 89, 3, 831, 832, 833)), ((4, 87), (1, 97, 2, 864, 865, 866)), ((4, 91), (1, 98, 1, 868, 869, 870))]
def am_met_3 : List ((Nat × Nat) × (Nat × Nat × Nat × Nat × Nat × Nat)) := [((4, 94), (1, 99, 2, 872, 873, 874)), ((4, 97), (1, 100, 2, 876, 877, 878)), ((4, 103), (1, 90, 0, 835, 836, 837)), ((4, 107), (1, 91, 2, 839, 840, 841)), ((4, 111), (1, 92, 1, 843, 844, 845)), ((4, 114), (1, 93, 2, 847, 848, 849)), ((4, 119), (1, 94, 3, 851, 852, 853)), ((4, 123), (1, 95, 2, 856, 857, 858)), ((4, 127), (1, 96, 1, 860, 861, 862)), ((4, 130), (1, 87, 1, 823, 824, 825)), ((4, 134), (1, 88, 1, 827, 828, 829)), ((12, 3), (3, 0, 0, 443, 0, 0)), ((12, 11), (2, 5, 1, 445, 193, 0)), ((12, 31), (2, 9, 1, 447, 258, 0)), ((12, 42), (1, 89, 3, 1048, 832, 833)), ((12, 48), (1, 99, 2, 1049, 873, 874)), ((12, 56), (1, 10, 1, 1052, 264, 265)), ((12, 60), (1, 97, 2, 1053, 865, 866)), ((12, 69), (1, 87, 1, 1054, 824, 825)), ((9, 1), (3, 0, 0, 260, 0, 0)), ((9, 9), (2, 5, 1, 262, 193, 0)), ((9, 21), (1, 10, 1, 263, 264, 265)), ((3, 3), (3, 0, 0, 171, 0, 0)), ((3, 20), (0, 48, 3, 660, 661, 0))]
def am_met_4 : List ((Nat × Nat) × (Nat × Nat × Nat × Nat × Nat × Nat)) := [((3, 28), (1, 70, 1, 754, 756, 15)), ((2, 3), (3, 0, 0, 141, 0, 0)), ((2, 26), (1, 18, 0, 538, 539, 540)), ((2, 38), (1, 19, 0, 542, 544, 0)), ((2, 42), (1, 20, 0, 546, 548, 1)), ((2, 45), (1, 21, 0, 550, 551, 552)), ((2, 49), (1, 22, 1, 554, 556, 2)), ((2, 53), (1, 24, 0, 562, 563, 564)), ((2, 59), (1, 23, 0, 558, 560, 3)), ((2, 63), (1, 25, 0, 566, 568, 4)), ((2, 66), (1, 34, 0, 602, 603, 604)), ((2, 69), (1, 35, 1, 606, 608, 8)), ((2, 72), (0, 36, 1, 610, 611, 0)), ((2, 76), (1, 37, 0, 613, 614, 615)), ((2, 79), (1, 38, 0, 617, 619, 9)), ((2, 82), (1, 40, 1, 624, 626, 10)), ((2, 85), (1, 43, 0, 638, 640, 11)), ((2, 88), (1, 42, 3, 633, 634, 635)), ((2, 92), (0, 39, 1, 621, 622, 0)), ((2, 95), (1, 30, 0, 586, 588, 6)), ((2, 98), (1, 33, 1, 598, 600, 7)), ((2, 101), (1, 26, 1, 570, 571, 572)), ((2, 104), (1, 29, 1, 582, 583, 584)), ((2, 107), (1, 31, 1, 590, 591, 592))]
def am_met_5 : List ((Nat × Nat) × (Nat × Nat × Nat × Nat × Nat × Nat)) := [((2, 110), (1, 32, 3, 594, 595, 596)), ((2, 113), (0, 41, 1, 628, 629, 0)), ((2, 118), (4, 1, 2, 632, 579, 0)), ((7, 3), (3, 0, 0, 248, 0, 0)), ((7, 11), (2, 8, 1, 251, 252, 0)), ((7, 27), (1, 57, 1, 698, 699, 700)), ((8, 3), (3, 0, 0, 254, 0, 0)), ((8, 30), (2, 9, 1, 257, 258, 0)), ((8, 51), (1, 110, 1, 952, 918, 919)), ((8, 55), (1, 118, 2, 953, 954, 955)), ((8, 61), (1, 67, 1, 957, 740, 741)), ((8, 65), (0, 78, 2, 958, 786, 0)), ((8, 70), (1, 68, 1, 743, 745, 14)), ((8, 74), (4, 0, 2, 748, 197, 0)), ((8, 80), (1, 71, 1, 1000, 759, 760)), ((8, 83), (1, 128, 1, 1001, 1002, 1003)), ((8, 88), (1, 129, 1, 1006, 1007, 1008)), ((8, 91), (4, 1, 2, 747, 579, 0)), ((1, 3), (3, 0, 0, 107, 0, 0)), ((1, 37), (1, 32, 3, 637, 595, 596)), ((1, 41), (1, 27, 1, 574, 576, 5)), ((1, 45), (4, 1, 2, 578, 579, 0)), ((1, 51), (4, 0, 2, 581, 197, 0)), ((10, 3), (3, 0, 0, 360, 0, 0))]
def am_met_6 : List ((Nat × Nat) × (Nat × Nat × Nat × Nat × Nat × Nat)) := [((10, 11), (2, 9, 1, 362, 258, 0)), ((10, 47), (1, 60, 1, 710, 711, 712)), ((10, 53), (1, 61, 1, 714, 715, 716)), ((10, 62), (1, 26, 1, 718, 571, 572)), ((10, 65), (1, 62, 1, 719, 720, 721)), ((10, 68), (1, 63, 1, 723, 724, 725)), ((10, 71), (1, 64, 1, 727, 728, 729)), ((10, 74), (1, 65, 2, 731, 733, 12)), ((10, 78), (1, 75, 2, 773, 775, 17)), ((10, 82), (1, 77, 2, 781, 783, 18)), ((10, 86), (1, 103, 0, 888, 890, 21)), ((10, 93), (1, 104, 3, 892, 894, 22)), ((10, 99), (1, 102, 5, 884, 885, 886)), ((10, 103), (1, 76, 1, 777, 778, 779)), ((10, 106), (1, 66, 0, 735, 737, 13)), ((10, 110), (4, 5, 1, 766, 767, 0)), ((10, 116), (1, 74, 0, 769, 771, 16)), ((10, 122), (1, 67, 1, 739, 740, 741)), ((10, 126), (1, 69, 1, 750, 751, 752)), ((10, 131), (1, 71, 1, 758, 759, 760)), ((10, 134), (1, 72, 1, 762, 763, 764)), ((10, 140), (1, 79, 3, 788, 789, 790)), ((10, 149), (0, 78, 2, 785, 786, 0)), ((10, 155), (1, 81, 3, 799, 801, 19))]
def am_met_7 : List ((Nat × Nat) × (Nat × Nat × Nat × Nat × Nat × Nat)) := [((10, 158), (1, 85, 4, 815, 816, 817)), ((10, 161), (1, 101, 4, 880, 881, 882)), ((10, 165), (1, 82, 2, 803, 804, 805)), ((10, 169), (1, 83, 2, 807, 808, 809)), ((10, 173), (1, 84, 1, 811, 812, 813)), ((5, 3), (3, 0, 0, 195, 0, 0)), ((5, 9), (4, 0, 2, 196, 197, 0)), ((15, 9), (2, 0, 0, 96, 97, 0)), ((15, 12), (2, 139, 0, 1065, 1066, 0)), ((15, 13), (1, 14, 1, 522, 523, 524)), ((15, 17), (1, 153, 1, 1244, 1245, 1246)), ((15, 18), (1, 16, 0, 530, 531, 532)), ((15, 22), (1, 154, 0, 1248, 1249, 1250)), ((15, 23), (1, 46, 2, 650, 651, 652)), ((15, 27), (1, 164, 2, 1291, 1292, 1293)), ((15, 28), (1, 49, 0, 663, 664, 665)), ((15, 31), (1, 166, 0, 1300, 1301, 1302)), ((15, 32), (1, 51, 2, 671, 672, 673)), ((15, 35), (1, 167, 2, 1304, 1305, 1306)), ((15, 36), (1, 52, 2, 678, 679, 680)), ((15, 39), (1, 168, 2, 1308, 1309, 1310)), ((15, 40), (1, 54, 1, 685, 686, 687)), ((15, 44), (1, 169, 1, 1312, 1313, 1314)), ((15, 45), (1, 106, 3, 900, 901, 902))]
def am_met_8 : List ((Nat × Nat) × (Nat × Nat × Nat × Nat × Nat × Nat)) := [((15, 49), (1, 193, 3, 1410, 1411, 1412)), ((15, 50), (1, 112, 1, 928, 929, 930)), ((15, 53), (1, 198, 1, 1430, 1431, 1432)), ((15, 54), (1, 114, 1, 936, 937, 938)), ((15, 57), (1, 199, 1, 1434, 1435, 1436)), ((15, 58), (1, 116, 1, 944, 945, 946)), ((15, 61), (1, 200, 1, 1438, 1439, 1440)), ((15, 62), (1, 119, 1, 959, 960, 961)), ((15, 65), (1, 201, 1, 1442, 1443, 1444)), ((15, 66), (1, 121, 2, 967, 968, 969)), ((15, 70), (1, 202, 2, 1446, 1447, 1448)), ((15, 71), (1, 134, 2, 1033, 1034, 1035)), ((15, 75), (1, 203, 2, 1450, 1451, 1452)), ((15, 76), (1, 135, 1, 1040, 1041, 1042)), ((15, 79), (1, 204, 1, 1454, 1455, 1456)), ((15, 80), (1, 137, 2, 1055, 1056, 1057)), ((15, 83), (1, 206, 2, 1462, 1463, 1464)), ((15, 84), (1, 138, 1, 1059, 1060, 1061)), ((15, 87), (1, 207, 1, 1467, 1468, 1469)), ((14, 12), (1, 148, 1, 1104, 1106, 37)), ((14, 18), (1, 145, 2, 1091, 1093, 34)), ((14, 22), (1, 149, 2, 1108, 1110, 38)), ((14, 26), (1, 151, 3, 1116, 1118, 40)), ((14, 30), (1, 142, 2, 1078, 1080, 31))]
def am_met_9 : List ((Nat × Nat) × (Nat × Nat × Nat × Nat × Nat × Nat)) := [((14, 34), (1, 147, 1, 1099, 1101, 36)), ((14, 37), (1, 150, 3, 1112, 1114, 39)), ((14, 40), (1, 146, 1, 1095, 1097, 35)), ((14, 47), (1, 144, 2, 1087, 1089, 33)), ((14, 51), (1, 152, 4, 1121, 1123, 41)), ((14, 55), (0, 141, 1, 1075, 1076, 0)), ((14, 59), (1, 143, 1, 1083, 1085, 32)), ((14, 62), (1, 177, 3, 1345, 1347, 58)), ((14, 65), (1, 179, 4, 1353, 1355, 60)), ((14, 70), (1, 197, 2, 1426, 1428, 76)), ((14, 76), (3, 0, 0, 1068, 0, 0)), ((14, 127), (1, 140, 3, 1071, 1073, 30)), ((14, 138), (1, 155, 0, 1252, 1254, 42)), ((14, 157), (1, 161, 3, 1279, 1281, 48)), ((14, 160), (1, 159, 2, 1268, 1270, 46)), ((14, 164), (1, 156, 1, 1256, 1258, 43)), ((14, 170), (1, 160, 0, 1275, 1277, 47)), ((14, 174), (1, 158, 0, 1264, 1266, 45)), ((14, 177), (1, 162, 1, 1283, 1285, 49)), ((14, 180), (1, 163, 0, 1287, 1289, 50)), ((14, 183), (1, 157, 0, 1260, 1262, 44)), ((14, 197), (0, 165, 3, 1297, 1298, 0)), ((14, 229), (1, 174, 1, 1333, 1335, 55)), ((14, 235), (1, 173, 0, 1329, 1331, 54))]
def am_met_10 : List ((Nat × Nat) × (Nat × Nat × Nat × Nat × Nat × Nat)) := [((14, 245), (1, 171, 1, 1321, 1323, 52)), ((14, 248), (1, 181, 3, 1361, 1363, 62)), ((14, 255), (1, 175, 4, 1337, 1339, 56)), ((14, 259), (1, 176, 3, 1341, 1343, 57)), ((14, 262), (1, 178, 3, 1349, 1351, 59)), ((14, 265), (1, 172, 2, 1325, 1327, 53)), ((14, 268), (1, 180, 0, 1357, 1359, 61)), ((14, 271), (1, 182, 2, 1365, 1367, 63)), ((14, 275), (1, 184, 2, 1373, 1375, 65)), ((14, 278), (1, 170, 2, 1316, 1318, 51)), ((14, 281), (1, 183, 0, 1369, 1371, 64)), ((14, 284), (1, 185, 0, 1377, 1379, 66)), ((14, 287), (1, 186, 2, 1381, 1383, 67)), ((14, 290), (1, 191, 3, 1401, 1403, 72)), ((14, 293), (1, 189, 2, 1393, 1395, 70)), ((14, 296), (1, 190, 3, 1397, 1399, 71)), ((14, 299), (1, 188, 3, 1389, 1391, 69)), ((14, 302), (1, 192, 3, 1405, 1407, 73)), ((14, 305), (1, 187, 1, 1385, 1387, 68)), ((14, 308), (1, 194, 1, 1414, 1416, 74)), ((14, 311), (0, 195, 1, 1418, 1419, 0)), ((14, 315), (1, 196, 2, 1422, 1424, 75)), ((14, 321), (1, 205, 2, 1458, 1460, 77))]
def am_metL : List ((Nat × Nat) × (Nat × Nat × Nat × Nat × Nat × Nat)) := am_met_0 ++ (am_met_1 ++ (am_met_2 ++ (am_met_3 ++ (am_met_4 ++ (am_met_5 ++ (am_met_6 ++ (am_met_7 ++ (am_met_8 ++ (am_met_9 ++ (am_met_10))))))))))
def am_newL : List ((Nat × Nat) × (Nat × Nat × Nat × Nat)) := [((0, 9), (1, 102, 103, 80)), ((0, 19), (2, 136, 137, 81)), ((0, 28), (3, 166, 167, 82)), ((0, 46), (4, 184, 185, 83)), ((0, 53), (6, 243, 244, 86)), ((0, 60), (9, 355, 356, 89)), ((0, 69), (10, 385, 386, 90)), ((0, 76), (11, 438, 439, 91)), ((0, 86), (8, 465, 256, 88)), ((11, 9), (8, 391, 256, 88)), ((4, 9), (5, 190, 191, 84)), ((12, 9), (5, 444, 191, 84)), ((12, 29), (8, 446, 256, 88)), ((9, 7), (5, 261, 191, 84)), ((7, 9), (7, 249, 250, 87)), ((8, 28), (8, 255, 256, 88)), ((10, 9), (8, 361, 256, 88)), ((15, 7), (0, 94, 95, 79)), ((15, 10), (12, 1063, 1064, 92))]
def am_ldiL : List ((Nat × Nat) × (Int32 × Nat)) := [((0, 38), (1000000, 183)), ((0, 120), (-100000, 675)), ((0, 121), (100000, 676)), ((11, 73), (1000000, 980)), ((4, 118), (1000000, 796)), ((3, 18), (-100000, 658)), ((3, 19), (100000, 659)), ((2, 117), (100000, 631)), ((14, 50), (65000, 1120)), ((14, 82), (67600, 1069)), ((14, 110), (1000000, 1070)), ((14, 195), (-100000, 1295)), ((14, 196), (100000, 1296))]
def am_ldlL : List ((Nat × Nat) × (Int64 × Nat)) := [((0, 139), (1000, 693)), ((0, 263), (-2, 907)), ((0, 265), (-1, 908)), ((11, 137), (2, 1018)), ((12, 52), (1000, 1050)), ((12, 54), (2, 1051)), ((8, 86), (1000, 1005)), ((10, 97), (1000, 749)), ((5, 21), (1000000000, 267)), ((5, 27), (999999999, 855)), ((14, 10), (1000000000, 1082)), ((14, 16), (2, 1103)), ((14, 68), (-1, 1409)), ((14, 74), (-2, 1421)), ((14, 145), (1000000, 1272)), ((14, 147), (10, 1273)), ((14, 149), (48, 1274)), ((14, 233), (1000, 1320)), ((14, 324), (500, 1466))]
def am_fld (o j : Nat) : Option (Nat × Nat) := (am_fnd am_fldL o j).map fun q => (q.1, q.2.1)
def am_met (o j : Nat) : Option (Nat × Nat × Nat) := (am_fnd am_metL o j).map fun q => (q.1, q.2.1, q.2.2.1)
def am_newc (o j : Nat) : Option Nat := (am_fnd am_newL o j).map fun q => q.1
def am_ldi (o j : Nat) : Option Int32 := (am_fnd am_ldiL o j).map fun q => q.1
def am_ldl (o j : Nat) : Option Int64 := (am_fnd am_ldlL o j).map fun q => q.1
def am_NF : List (String × Nat × String × String × String × String) := [("SectionTemplates", 110, "SectionTemplates$Templates", "size", "I", "SectionTemplates"), ("SectionTemplates$Reader", 41, "SectionTemplates$Templates", "size", "I", "SectionTemplates"), ("SectionTemplates", 259, "SectionTemplates$Reader", "size", "I", "SectionTemplates"), ("SectionTemplates", 103, "SectionTemplates$Reader", "at", "I", "SectionTemplates"), ("SectionTemplates", 258, "SectionTemplates$Ground", "size", "I", "SectionTemplates"), ("SectionTemplates$Earthwork", 62, "SectionTemplates$Whole", "size", "I", "SectionTemplates"), ("SectionTemplates$Arithmetic", 100, "SectionTemplates$Whole", "size", "I", "SectionTemplates"), ("SectionTemplates$Arithmetic", 60, "SectionTemplates$Fraction", "sign", "I", "SectionTemplates"), ("SectionTemplates$Earthwork", 66, "SectionTemplates$Fraction", "sign", "I", "SectionTemplates"), ("SectionTemplates$Areas", 81, "SectionTemplates$Fraction", "sign", "I", "SectionTemplates"), ("SectionTemplates", 267, "SectionTemplates$Fraction", "sign", "I", "SectionTemplates"), ("SectionTemplates$Earthwork", 36, "SectionTemplates$Fraction", "up", "LSectionTemplates$Whole;", "SectionTemplates"), ("SectionTemplates$Arithmetic", 66, "SectionTemplates$Fraction", "up", "LSectionTemplates$Whole;", "SectionTemplates"), ("SectionTemplates", 268, "SectionTemplates$Fraction", "up", "LSectionTemplates$Whole;", "SectionTemplates"), ("SectionTemplates$Earthwork", 39, "SectionTemplates$Fraction", "low", "LSectionTemplates$Whole;", "SectionTemplates"), ("SectionTemplates$Arithmetic", 71, "SectionTemplates$Fraction", "low", "LSectionTemplates$Whole;", "SectionTemplates"), ("SectionTemplates", 272, "SectionTemplates$Fraction", "low", "LSectionTemplates$Whole;", "SectionTemplates"), ("SectionTemplates$Walker", 89, "SectionTemplates$Side", "sign", "I", "SectionTemplates"), ("SectionTemplates$Areas", 115, "SectionTemplates$Side", "sign", "I", "SectionTemplates"), ("SectionTemplates", 173, "SectionTemplates$Side", "sign", "I", "SectionTemplates"), ("SectionTemplates$Section", 39, "SectionTemplates$Side", "last", "I", "SectionTemplates"), ("SectionTemplates$Areas", 99, "SectionTemplates$Side", "last", "I", "SectionTemplates"), ("SectionTemplates$Walker", 119, "SectionTemplates$Side", "last", "I", "SectionTemplates"), ("SectionTemplates", 214, "SectionTemplates$Side", "last", "I", "SectionTemplates"), ("SectionTemplates$Walker", 56, "SectionTemplates$Side", "ended", "Z", "SectionTemplates"), ("SectionTemplates", 211, "SectionTemplates$Side", "ended", "Z", "SectionTemplates"), ("SectionTemplates$Areas", 130, "SectionTemplates$Side", "endOut", "LSectionTemplates$Fraction;", "SectionTemplates"), ("SectionTemplates$Walker", 137, "SectionTemplates$Side", "endOut", "LSectionTemplates$Fraction;", "SectionTemplates"), ("SectionTemplates", 181, "SectionTemplates$Side", "endOut", "LSectionTemplates$Fraction;", "SectionTemplates"), ("SectionTemplates$Walker", 146, "SectionTemplates$Side", "endLevel", "LSectionTemplates$Fraction;", "SectionTemplates"), ("SectionTemplates", 184, "SectionTemplates$Side", "endLevel", "LSectionTemplates$Fraction;", "SectionTemplates"), ("SectionTemplates$Walker", 38, "SectionTemplates$Section", "left", "LSectionTemplates$Side;", "SectionTemplates"), ("SectionTemplates$Areas", 50, "SectionTemplates$Section", "left", "LSectionTemplates$Side;", "SectionTemplates"), ("SectionTemplates", 146, "SectionTemplates$Section", "left", "LSectionTemplates$Side;", "SectionTemplates"), ("SectionTemplates$Areas", 104, "SectionTemplates$Section", "right", "LSectionTemplates$Side;", "SectionTemplates"), ("SectionTemplates", 154, "SectionTemplates$Section", "right", "LSectionTemplates$Side;", "SectionTemplates"), ("SectionTemplates", 204, "SectionTemplates$Section", "walked", "Z", "SectionTemplates"), ("SectionTemplates", 260, "SectionTemplates$Section", "choices", "I", "SectionTemplates"), ("SectionTemplates", 227, "SectionTemplates$Areas", "cut", "LSectionTemplates$Fraction;", "SectionTemplates"), ("SectionTemplates", 230, "SectionTemplates$Areas", "fill", "LSectionTemplates$Fraction;", "SectionTemplates"), ("SectionTemplates", 255, "SectionTemplates$Earthwork", "volume", "LSectionTemplates$Fraction;", "SectionTemplates")]
def am_NM : List (String × Nat × MethodName × String) := [("SectionTemplates", 11, ⟨"SectionTemplates$Templates", "<init>", "()V"⟩, "SectionTemplates"), ("SectionTemplates", 30, ⟨"SectionTemplates$Ground", "<init>", "()V"⟩, "SectionTemplates"), ("SectionTemplates", 48, ⟨"SectionTemplates$Arithmetic", "<init>", "()V"⟩, "SectionTemplates"), ("SectionTemplates", 55, ⟨"SectionTemplates$Section", "<init>", "()V"⟩, "SectionTemplates"), ("SectionTemplates", 78, ⟨"SectionTemplates$Earthwork", "<init>", "()V"⟩, "SectionTemplates"), ("SectionTemplates$Ground", 20, ⟨"SectionTemplates", "within", "(III)Z"⟩, "SectionTemplates")]
end
section
/-! THE CODE OF EACH METHOD, printed by wip/whole/tools/gen_tables.py -/
/-- SectionTemplates.<init>()V -/
def am_cd0 : List (Nat × Instr) := [(0, .aload_n 0), (1, .invokespecial 3), (4, .aload_n 0), (5, .new 9), (8, .dup), (9, .invokespecial 11), (12, .putfield 12), (15, .aload_n 0), (16, .new 9), (19, .dup), (20, .invokespecial 11), (23, .putfield 16), (26, .aload_n 0), (27, .new 19), (30, .dup), (31, .aload_n 0), (32, .getfield 16), (35, .invokespecial 21), (38, .putfield 24), (41, .aload_n 0), (42, .new 28), (45, .dup), (46, .invokespecial 30), (49, .putfield 31), (52, .aload_n 0), (53, .new 28), (56, .dup), (57, .invokespecial 30), (60, .putfield 35), (63, .aload_n 0), (64, .ldc 38), (66, .putfield 39), (69, .aload_n 0), (70, .ldc 38), (72, .putfield 43), (75, .aload_n 0), (76, .new 46), (79, .dup), (80, .invokespecial 48), (83, .putfield 49), (86, .aload_n 0), (87, .new 53), (90, .dup), (91, .invokespecial 55), (94, .putfield 56), (97, .aload_n 0), (98, .new 60), (101, .dup), (102, .aload_n 0), (103, .getfield 56), (106, .aload_n 0), (107, .getfield 35), (110, .aload_n 0), (111, .getfield 49), (114, .invokespecial 62), (117, .putfield 65), (120, .aload_n 0), (121, .new 69), (124, .dup), (125, .aload_n 0), (126, .getfield 56), (129, .aload_n 0), (130, .getfield 35), (133, .aload_n 0), (134, .getfield 49), (137, .invokespecial 71), (140, .putfield 72), (143, .aload_n 0), (144, .new 76), (147, .dup), (148, .invokespecial 78), (151, .putfield 79), (154, .aload_n 0), (155, .new 76), (158, .dup), (159, .invokespecial 78), (162, .putfield 83), (165, .aload_n 0), (166, .new 86), (169, .dup), (170, .bipush 16), (172, .invokespecial 88), (175, .putfield 91), (178, .return_)]
/-- SectionTemplates$Templates.<init>()V -/
def am_cd1 : List (Nat × Instr) := [(0, .aload_n 0), (1, .invokespecial 3), (4, .aload_n 0), (5, .sipush 144), (8, .newarray .int), (10, .putfield 9), (13, .aload_n 0), (14, .sipush 144), (17, .newarray .int), (19, .putfield 15), (22, .aload_n 0), (23, .sipush 144), (26, .newarray .int), (28, .putfield 18), (31, .aload_n 0), (32, .sipush 144), (35, .newarray .int), (37, .putfield 21), (40, .aload_n 0), (41, .bipush 6), (43, .newarray .int), (45, .putfield 24), (48, .return_)]
/-- SectionTemplates$Reader.<init>(LSectionTemplates$Templates;)V -/
def am_cd2 : List (Nat × Instr) := [(0, .aload_n 0), (1, .invokespecial 3), (4, .aload_n 0), (5, .sipush 400), (8, .newarray .int), (10, .putfield 9), (13, .aload_n 0), (14, .iconst 5), (15, .newarray .int), (17, .putfield 15), (20, .aload_n 0), (21, .aload_n 1), (22, .putfield 18), (25, .return_)]
/-- SectionTemplates$Ground.<init>()V -/
def am_cd3 : List (Nat × Instr) := [(0, .aload_n 0), (1, .invokespecial 3), (4, .aload_n 0), (5, .bipush 12), (7, .newarray .int), (9, .putfield 9), (12, .aload_n 0), (13, .bipush 12), (15, .newarray .int), (17, .putfield 15), (20, .return_)]
/-- SectionTemplates$Arithmetic.<init>()V -/
def am_cd4 : List (Nat × Instr) := [(0, .aload_n 0), (1, .invokespecial 3), (4, .aload_n 0), (5, .new 9), (8, .dup), (9, .sipush 128), (12, .invokespecial 11), (15, .putfield 14), (18, .aload_n 0), (19, .new 9), (22, .dup), (23, .sipush 128), (26, .invokespecial 11), (29, .putfield 20), (32, .aload_n 0), (33, .new 9), (36, .dup), (37, .sipush 128), (40, .invokespecial 11), (43, .putfield 23), (46, .aload_n 0), (47, .new 9), (50, .dup), (51, .sipush 128), (54, .invokespecial 11), (57, .putfield 26), (60, .aload_n 0), (61, .new 9), (64, .dup), (65, .sipush 128), (68, .invokespecial 11), (71, .putfield 29), (74, .aload_n 0), (75, .new 9), (78, .dup), (79, .sipush 128), (82, .invokespecial 11), (85, .putfield 32), (88, .aload_n 0), (89, .new 9), (92, .dup), (93, .sipush 128), (96, .invokespecial 11), (99, .putfield 35), (102, .aload_n 0), (103, .new 9), (106, .dup), (107, .sipush 128), (110, .invokespecial 11), (113, .putfield 38), (116, .aload_n 0), (117, .new 9), (120, .dup), (121, .sipush 128), (124, .invokespecial 11), (127, .putfield 41), (130, .aload_n 0), (131, .new 9), (134, .dup), (135, .sipush 128), (138, .invokespecial 11), (141, .putfield 44), (144, .aload_n 0), (145, .new 9), (148, .dup), (149, .sipush 128), (152, .invokespecial 11), (155, .putfield 47), (158, .return_)]
/-- SectionTemplates$Whole.<init>(I)V -/
def am_cd5 : List (Nat × Instr) := [(0, .aload_n 0), (1, .invokespecial 3), (4, .aload_n 0), (5, .iconst 1), (6, .iload_n 1), (7, .invokestatic 9), (10, .newarray .long), (12, .putfield 15), (15, .return_)]
/-- java/lang/Math.max(II)I -/
def am_cd6 : List (Nat × Instr) := [(0, .iload_n 0), (1, .iload_n 1), (2, .if_icmp .lt 7), (5, .iload_n 0), (6, .goto 4), (9, .iload_n 1), (10, .ireturn)]
/-- SectionTemplates$Section.<init>()V -/
def am_cd7 : List (Nat × Instr) := [(0, .aload_n 0), (1, .invokespecial 3), (4, .aload_n 0), (5, .new 9), (8, .dup), (9, .iconst (-1)), (10, .invokespecial 11), (13, .putfield 14), (16, .aload_n 0), (17, .new 9), (20, .dup), (21, .iconst 1), (22, .invokespecial 11), (25, .putfield 20), (28, .aload_n 0), (29, .bipush 24), (31, .newarray .int), (33, .putfield 23), (36, .return_)]
/-- SectionTemplates$Side.<init>(I)V -/
def am_cd8 : List (Nat × Instr) := [(0, .aload_n 0), (1, .invokespecial 3), (4, .aload_n 0), (5, .bipush 13), (7, .newarray .int), (9, .putfield 9), (12, .aload_n 0), (13, .bipush 13), (15, .newarray .long), (17, .putfield 15), (20, .aload_n 0), (21, .bipush 13), (23, .newarray .long), (25, .putfield 19), (28, .aload_n 0), (29, .bipush 13), (31, .newarray .long), (33, .putfield 22), (36, .aload_n 0), (37, .bipush 13), (39, .newarray .long), (41, .putfield 25), (44, .aload_n 0), (45, .new 28), (48, .dup), (49, .bipush 16), (51, .invokespecial 30), (54, .putfield 33), (57, .aload_n 0), (58, .new 28), (61, .dup), (62, .bipush 16), (64, .invokespecial 30), (67, .putfield 37), (70, .aload_n 0), (71, .iload_n 1), (72, .putfield 40), (75, .return_)]
/-- SectionTemplates$Fraction.<init>(I)V -/
def am_cd9 : List (Nat × Instr) := [(0, .aload_n 0), (1, .invokespecial 1), (4, .aload_n 0), (5, .new 7), (8, .dup), (9, .iload_n 1), (10, .invokespecial 9), (13, .putfield 12), (16, .aload_n 0), (17, .new 7), (20, .dup), (21, .iload_n 1), (22, .invokespecial 9), (25, .putfield 18), (28, .aload_n 0), (29, .getfield 18), (32, .lconst 1), (33, .invokevirtual 21), (36, .return_)]
/-- SectionTemplates$Whole.put(J)V -/
def am_cd10 : List (Nat × Instr) := [(0, .lload_n 1), (1, .lstore_n 3), (2, .iconst 0), (3, .istore 5), (5, .iconst 0), (6, .istore 6), (8, .iload 6), (10, .aload_n 0), (11, .getfield 15), (14, .arraylength), (15, .if_icmp .ge 39), (18, .lload_n 3), (19, .lconst 0), (20, .lcmp), (21, .ifCond .le 33), (24, .aload_n 0), (25, .getfield 15), (28, .iload 6), (30, .lload_n 3), (31, .ldc2_w 21), (34, .lrem), (35, .lastore), (36, .lload_n 3), (37, .ldc2_w 21), (40, .ldiv), (41, .lstore_n 3), (42, .iload 6), (44, .iconst 1), (45, .iadd), (46, .istore 5), (48, .iinc 6 1), (51, .goto (-43)), (54, .aload_n 0), (55, .iload 5), (57, .putfield 23), (60, .return_)]
/-- SectionTemplates$Walker.<init>(LSectionTemplates$Section;LSectionTemplates$Ground;LSectionTemplates$Arithmetic;)V -/
def am_cd11 : List (Nat × Instr) := [(0, .aload_n 0), (1, .invokespecial 3), (4, .aload_n 0), (5, .new 9), (8, .dup), (9, .bipush 16), (11, .invokespecial 11), (14, .putfield 14), (17, .aload_n 0), (18, .new 9), (21, .dup), (22, .bipush 16), (24, .invokespecial 11), (27, .putfield 20), (30, .aload_n 0), (31, .new 9), (34, .dup), (35, .bipush 16), (37, .invokespecial 11), (40, .putfield 23), (43, .aload_n 0), (44, .aload_n 1), (45, .putfield 26), (48, .aload_n 0), (49, .aload_n 2), (50, .putfield 30), (53, .aload_n 0), (54, .aload_n 3), (55, .putfield 34), (58, .aload_n 0), (59, .aload_n 1), (60, .getfield 38), (63, .putfield 44), (66, .return_)]
/-- SectionTemplates$Areas.<init>(LSectionTemplates$Section;LSectionTemplates$Ground;LSectionTemplates$Arithmetic;)V -/
def am_cd12 : List (Nat × Instr) := [(0, .aload_n 0), (1, .invokespecial 3), (4, .aload_n 0), (5, .new 9), (8, .dup), (9, .bipush 100), (11, .invokespecial 11), (14, .putfield 14), (17, .aload_n 0), (18, .new 9), (21, .dup), (22, .bipush 100), (24, .invokespecial 11), (27, .putfield 20), (30, .aload_n 0), (31, .new 9), (34, .dup), (35, .bipush 16), (37, .invokespecial 11), (40, .putfield 23), (43, .aload_n 0), (44, .new 9), (47, .dup), (48, .bipush 16), (50, .invokespecial 11), (53, .putfield 26), (56, .aload_n 0), (57, .new 9), (60, .dup), (61, .bipush 16), (63, .invokespecial 11), (66, .putfield 29), (69, .aload_n 0), (70, .new 9), (73, .dup), (74, .bipush 16), (76, .invokespecial 11), (79, .putfield 32), (82, .aload_n 0), (83, .new 9), (86, .dup), (87, .bipush 16), (89, .invokespecial 11), (92, .putfield 35), (95, .aload_n 0), (96, .aload_n 1), (97, .putfield 38), (100, .aload_n 0), (101, .aload_n 2), (102, .putfield 42), (105, .aload_n 0), (106, .aload_n 3), (107, .putfield 46), (110, .aload_n 0), (111, .aload_n 1), (112, .getfield 50), (115, .putfield 56), (118, .return_)]
/-- SectionTemplates$Earthwork.<init>()V -/
def am_cd13 : List (Nat × Instr) := [(0, .aload_n 0), (1, .invokespecial 3), (4, .aload_n 0), (5, .new 9), (8, .dup), (9, .bipush 16), (11, .invokespecial 11), (14, .putfield 14), (17, .aload_n 0), (18, .new 9), (21, .dup), (22, .bipush 16), (24, .invokespecial 11), (27, .putfield 20), (30, .aload_n 0), (31, .new 9), (34, .dup), (35, .bipush 16), (37, .invokespecial 11), (40, .putfield 23), (43, .aload_n 0), (44, .new 9), (47, .dup), (48, .bipush 16), (50, .invokespecial 11), (53, .putfield 26), (56, .aload_n 0), (57, .new 29), (60, .dup), (61, .bipush 16), (63, .invokespecial 31), (66, .putfield 32), (69, .return_)]
/-- SectionTemplates.unit(I)Z -/
def am_cd14 : List (Nat × Instr) := [(0, .aload_n 0), (1, .getfield 24), (4, .iload_n 1), (5, .invokevirtual 95), (8, .ireturn)]
/-- SectionTemplates$Reader.collect(I)Z -/
def am_cd15 : List (Nat × Instr) := [(0, .iload_n 1), (1, .bipush 32), (3, .if_icmp .lt 21), (6, .iload_n 1), (7, .bipush 126), (9, .if_icmp .gt 15), (12, .aload_n 0), (13, .getfield 22), (16, .aload_n 0), (17, .getfield 9), (20, .arraylength), (21, .if_icmp .lt 5), (24, .iconst 0), (25, .ireturn), (26, .aload_n 0), (27, .getfield 9), (30, .aload_n 0), (31, .getfield 22), (34, .iload_n 1), (35, .iastore), (36, .aload_n 0), (37, .dup), (38, .getfield 22), (41, .iconst 1), (42, .iadd), (43, .putfield 22), (46, .iconst 1), (47, .ireturn)]
/-- SectionTemplates.read()I -/
def am_cd16 : List (Nat × Instr) := [(0, .aload_n 0), (1, .getfield 24), (4, .aload_n 0), (5, .getfield 16), (8, .invokevirtual 99), (11, .istore_n 1), (12, .aload_n 0), (13, .getfield 24), (16, .getfield 103), (19, .istore_n 2), (20, .aload_n 0), (21, .getfield 24), (24, .invokevirtual 106), (27, .iload_n 1), (28, .ifCond .ne 7), (31, .iconst (-1)), (32, .iload_n 2), (33, .isub), (34, .ireturn), (35, .aload_n 0), (36, .getfield 12), (39, .astore_n 3), (40, .aload_n 0), (41, .aload_n 0), (42, .getfield 16), (45, .putfield 12), (48, .aload_n 0), (49, .aload_n 3), (50, .putfield 16), (53, .aload_n 0), (54, .getfield 56), (57, .invokevirtual 109), (60, .aload_n 0), (61, .getfield 12), (64, .getfield 110), (67, .ireturn)]
/-- SectionTemplates$Reader.parse(LSectionTemplates$Templates;)Z -/
def am_cd17 : List (Nat × Instr) := [(0, .aload_n 0), (1, .aload_n 1), (2, .putfield 18), (5, .aload_n 0), (6, .getfield 18), (9, .invokevirtual 26), (12, .aload_n 0), (13, .iconst 0), (14, .putfield 31), (17, .aload_n 0), (18, .iconst 0), (19, .putfield 34), (22, .aload_n 0), (23, .invokevirtual 38), (26, .iconst 0), (27, .istore_n 2), (28, .iload_n 2), (29, .sipush 400), (32, .if_icmp .gt 47), (35, .aload_n 0), (36, .getfield 34), (39, .ifCond .ne 40), (42, .aload_n 0), (43, .getfield 31), (46, .aload_n 0), (47, .getfield 22), (50, .if_icmp .lt 15), (53, .aload_n 0), (54, .getfield 18), (57, .getfield 41), (60, .ifCond .le 5), (63, .iconst 1), (64, .ireturn), (65, .aload_n 0), (66, .invokevirtual 42), (69, .aload_n 0), (70, .invokevirtual 38), (73, .iinc 2 1), (76, .goto (-48)), (79, .iconst 0), (80, .ireturn)]
/-- SectionTemplates$Templates.empty()V -/
def am_cd18 : List (Nat × Instr) := [(0, .aload_n 0), (1, .iconst 0), (2, .putfield 27), (5, .aload_n 0), (6, .iconst 0), (7, .putfield 31), (10, .return_)]
/-- SectionTemplates$Reader.skipBlanks()V -/
def am_cd19 : List (Nat × Instr) := [(0, .aload_n 0), (1, .getfield 34), (4, .ifCond .ne 41), (7, .aload_n 0), (8, .getfield 31), (11, .aload_n 0), (12, .getfield 22), (15, .if_icmp .ge 30), (18, .aload_n 0), (19, .getfield 9), (22, .aload_n 0), (23, .getfield 31), (26, .iaload), (27, .bipush 32), (29, .if_icmp .ne 16), (32, .aload_n 0), (33, .dup), (34, .getfield 31), (37, .iconst 1), (38, .iadd), (39, .putfield 31), (42, .goto (-42)), (45, .return_)]
/-- SectionTemplates$Reader.template()V -/
def am_cd20 : List (Nat × Instr) := [(0, .aload_n 0), (1, .getfield 18), (4, .invokevirtual 45), (7, .ifCond .eq 8), (10, .aload_n 0), (11, .iconst 1), (12, .putfield 34), (15, .aload_n 0), (16, .bipush 123), (18, .invokevirtual 49), (21, .aload_n 0), (22, .getfield 18), (25, .invokevirtual 53), (28, .aload_n 0), (29, .iconst 0), (30, .putfield 56), (33, .iconst 1), (34, .istore_n 1), (35, .iconst 0), (36, .istore_n 2), (37, .iload_n 2), (38, .sipush 400), (41, .if_icmp .gt 89), (44, .iload_n 1), (45, .ifCond .eq 85), (48, .aload_n 0), (49, .getfield 34), (52, .ifCond .ne 78), (55, .aload_n 0), (56, .invokevirtual 38), (59, .aload_n 0), (60, .invokevirtual 59), (63, .istore_n 3), (64, .iload_n 3), (65, .bipush 41), (67, .if_icmp .ne 17), (70, .aload_n 0), (71, .getfield 56), (74, .ifCond .le 10), (77, .aload_n 0), (78, .invokevirtual 63), (81, .goto 43), (84, .iload_n 3), (85, .bipush 125), (87, .if_icmp .ne 32), (90, .aload_n 0), (91, .getfield 56), (94, .ifCond .ne 25), (97, .aload_n 0), (98, .dup), (99, .getfield 31), (102, .iconst 1), (103, .iadd), (104, .putfield 31), (107, .aload_n 0), (108, .getfield 18), (111, .invokevirtual 66), (114, .iconst 0), (115, .istore_n 1), (116, .goto 8), (119, .aload_n 0), (120, .iload_n 3), (121, .invokevirtual 69), (124, .iinc 2 1), (127, .goto (-90)), (130, .return_)]
/-- SectionTemplates$Templates.isFull()Z -/
def am_cd21 : List (Nat × Instr) := [(0, .aload_n 0), (1, .getfield 31), (4, .bipush 6), (6, .if_icmp .lt 7), (9, .iconst 1), (10, .goto 4), (13, .iconst 0), (14, .ireturn)]
/-- SectionTemplates$Reader.expect(I)V -/
def am_cd22 : List (Nat × Instr) := [(0, .aload_n 0), (1, .invokevirtual 38), (4, .aload_n 0), (5, .getfield 34), (8, .ifCond .ne 11), (11, .aload_n 0), (12, .invokevirtual 59), (15, .iload_n 1), (16, .if_icmp .eq 9), (19, .aload_n 0), (20, .iconst 1), (21, .putfield 34), (24, .return_), (25, .aload_n 0), (26, .dup), (27, .getfield 31), (30, .iconst 1), (31, .iadd), (32, .putfield 31), (35, .return_)]
/-- SectionTemplates$Reader.sign()I -/
def am_cd23 : List (Nat × Instr) := [(0, .aload_n 0), (1, .getfield 31), (4, .ifCond .lt 38), (7, .aload_n 0), (8, .getfield 31), (11, .aload_n 0), (12, .getfield 22), (15, .if_icmp .ge 27), (18, .aload_n 0), (19, .getfield 31), (22, .aload_n 0), (23, .getfield 9), (26, .arraylength), (27, .if_icmp .ge 15), (30, .aload_n 0), (31, .getfield 9), (34, .aload_n 0), (35, .getfield 31), (38, .iaload), (39, .goto 4), (42, .iconst (-1)), (43, .ireturn)]
/-- SectionTemplates$Templates.begin()V -/
def am_cd24 : List (Nat × Instr) := [(0, .aload_n 0), (1, .iconst 0), (2, .putfield 34), (5, .return_)]
/-- SectionTemplates$Reader.closeSteps()V -/
def am_cd25 : List (Nat × Instr) := [(0, .aload_n 0), (1, .dup), (2, .getfield 31), (5, .iconst 1), (6, .iadd), (7, .putfield 31), (10, .aload_n 0), (11, .dup), (12, .getfield 56), (15, .iconst 1), (16, .isub), (17, .putfield 56), (20, .aload_n 0), (21, .getfield 56), (24, .ifCond .lt 27), (27, .aload_n 0), (28, .getfield 56), (31, .aload_n 0), (32, .getfield 15), (35, .arraylength), (36, .if_icmp .ge 15), (39, .aload_n 0), (40, .getfield 15), (43, .aload_n 0), (44, .getfield 56), (47, .iaload), (48, .goto 4), (51, .iconst 0), (52, .istore_n 1), (53, .aload_n 0), (54, .invokevirtual 38), (57, .aload_n 0), (58, .getfield 18), (61, .iload_n 1), (62, .invokevirtual 101), (65, .bipush 10), (67, .if_icmp .eq 12), (70, .aload_n 0), (71, .invokevirtual 59), (74, .bipush 58), (76, .if_icmp .eq 12), (79, .aload_n 0), (80, .getfield 18), (83, .iload_n 1), (84, .invokevirtual 104), (87, .return_), (88, .aload_n 0), (89, .dup), (90, .getfield 31), (93, .iconst 1), (94, .iadd), (95, .putfield 31), (98, .aload_n 0), (99, .invokevirtual 95), (102, .aload_n 0), (103, .getfield 34), (106, .ifCond .ne 34), (109, .aload_n 0), (110, .getfield 18), (113, .iload_n 1), (114, .invokevirtual 107), (117, .aload_n 0), (118, .aload_n 0), (119, .getfield 18), (122, .bipush 10), (124, .iconst 0), (125, .iconst 0), (126, .invokevirtual 110), (129, .invokevirtual 98), (132, .aload_n 0), (133, .getfield 18), (136, .iload_n 1), (137, .invokevirtual 104), (140, .return_)]
/-- SectionTemplates$Templates.kindOf(I)I -/
def am_cd26 : List (Nat × Instr) := [(0, .aload_n 0), (1, .getfield 9), (4, .aload_n 0), (5, .iload_n 1), (6, .invokevirtual 41), (9, .iaload), (10, .ireturn)]
/-- SectionTemplates$Templates.inside(I)I -/
def am_cd27 : List (Nat × Instr) := [(0, .iconst 0), (1, .iload_n 1), (2, .aload_n 0), (3, .getfield 9), (6, .arraylength), (7, .iconst 1), (8, .isub), (9, .invokestatic 45), (12, .invokestatic 51), (15, .ireturn)]
/-- java/lang/Math.min(II)I -/
def am_cd28 : List (Nat × Instr) := [(0, .iload_n 0), (1, .iload_n 1), (2, .if_icmp .gt 7), (5, .iload_n 0), (6, .goto 4), (9, .iload_n 1), (10, .ireturn)]
/-- SectionTemplates$Templates.aimHere(I)V -/
def am_cd29 : List (Nat × Instr) := [(0, .iload_n 1), (1, .ifCond .lt 22), (4, .iload_n 1), (5, .aload_n 0), (6, .getfield 21), (9, .arraylength), (10, .if_icmp .ge 13), (13, .aload_n 0), (14, .getfield 21), (17, .iload_n 1), (18, .aload_n 0), (19, .getfield 27), (22, .iastore), (23, .return_)]
/-- SectionTemplates$Reader.openSteps()V -/
def am_cd30 : List (Nat × Instr) := [(0, .aload_n 0), (1, .invokevirtual 38), (4, .aload_n 0), (5, .getfield 34), (8, .ifCond .ne 20), (11, .aload_n 0), (12, .getfield 56), (15, .iconst 5), (16, .if_icmp .ge 12), (19, .aload_n 0), (20, .invokevirtual 59), (23, .bipush 40), (25, .if_icmp .eq 9), (28, .aload_n 0), (29, .iconst 1), (30, .putfield 34), (33, .return_), (34, .aload_n 0), (35, .dup), (36, .getfield 31), (39, .iconst 1), (40, .iadd), (41, .putfield 31), (44, .return_)]
/-- SectionTemplates$Templates.markOthers(I)V -/
def am_cd31 : List (Nat × Instr) := [(0, .aload_n 0), (1, .getfield 18), (4, .aload_n 0), (5, .iload_n 1), (6, .invokevirtual 41), (9, .iconst 1), (10, .iastore), (11, .return_)]
/-- SectionTemplates$Templates.addOrder(III)I -/
def am_cd32 : List (Nat × Instr) := [(0, .aload_n 0), (1, .getfield 27), (4, .istore 4), (6, .iload 4), (8, .aload_n 0), (9, .getfield 9), (12, .arraylength), (13, .if_icmp .ge 37), (16, .aload_n 0), (17, .getfield 9), (20, .iload 4), (22, .iload_n 1), (23, .iastore), (24, .aload_n 0), (25, .getfield 15), (28, .iload 4), (30, .iload_n 2), (31, .iastore), (32, .aload_n 0), (33, .getfield 18), (36, .iload 4), (38, .iload_n 3), (39, .iastore), (40, .aload_n 0), (41, .dup), (42, .getfield 27), (45, .iconst 1), (46, .iadd), (47, .putfield 27), (50, .iload 4), (52, .ireturn)]
/-- SectionTemplates$Reader.waitFor(I)V -/
def am_cd33 : List (Nat × Instr) := [(0, .aload_n 0), (1, .getfield 56), (4, .aload_n 0), (5, .getfield 15), (8, .arraylength), (9, .if_icmp .ge 23), (12, .aload_n 0), (13, .getfield 15), (16, .aload_n 0), (17, .getfield 56), (20, .iload_n 1), (21, .iastore), (22, .aload_n 0), (23, .dup), (24, .getfield 56), (27, .iconst 1), (28, .iadd), (29, .putfield 56), (32, .return_)]
/-- SectionTemplates$Templates.finish()V -/
def am_cd34 : List (Nat × Instr) := [(0, .aload_n 0), (1, .getfield 31), (4, .aload_n 0), (5, .getfield 24), (8, .arraylength), (9, .if_icmp .ge 26), (12, .aload_n 0), (13, .getfield 24), (16, .aload_n 0), (17, .getfield 31), (20, .aload_n 0), (21, .getfield 27), (24, .iastore), (25, .aload_n 0), (26, .dup), (27, .getfield 31), (30, .iconst 1), (31, .iadd), (32, .putfield 31), (35, .return_)]
/-- SectionTemplates$Reader.step(I)V -/
def am_cd35 : List (Nat × Instr) := [(0, .iload_n 1), (1, .invokestatic 72), (4, .istore_n 2), (5, .iload_n 2), (6, .iconst (-1)), (7, .if_icmp .eq 13), (10, .aload_n 0), (11, .getfield 18), (14, .invokevirtual 76), (17, .ifCond .eq 9), (20, .aload_n 0), (21, .iconst 1), (22, .putfield 34), (25, .return_), (26, .aload_n 0), (27, .dup), (28, .getfield 31), (31, .iconst 1), (32, .iadd), (33, .putfield 31), (36, .iload_n 2), (37, .bipush 6), (39, .if_icmp .ne 8), (42, .aload_n 0), (43, .invokevirtual 79), (46, .return_), (47, .iload_n 2), (48, .iconst 5), (49, .if_icmp .ne 7), (52, .iconst 0), (53, .goto 17), (56, .aload_n 0), (57, .iload_n 2), (58, .iconst 4), (59, .if_icmp .ne 7), (62, .iconst 1), (63, .goto 4), (66, .iconst 0), (67, .invokevirtual 82), (70, .istore_n 3), (71, .iconst 0), (72, .istore 4), (74, .iload_n 2), (75, .iconst 4), (76, .if_icmp .ne 19), (79, .aload_n 0), (80, .bipush 47), (82, .invokevirtual 49), (85, .aload_n 0), (86, .iconst 1), (87, .invokevirtual 82), (90, .istore 4), (92, .goto 19), (95, .iload_n 2), (96, .iconst 1), (97, .if_icmp .eq 8), (100, .iload_n 2), (101, .iconst 3), (102, .if_icmp .ne 9), (105, .aload_n 0), (106, .invokevirtual 85), (109, .istore 4), (111, .aload_n 0), (112, .getfield 34), (115, .ifCond .ne 15), (118, .aload_n 0), (119, .getfield 18), (122, .iload_n 2), (123, .iload_n 3), (124, .iload 4), (126, .invokevirtual 88), (129, .pop), (130, .return_)]
/-- SectionTemplates$Reader.kindBy(I)I -/
def am_cd36 : List (Nat × Instr) := [(0, .iload_n 0), (1, .lookupswitch 72 #[(63, 69), (66, 61), (74, 63), (76, 59), (83, 65), (87, 67)]), (60, .iconst 1), (61, .ireturn), (62, .iconst 2), (63, .ireturn), (64, .iconst 3), (65, .ireturn), (66, .iconst 4), (67, .ireturn), (68, .iconst 5), (69, .ireturn), (70, .bipush 6), (72, .ireturn), (73, .iconst (-1)), (74, .ireturn)]
/-- SectionTemplates$Templates.hasAllSteps()Z -/
def am_cd37 : List (Nat × Instr) := [(0, .aload_n 0), (1, .getfield 34), (4, .bipush 12), (6, .if_icmp .lt 7), (9, .iconst 1), (10, .goto 4), (13, .iconst 0), (14, .ireturn)]
/-- SectionTemplates$Reader.choice()V -/
def am_cd38 : List (Nat × Instr) := [(0, .aload_n 0), (1, .invokevirtual 38), (4, .aload_n 0), (5, .invokevirtual 59), (8, .invokestatic 92), (11, .istore_n 1), (12, .iload_n 1), (13, .iconst (-1)), (14, .if_icmp .ne 9), (17, .aload_n 0), (18, .iconst 1), (19, .putfield 34), (22, .return_), (23, .aload_n 0), (24, .dup), (25, .getfield 31), (28, .iconst 1), (29, .iadd), (30, .putfield 31), (33, .iload_n 1), (34, .bipush 9), (36, .if_icmp .ne 11), (39, .aload_n 0), (40, .iconst 0), (41, .invokevirtual 82), (44, .goto 4), (47, .iconst 0), (48, .istore_n 2), (49, .aload_n 0), (50, .invokevirtual 95), (53, .aload_n 0), (54, .getfield 34), (57, .ifCond .ne 17), (60, .aload_n 0), (61, .aload_n 0), (62, .getfield 18), (65, .iload_n 1), (66, .iload_n 2), (67, .iconst 0), (68, .invokevirtual 88), (71, .invokevirtual 98), (74, .return_)]
/-- SectionTemplates$Reader.conditionBy(I)I -/
def am_cd39 : List (Nat × Instr) := [(0, .iload_n 0), (1, .lookupswitch 55 #[(99, 43), (102, 46), (104, 52), (111, 49)]), (44, .bipush 6), (46, .ireturn), (47, .bipush 7), (49, .ireturn), (50, .bipush 8), (52, .ireturn), (53, .bipush 9), (55, .ireturn), (56, .iconst (-1)), (57, .ireturn)]
/-- SectionTemplates$Reader.number(I)I -/
def am_cd40 : List (Nat × Instr) := [(0, .aload_n 0), (1, .invokevirtual 38), (4, .aload_n 0), (5, .getfield 34), (8, .ifCond .eq 5), (11, .iconst 0), (12, .ireturn), (13, .aload_n 0), (14, .getfield 31), (17, .istore_n 2), (18, .aload_n 0), (19, .invokevirtual 59), (22, .istore_n 3), (23, .iconst 0), (24, .istore 4), (26, .aload_n 0), (27, .getfield 31), (30, .aload_n 0), (31, .getfield 22), (34, .if_icmp .ge 46), (37, .aload_n 0), (38, .invokevirtual 59), (41, .invokestatic 113), (44, .ifCond .eq 36), (47, .iload 4), (49, .bipush 10), (51, .imul), (52, .aload_n 0), (53, .invokevirtual 59), (56, .iadd), (57, .bipush 48), (59, .isub), (60, .ldc 117), (62, .invokestatic 118), (65, .istore 4), (67, .aload_n 0), (68, .dup), (69, .getfield 31), (72, .iconst 1), (73, .iadd), (74, .putfield 31), (77, .goto (-51)), (80, .aload_n 0), (81, .getfield 31), (84, .iload_n 2), (85, .isub), (86, .istore 5), (88, .iload 5), (90, .iconst 1), (91, .if_icmp .le 13), (94, .iload_n 3), (95, .bipush 48), (97, .if_icmp .ne 7), (100, .iconst 1), (101, .goto 4), (104, .iconst 0), (105, .istore 6), (107, .iload 5), (109, .iconst 1), (110, .if_icmp .lt 20), (113, .iload 5), (115, .iconst 5), (116, .if_icmp .gt 14), (119, .iload 6), (121, .ifCond .ne 9), (124, .iload 4), (126, .iload_n 1), (127, .if_icmp .ge 13), (130, .aload_n 0), (131, .iconst 1), (132, .putfield 34), (135, .aload_n 0), (136, .iload_n 2), (137, .putfield 31), (140, .iload 4), (142, .ireturn)]
/-- SectionTemplates$Reader.isDigit(I)Z -/
def am_cd41 : List (Nat × Instr) := [(0, .iload_n 0), (1, .bipush 48), (3, .if_icmp .lt 13), (6, .iload_n 0), (7, .bipush 57), (9, .if_icmp .gt 7), (12, .iconst 1), (13, .goto 4), (16, .iconst 0), (17, .ireturn)]
/-- SectionTemplates$Templates.addStep(III)I -/
def am_cd42 : List (Nat × Instr) := [(0, .aload_n 0), (1, .dup), (2, .getfield 34), (5, .iconst 1), (6, .iadd), (7, .putfield 34), (10, .aload_n 0), (11, .iload_n 1), (12, .iload_n 2), (13, .iload_n 3), (14, .invokevirtual 37), (17, .ireturn)]
/-- SectionTemplates$Reader.signedNumber()I -/
def am_cd43 : List (Nat × Instr) := [(0, .aload_n 0), (1, .invokevirtual 38), (4, .aload_n 0), (5, .getfield 34), (8, .ifCond .ne 12), (11, .aload_n 0), (12, .invokevirtual 59), (15, .bipush 45), (17, .if_icmp .eq 9), (20, .aload_n 0), (21, .iconst 0), (22, .invokevirtual 82), (25, .ireturn), (26, .aload_n 0), (27, .dup), (28, .getfield 31), (31, .iconst 1), (32, .iadd), (33, .putfield 31), (36, .aload_n 0), (37, .iconst 0), (38, .invokevirtual 82), (41, .ineg), (42, .ireturn)]
/-- SectionTemplates$Reader.forget()V -/
def am_cd44 : List (Nat × Instr) := [(0, .aload_n 0), (1, .iconst 0), (2, .putfield 22), (5, .return_)]
/-- SectionTemplates$Section.forget()V -/
def am_cd45 : List (Nat × Instr) := [(0, .aload_n 0), (1, .iconst 0), (2, .putfield 31), (5, .aload_n 0), (6, .iconst 0), (7, .putfield 35), (10, .return_)]
/-- SectionTemplates.ground(II)Z -/
def am_cd46 : List (Nat × Instr) := [(0, .aload_n 0), (1, .getfield 31), (4, .iload_n 1), (5, .iload_n 2), (6, .invokevirtual 113), (9, .ireturn)]
/-- SectionTemplates$Ground.add(II)Z -/
def am_cd47 : List (Nat × Instr) := [(0, .iload_n 1), (1, .ldc 18), (3, .ldc 19), (5, .invokestatic 20), (8, .ifCond .eq 14), (11, .iload_n 2), (12, .ldc 18), (14, .ldc 19), (16, .invokestatic 20), (19, .ifCond .ne 5), (22, .iconst 0), (23, .ireturn), (24, .aload_n 0), (25, .getfield 24), (28, .bipush 12), (30, .if_icmp .ge 25), (33, .aload_n 0), (34, .getfield 24), (37, .ifCond .le 20), (40, .iload_n 1), (41, .aload_n 0), (42, .getfield 9), (45, .aload_n 0), (46, .getfield 24), (49, .iconst 1), (50, .isub), (51, .iaload), (52, .if_icmp .gt 5), (55, .iconst 0), (56, .ireturn), (57, .aload_n 0), (58, .getfield 9), (61, .aload_n 0), (62, .getfield 24), (65, .iload_n 1), (66, .iastore), (67, .aload_n 0), (68, .getfield 15), (71, .aload_n 0), (72, .getfield 24), (75, .iload_n 2), (76, .iastore), (77, .aload_n 0), (78, .dup), (79, .getfield 24), (82, .iconst 1), (83, .iadd), (84, .putfield 24), (87, .iconst 1), (88, .ireturn)]
/-- SectionTemplates.within(III)Z -/
def am_cd48 : List (Nat × Instr) := [(0, .iload_n 0), (1, .iload_n 1), (2, .if_icmp .lt 12), (5, .iload_n 0), (6, .iload_n 2), (7, .if_icmp .gt 7), (10, .iconst 1), (11, .goto 4), (14, .iconst 0), (15, .ireturn)]
/-- SectionTemplates.clear()V -/
def am_cd49 : List (Nat × Instr) := [(0, .aload_n 0), (1, .getfield 31), (4, .invokevirtual 117), (7, .return_)]
/-- SectionTemplates$Ground.empty()V -/
def am_cd50 : List (Nat × Instr) := [(0, .aload_n 0), (1, .iconst 0), (2, .putfield 24), (5, .return_)]
/-- SectionTemplates.axis(II)Z -/
def am_cd51 : List (Nat × Instr) := [(0, .iload_n 1), (1, .ldc 120), (3, .ldc 121), (5, .invokestatic 122), (8, .ifCond .eq 16), (11, .iload_n 2), (12, .sipush (-150)), (15, .sipush 150), (18, .invokestatic 122), (21, .ifCond .ne 5), (24, .iconst 0), (25, .ireturn), (26, .aload_n 0), (27, .iload_n 1), (28, .putfield 126), (31, .aload_n 0), (32, .iload_n 2), (33, .putfield 129), (36, .iconst 1), (37, .ireturn)]
/-- SectionTemplates.land(II)Z -/
def am_cd52 : List (Nat × Instr) := [(0, .iload_n 1), (1, .invokestatic 132), (4, .ifCond .eq 13), (7, .iload_n 2), (8, .iconst 0), (9, .ldc 38), (11, .invokestatic 122), (14, .ifCond .ne 5), (17, .iconst 0), (18, .ireturn), (19, .iload_n 1), (20, .iconst (-1)), (21, .if_icmp .ne 11), (24, .aload_n 0), (25, .iload_n 2), (26, .putfield 39), (29, .goto 8), (32, .aload_n 0), (33, .iload_n 2), (34, .putfield 43), (37, .iconst 1), (38, .ireturn)]
/-- SectionTemplates.isSide(I)Z -/
def am_cd53 : List (Nat × Instr) := [(0, .iload_n 0), (1, .iconst (-1)), (2, .if_icmp .eq 8), (5, .iload_n 0), (6, .iconst 1), (7, .if_icmp .ne 7), (10, .iconst 1), (11, .goto 4), (14, .iconst 0), (15, .ireturn)]
/-- SectionTemplates.run(I)I -/
def am_cd54 : List (Nat × Instr) := [(0, .iload_n 1), (1, .ifCond .lt 14), (4, .iload_n 1), (5, .aload_n 0), (6, .getfield 12), (9, .getfield 110), (12, .if_icmp .lt 5), (15, .iconst (-1)), (16, .ireturn), (17, .aload_n 0), (18, .getfield 35), (21, .aload_n 0), (22, .getfield 31), (25, .invokevirtual 135), (28, .aload_n 0), (29, .getfield 56), (32, .aload_n 0), (33, .getfield 126), (36, .i2l), (37, .ldc2_w 139), (40, .lmul), (41, .invokevirtual 141), (44, .aload_n 0), (45, .getfield 72), (48, .invokevirtual 145), (51, .aload_n 0), (52, .getfield 65), (55, .aload_n 0), (56, .getfield 56), (59, .getfield 146), (62, .aload_n 0), (63, .getfield 12), (66, .iload_n 1), (67, .aload_n 0), (68, .getfield 129), (71, .invokevirtual 150), (74, .aload_n 0), (75, .getfield 65), (78, .aload_n 0), (79, .getfield 56), (82, .getfield 154), (85, .aload_n 0), (86, .getfield 12), (89, .iload_n 1), (90, .aload_n 0), (91, .getfield 129), (94, .invokevirtual 150), (97, .aload_n 0), (98, .getfield 56), (101, .invokevirtual 157), (104, .ireturn)]
/-- SectionTemplates$Ground.copy(LSectionTemplates$Ground;)V -/
def am_cd55 : List (Nat × Instr) := [(0, .aload_n 0), (1, .aload_n 1), (2, .getfield 24), (5, .putfield 24), (8, .iconst 0), (9, .istore_n 2), (10, .iload_n 2), (11, .bipush 12), (13, .if_icmp .ge 33), (16, .aload_n 0), (17, .getfield 9), (20, .iload_n 2), (21, .aload_n 1), (22, .getfield 9), (25, .iload_n 2), (26, .iaload), (27, .iastore), (28, .aload_n 0), (29, .getfield 15), (32, .iload_n 2), (33, .aload_n 1), (34, .getfield 15), (37, .iload_n 2), (38, .iaload), (39, .iastore), (40, .iinc 2 1), (43, .goto (-33)), (46, .return_)]
/-- SectionTemplates$Section.begin(J)V -/
def am_cd56 : List (Nat × Instr) := [(0, .aload_n 0), (1, .getfield 14), (4, .lload_n 1), (5, .invokevirtual 27), (8, .aload_n 0), (9, .getfield 20), (12, .lload_n 1), (13, .invokevirtual 27), (16, .aload_n 0), (17, .iconst 1), (18, .putfield 31), (21, .aload_n 0), (22, .iconst 0), (23, .putfield 35), (26, .return_)]
/-- SectionTemplates$Side.begin(J)V -/
def am_cd57 : List (Nat × Instr) := [(0, .aload_n 0), (1, .getfield 9), (4, .iconst 0), (5, .iconst 0), (6, .iastore), (7, .aload_n 0), (8, .getfield 15), (11, .iconst 0), (12, .lconst 0), (13, .lastore), (14, .aload_n 0), (15, .getfield 19), (18, .iconst 0), (19, .lload_n 1), (20, .lastore), (21, .aload_n 0), (22, .getfield 22), (25, .iconst 0), (26, .lconst 0), (27, .lastore), (28, .aload_n 0), (29, .getfield 25), (32, .iconst 0), (33, .lconst 1), (34, .lastore), (35, .aload_n 0), (36, .iconst 0), (37, .putfield 44), (40, .aload_n 0), (41, .iconst 0), (42, .putfield 47), (45, .return_)]
/-- SectionTemplates$Areas.forget()V -/
def am_cd58 : List (Nat × Instr) := [(0, .aload_n 0), (1, .iconst 0), (2, .putfield 59), (5, .return_)]
/-- SectionTemplates$Walker.walk(LSectionTemplates$Side;LSectionTemplates$Templates;II)V -/
def am_cd59 : List (Nat × Instr) := [(0, .aload_n 0), (1, .aload_n 1), (2, .putfield 44), (5, .aload_n 2), (6, .iload_n 3), (7, .invokevirtual 47), (10, .istore 5), (12, .aload_n 2), (13, .iload_n 3), (14, .invokevirtual 53), (17, .istore 6), (19, .iconst 0), (20, .istore 7), (22, .iload 7), (24, .bipush 24), (26, .if_icmp .ge 193), (29, .iload 5), (31, .iload 6), (33, .if_icmp .ge 186), (36, .aload_n 0), (37, .getfield 44), (40, .getfield 56), (43, .ifCond .ne 176), (46, .aload_n 2), (47, .iload 5), (49, .invokevirtual 62), (52, .istore 8), (54, .aload_n 2), (55, .iload 5), (57, .invokevirtual 65), (60, .istore 9), (62, .aload_n 2), (63, .iload 5), (65, .invokevirtual 68), (68, .istore 10), (70, .iload 5), (72, .iconst 1), (73, .iadd), (74, .istore 11), (76, .iload 8), (78, .bipush 10), (80, .if_icmp .ne 14), (83, .aload_n 2), (84, .iload 5), (86, .invokevirtual 71), (89, .istore 11), (91, .goto 118), (94, .iload 8), (96, .bipush 6), (98, .if_icmp .lt 46), (101, .aload_n 0), (102, .aload_n 0), (103, .iload 8), (105, .iload 9), (107, .i2l), (108, .invokevirtual 74), (111, .iload 10), (113, .iconst 1), (114, .if_icmp .ne 7), (117, .iconst 1), (118, .goto 4), (121, .iconst 0), (122, .invokevirtual 78), (125, .ifCond .eq 8), (128, .iload 11), (130, .goto 9), (133, .aload_n 2), (134, .iload 5), (136, .invokevirtual 71), (139, .istore 11), (141, .goto 68), (144, .iload 8), (146, .iconst 4), (147, .if_icmp .ne 16), (150, .aload_n 0), (151, .iload 9), (153, .i2l), (154, .iload 10), (156, .i2l), (157, .invokevirtual 82), (160, .goto 49), (163, .iload 8), (165, .iconst 5), (166, .if_icmp .ne 10), (169, .aload_n 0), (170, .invokevirtual 86), (173, .goto 36), (176, .aload_n 0), (177, .iload 8), (179, .iload 9), (181, .i2l), (182, .iload 8), (184, .iconst 2), (185, .if_icmp .ne 18), (188, .aload_n 0), (189, .getfield 44), (192, .getfield 89), (195, .ineg), (196, .iload 4), (198, .imul), (199, .i2l), (200, .goto 6), (203, .iload 10), (205, .i2l), (206, .invokevirtual 93), (209, .iload 11), (211, .istore 5), (213, .iinc 7 1), (216, .goto (-194)), (219, .return_)]
/-- SectionTemplates$Templates.startOf(I)I -/
def am_cd60 : List (Nat × Instr) := [(0, .iload_n 1), (1, .ifCond .le 23), (4, .iload_n 1), (5, .aload_n 0), (6, .getfield 24), (9, .arraylength), (10, .if_icmp .gt 14), (13, .aload_n 0), (14, .getfield 24), (17, .iload_n 1), (18, .iconst 1), (19, .isub), (20, .iaload), (21, .goto 4), (24, .iconst 0), (25, .ireturn)]
/-- SectionTemplates$Templates.endOf(I)I -/
def am_cd61 : List (Nat × Instr) := [(0, .iload_n 1), (1, .ifCond .lt 21), (4, .iload_n 1), (5, .aload_n 0), (6, .getfield 24), (9, .arraylength), (10, .if_icmp .ge 12), (13, .aload_n 0), (14, .getfield 24), (17, .iload_n 1), (18, .iaload), (19, .goto 4), (22, .iconst 0), (23, .ireturn)]
/-- SectionTemplates$Templates.firstOf(I)I -/
def am_cd62 : List (Nat × Instr) := [(0, .aload_n 0), (1, .getfield 15), (4, .aload_n 0), (5, .iload_n 1), (6, .invokevirtual 41), (9, .iaload), (10, .ireturn)]
/-- SectionTemplates$Templates.secondOf(I)I -/
def am_cd63 : List (Nat × Instr) := [(0, .aload_n 0), (1, .getfield 18), (4, .aload_n 0), (5, .iload_n 1), (6, .invokevirtual 41), (9, .iaload), (10, .ireturn)]
/-- SectionTemplates$Templates.targetOf(I)I -/
def am_cd64 : List (Nat × Instr) := [(0, .aload_n 0), (1, .getfield 21), (4, .aload_n 0), (5, .iload_n 1), (6, .invokevirtual 41), (9, .iaload), (10, .ireturn)]
/-- SectionTemplates$Walker.holds(IJ)Z -/
def am_cd65 : List (Nat × Instr) := [(0, .aload_n 0), (1, .invokevirtual 106), (4, .lstore 4), (6, .iload_n 1), (7, .tableswitch 64 6 8 #[25, 38, 51]), (32, .lload 4), (34, .lconst 0), (35, .lcmp), (36, .ifCond .le 7), (39, .iconst 1), (40, .goto 4), (43, .iconst 0), (44, .ireturn), (45, .lload 4), (47, .lconst 0), (48, .lcmp), (49, .ifCond .ge 7), (52, .iconst 1), (53, .goto 4), (56, .iconst 0), (57, .ireturn), (58, .lload 4), (60, .lconst 0), (61, .lcmp), (62, .ifCond .ne 7), (65, .iconst 1), (66, .goto 4), (69, .iconst 0), (70, .ireturn), (71, .lload 4), (73, .invokestatic 110), (76, .lload_n 2), (77, .aload_n 0), (78, .invokevirtual 116), (81, .lmul), (82, .lcmp), (83, .ifCond .le 7), (86, .iconst 1), (87, .goto 4), (90, .iconst 0), (91, .ireturn)]
/-- SectionTemplates$Walker.gapUp()J -/
def am_cd66 : List (Nat × Instr) := [(0, .aload_n 0), (1, .getfield 44), (4, .getfield 89), (7, .i2l), (8, .aload_n 0), (9, .getfield 44), (12, .aload_n 0), (13, .getfield 44), (16, .getfield 119), (19, .invokevirtual 122), (22, .lmul), (23, .lstore_n 1), (24, .ldc2_w 97), (27, .aload_n 0), (28, .getfield 30), (31, .lload_n 1), (32, .invokevirtual 126), (35, .lmul), (36, .aload_n 0), (37, .getfield 44), (40, .aload_n 0), (41, .getfield 44), (44, .getfield 119), (47, .invokevirtual 131), (50, .aload_n 0), (51, .getfield 30), (54, .lload_n 1), (55, .invokevirtual 134), (58, .lmul), (59, .lsub), (60, .lreturn)]
/-- SectionTemplates$Side.out(I)J -/
def am_cd67 : List (Nat × Instr) := [(0, .aload_n 0), (1, .getfield 15), (4, .aload_n 0), (5, .iload_n 1), (6, .invokevirtual 70), (9, .laload), (10, .lreturn)]
/-- SectionTemplates$Side.inside(I)I -/
def am_cd68 : List (Nat × Instr) := [(0, .iconst 0), (1, .iload_n 1), (2, .bipush 12), (4, .invokestatic 91), (7, .invokestatic 74), (10, .ireturn)]
/-- SectionTemplates$Ground.upper(J)J -/
def am_cd69 : List (Nat × Instr) := [(0, .aload_n 0), (1, .getfield 24), (4, .ifCond .ne 5), (7, .lconst 0), (8, .lreturn), (9, .aload_n 0), (10, .lload_n 1), (11, .invokevirtual 28), (14, .istore_n 3), (15, .iload_n 3), (16, .ifCond .ne 11), (19, .aload_n 0), (20, .getfield 15), (23, .iconst 0), (24, .iaload), (25, .i2l), (26, .lreturn), (27, .aload_n 0), (28, .getfield 15), (31, .iload_n 3), (32, .iconst 1), (33, .isub), (34, .iaload), (35, .i2l), (36, .lstore 4), (38, .iload_n 3), (39, .aload_n 0), (40, .getfield 24), (43, .if_icmp .lt 6), (46, .lload 4), (48, .lreturn), (49, .lload 4), (51, .aload_n 0), (52, .getfield 9), (55, .iload_n 3), (56, .iaload), (57, .aload_n 0), (58, .getfield 9), (61, .iload_n 3), (62, .iconst 1), (63, .isub), (64, .iaload), (65, .isub), (66, .i2l), (67, .lmul), (68, .aload_n 0), (69, .getfield 15), (72, .iload_n 3), (73, .iaload), (74, .i2l), (75, .lload 4), (77, .lsub), (78, .lload_n 1), (79, .aload_n 0), (80, .getfield 9), (83, .iload_n 3), (84, .iconst 1), (85, .isub), (86, .iaload), (87, .i2l), (88, .lsub), (89, .lmul), (90, .ladd), (91, .lreturn)]
/-- SectionTemplates$Ground.pointsUpTo(J)I -/
def am_cd70 : List (Nat × Instr) := [(0, .iconst 0), (1, .istore_n 3), (2, .iconst 0), (3, .istore 4), (5, .iload 4), (7, .aload_n 0), (8, .getfield 24), (11, .if_icmp .ge 25), (14, .aload_n 0), (15, .getfield 9), (18, .iload 4), (20, .iaload), (21, .i2l), (22, .lload_n 1), (23, .lcmp), (24, .ifCond .gt 12), (27, .iinc 3 1), (30, .iinc 4 1), (33, .goto (-28)), (36, .iload_n 3), (37, .ireturn)]
/-- SectionTemplates$Side.height(I)J -/
def am_cd71 : List (Nat × Instr) := [(0, .aload_n 0), (1, .getfield 19), (4, .aload_n 0), (5, .iload_n 1), (6, .invokevirtual 70), (9, .laload), (10, .lreturn)]
/-- SectionTemplates$Ground.lower(J)J -/
def am_cd72 : List (Nat × Instr) := [(0, .aload_n 0), (1, .lload_n 1), (2, .invokevirtual 28), (5, .istore_n 3), (6, .iload_n 3), (7, .ifCond .le 30), (10, .iload_n 3), (11, .aload_n 0), (12, .getfield 24), (15, .if_icmp .ge 22), (18, .aload_n 0), (19, .getfield 9), (22, .iload_n 3), (23, .iaload), (24, .aload_n 0), (25, .getfield 9), (28, .iload_n 3), (29, .iconst 1), (30, .isub), (31, .iaload), (32, .isub), (33, .i2l), (34, .goto 4), (37, .lconst 1), (38, .lreturn)]
/-- java/lang/Math.abs(J)J -/
def am_cd73 : List (Nat × Instr) := [(0, .lload_n 0), (1, .lconst 0), (2, .lcmp), (3, .ifCond .ge 8), (6, .lload_n 0), (7, .lneg), (8, .goto 4), (11, .lload_n 0), (12, .lreturn)]
/-- SectionTemplates$Walker.gapLow()J -/
def am_cd74 : List (Nat × Instr) := [(0, .ldc2_w 97), (3, .aload_n 0), (4, .getfield 30), (7, .aload_n 0), (8, .getfield 44), (11, .getfield 89), (14, .i2l), (15, .aload_n 0), (16, .getfield 44), (19, .aload_n 0), (20, .getfield 44), (23, .getfield 119), (26, .invokevirtual 122), (29, .lmul), (30, .invokevirtual 134), (33, .lmul), (34, .lreturn)]
/-- SectionTemplates$Walker.choose(ZZ)Z -/
def am_cd75 : List (Nat × Instr) := [(0, .aload_n 0), (1, .getfield 26), (4, .iload_n 1), (5, .ifCond .eq 7), (8, .iconst 1), (9, .goto 12), (12, .iload_n 2), (13, .ifCond .eq 7), (16, .iconst 2), (17, .goto 4), (20, .iconst 0), (21, .invokevirtual 103), (24, .iload_n 1), (25, .ireturn)]
/-- SectionTemplates$Section.addChoice(I)V -/
def am_cd76 : List (Nat × Instr) := [(0, .aload_n 0), (1, .getfield 35), (4, .aload_n 0), (5, .getfield 23), (8, .arraylength), (9, .if_icmp .ge 23), (12, .aload_n 0), (13, .getfield 23), (16, .aload_n 0), (17, .getfield 35), (20, .iload_n 1), (21, .iastore), (22, .aload_n 0), (23, .dup), (24, .getfield 35), (27, .iconst 1), (28, .iadd), (29, .putfield 35), (32, .return_)]
/-- SectionTemplates$Walker.slope(JJ)V -/
def am_cd77 : List (Nat × Instr) := [(0, .aload_n 0), (1, .invokevirtual 106), (4, .lstore 5), (6, .lload 5), (8, .lconst 0), (9, .invokestatic 149), (12, .istore 7), (14, .aload_n 0), (15, .getfield 34), (18, .aload_n 0), (19, .getfield 14), (22, .lload 5), (24, .invokestatic 110), (27, .aload_n 0), (28, .invokevirtual 116), (31, .invokevirtual 140), (34, .aload_n 0), (35, .iload 7), (37, .lload_n 1), (38, .lload_n 3), (39, .invokevirtual 155), (42, .aload_n 0), (43, .getfield 34), (46, .aload_n 0), (47, .getfield 23), (50, .aload_n 0), (51, .getfield 44), (54, .aload_n 0), (55, .getfield 44), (58, .getfield 119), (61, .invokevirtual 122), (64, .lconst 1), (65, .invokevirtual 140), (68, .aload_n 0), (69, .getfield 34), (72, .aload_n 0), (73, .getfield 20), (76, .aload_n 0), (77, .getfield 44), (80, .getfield 137), (83, .aload_n 0), (84, .getfield 23), (87, .iconst (-1)), (88, .invokevirtual 158), (91, .aload_n 0), (92, .getfield 34), (95, .aload_n 0), (96, .getfield 23), (99, .iload 7), (101, .i2l), (102, .lload_n 1), (103, .lmul), (104, .lload_n 3), (105, .invokevirtual 140), (108, .aload_n 0), (109, .getfield 34), (112, .aload_n 0), (113, .getfield 20), (116, .aload_n 0), (117, .getfield 20), (120, .aload_n 0), (121, .getfield 23), (124, .iconst 0), (125, .invokevirtual 161), (128, .aload_n 0), (129, .getfield 34), (132, .aload_n 0), (133, .getfield 23), (136, .aload_n 0), (137, .getfield 44), (140, .aload_n 0), (141, .getfield 44), (144, .getfield 119), (147, .invokevirtual 131), (150, .ldc2_w 97), (153, .invokevirtual 140), (156, .aload_n 0), (157, .getfield 34), (160, .aload_n 0), (161, .getfield 44), (164, .getfield 146), (167, .aload_n 0), (168, .getfield 23), (171, .aload_n 0), (172, .getfield 20), (175, .iconst 1), (176, .invokevirtual 158), (179, .aload_n 0), (180, .getfield 44), (183, .iconst 4), (184, .lconst 0), (185, .lconst 0), (186, .iload 7), (188, .i2l), (189, .lload_n 1), (190, .lmul), (191, .lload_n 3), (192, .invokevirtual 99), (195, .aload_n 0), (196, .getfield 44), (199, .iconst 1), (200, .putfield 56), (203, .return_)]
/-- java/lang/Long.compare(JJ)I -/
def am_cd78 : List (Nat × Instr) := [(0, .lload_n 0), (1, .lload_n 2), (2, .lcmp), (3, .ifCond .ge 7), (6, .iconst (-1)), (7, .goto 14), (10, .lload_n 0), (11, .lload_n 2), (12, .lcmp), (13, .ifCond .ne 7), (16, .iconst 0), (17, .goto 4), (20, .iconst 1), (21, .ireturn)]
/-- SectionTemplates$Arithmetic.ratio(LSectionTemplates$Fraction;JJ)V -/
def am_cd79 : List (Nat × Instr) := [(0, .lload_n 2), (1, .invokestatic 50), (4, .lstore 6), (6, .lload 6), (8, .lload 4), (10, .invokestatic 56), (13, .lstore 8), (15, .lload 4), (17, .lconst 0), (18, .lcmp), (19, .ifCond .le 10), (22, .lload 8), (24, .lconst 0), (25, .lcmp), (26, .ifCond .gt 25), (29, .aload_n 1), (30, .iconst 0), (31, .putfield 60), (34, .aload_n 1), (35, .getfield 66), (38, .lconst 0), (39, .invokevirtual 67), (42, .aload_n 1), (43, .getfield 71), (46, .lconst 1), (47, .invokevirtual 67), (50, .return_), (51, .aload_n 1), (52, .lload_n 2), (53, .lconst 0), (54, .invokestatic 74), (57, .putfield 60), (60, .aload_n 1), (61, .getfield 66), (64, .lload 6), (66, .lload 8), (68, .ldiv), (69, .invokevirtual 67), (72, .aload_n 1), (73, .getfield 71), (76, .lload 4), (78, .lload 8), (80, .ldiv), (81, .invokevirtual 67), (84, .return_)]
/-- SectionTemplates$Arithmetic.commonOf(JJ)J -/
def am_cd80 : List (Nat × Instr) := [(0, .lload_n 0), (1, .lstore 4), (3, .lload_n 2), (4, .lstore 6), (6, .iconst 0), (7, .istore 8), (9, .iload 8), (11, .ldc 118), (13, .if_icmp .ge 31), (16, .lload 6), (18, .lconst 0), (19, .lcmp), (20, .ifCond .le 24), (23, .lload 4), (25, .lload 6), (27, .lrem), (28, .lstore 9), (30, .lload 6), (32, .lstore 4), (34, .lload 9), (36, .lstore 6), (38, .iinc 8 1), (41, .goto (-32)), (44, .lload 4), (46, .lreturn)]
/-- SectionTemplates$Walker.meet(IJJ)V -/
def am_cd81 : List (Nat × Instr) := [(0, .aload_n 0), (1, .getfield 44), (4, .aload_n 0), (5, .getfield 44), (8, .getfield 119), (11, .invokevirtual 122), (14, .lstore 6), (16, .aload_n 0), (17, .getfield 44), (20, .aload_n 0), (21, .getfield 44), (24, .getfield 119), (27, .invokevirtual 131), (30, .lstore 8), (32, .lload 6), (34, .lstore 10), (36, .aload_n 0), (37, .getfield 34), (40, .aload_n 0), (41, .getfield 23), (44, .lload 4), (46, .lload_n 2), (47, .invokevirtual 140), (50, .iconst 0), (51, .istore 12), (53, .iload 12), (55, .bipush 12), (57, .if_icmp .gt 198), (60, .aload_n 0), (61, .getfield 30), (64, .aload_n 0), (65, .getfield 44), (68, .getfield 89), (71, .lload 10), (73, .invokevirtual 165), (76, .istore 13), (78, .iload 13), (80, .ifCond .ge 6), (83, .goto 172), (86, .aload_n 0), (87, .getfield 30), (90, .iload 13), (92, .aload_n 0), (93, .getfield 44), (96, .getfield 89), (99, .invokevirtual 169), (102, .lstore 14), (104, .iload_n 1), (105, .i2l), (106, .lload 4), (108, .lmul), (109, .ldc2_w 97), (112, .aload_n 0), (113, .getfield 30), (116, .iload 13), (118, .invokevirtual 173), (121, .lmul), (122, .lload 8), (124, .lsub), (125, .lmul), (126, .ldc2_w 97), (129, .lload_n 2), (130, .lmul), (131, .lload 14), (133, .lload 6), (135, .lsub), (136, .lmul), (137, .lsub), (138, .lstore 16), (140, .aload_n 0), (141, .getfield 34), (144, .aload_n 0), (145, .getfield 20), (148, .lload 16), (150, .ldc2_w 97), (153, .lload 4), (155, .lmul), (156, .invokevirtual 140), (159, .lload 16), (161, .lconst 0), (162, .lcmp), (163, .ifCond .gt 63), (166, .aload_n 0), (167, .getfield 34), (170, .aload_n 0), (171, .getfield 20), (174, .aload_n 0), (175, .getfield 14), (178, .aload_n 0), (179, .getfield 20), (182, .iconst (-1)), (183, .invokevirtual 158), (186, .aload_n 0), (187, .getfield 34), (190, .aload_n 0), (191, .getfield 23), (194, .lload 14), (196, .lload 10), (198, .lsub), (199, .lconst 1), (200, .invokevirtual 140), (203, .aload_n 0), (204, .getfield 34), (207, .aload_n 0), (208, .getfield 23), (211, .aload_n 0), (212, .getfield 23), (215, .aload_n 0), (216, .getfield 20), (219, .iconst 1), (220, .invokevirtual 161), (223, .goto 32), (226, .aload_n 0), (227, .getfield 34), (230, .aload_n 0), (231, .getfield 14), (234, .lload 16), (236, .ldc2_w 97), (239, .lload 4), (241, .lmul), (242, .invokevirtual 140), (245, .lload 14), (247, .lstore 10), (249, .iinc 12 1), (252, .goto (-199)), (255, .aload_n 0), (256, .getfield 34), (259, .aload_n 0), (260, .getfield 14), (263, .aload_n 0), (264, .getfield 14), (267, .aload_n 0), (268, .getfield 23), (271, .iconst 0), (272, .invokevirtual 161), (275, .aload_n 0), (276, .getfield 34), (279, .aload_n 0), (280, .getfield 20), (283, .lload 10), (285, .lconst 1), (286, .invokevirtual 140), (289, .aload_n 0), (290, .getfield 34), (293, .aload_n 0), (294, .getfield 44), (297, .getfield 137), (300, .aload_n 0), (301, .getfield 20), (304, .aload_n 0), (305, .getfield 14), (308, .iconst 1), (309, .invokevirtual 158), (312, .return_)]
/-- SectionTemplates$Ground.nextPoint(IJ)I -/
def am_cd82 : List (Nat × Instr) := [(0, .iconst (-1)), (1, .istore 4), (3, .iconst 0), (4, .istore 5), (6, .iload 5), (8, .aload_n 0), (9, .getfield 24), (12, .if_icmp .ge 66), (15, .iload_n 1), (16, .aload_n 0), (17, .getfield 9), (20, .iload 5), (22, .iaload), (23, .imul), (24, .i2l), (25, .lload_n 2), (26, .lcmp), (27, .ifCond .le 7), (30, .iconst 1), (31, .goto 4), (34, .iconst 0), (35, .istore 6), (37, .iload 6), (39, .ifCond .eq 33), (42, .iload 4), (44, .ifCond .lt 24), (47, .iload_n 1), (48, .aload_n 0), (49, .getfield 9), (52, .iload 5), (54, .iaload), (55, .imul), (56, .iload_n 1), (57, .aload_n 0), (58, .getfield 9), (61, .iload 4), (63, .iaload), (64, .imul), (65, .if_icmp .ge 7), (68, .iload 5), (70, .istore 4), (72, .iinc 5 1), (75, .goto (-69)), (78, .iload 4), (80, .ireturn)]
/-- SectionTemplates$Ground.outOf(II)J -/
def am_cd83 : List (Nat × Instr) := [(0, .iload_n 1), (1, .ifCond .lt 23), (4, .iload_n 1), (5, .aload_n 0), (6, .getfield 24), (9, .if_icmp .ge 15), (12, .iload_n 2), (13, .aload_n 0), (14, .getfield 9), (17, .iload_n 1), (18, .iaload), (19, .imul), (20, .i2l), (21, .goto 4), (24, .lconst 0), (25, .lreturn)]
/-- SectionTemplates$Ground.levelOf(I)J -/
def am_cd84 : List (Nat × Instr) := [(0, .iload_n 1), (1, .ifCond .lt 21), (4, .iload_n 1), (5, .aload_n 0), (6, .getfield 24), (9, .if_icmp .ge 13), (12, .aload_n 0), (13, .getfield 15), (16, .iload_n 1), (17, .iaload), (18, .i2l), (19, .goto 4), (22, .lconst 0), (23, .lreturn)]
/-- SectionTemplates$Arithmetic.add(LSectionTemplates$Fraction;LSectionTemplates$Fraction;LSectionTemplates$Fraction;I)V -/
def am_cd85 : List (Nat × Instr) := [(0, .aload_n 0), (1, .aload_n 0), (2, .getfield 14), (5, .aload_n 2), (6, .getfield 71), (9, .aload_n 3), (10, .getfield 71), (13, .invokevirtual 80), (16, .aload_n 0), (17, .aload_n 0), (18, .getfield 29), (21, .aload_n 2), (22, .getfield 71), (25, .aload_n 0), (26, .getfield 14), (29, .invokevirtual 84), (32, .aload_n 0), (33, .aload_n 0), (34, .getfield 32), (37, .aload_n 3), (38, .getfield 71), (41, .aload_n 0), (42, .getfield 14), (45, .invokevirtual 84), (48, .aload_n 0), (49, .getfield 23), (52, .aload_n 2), (53, .getfield 66), (56, .aload_n 0), (57, .getfield 32), (60, .invokevirtual 87), (63, .aload_n 0), (64, .getfield 26), (67, .aload_n 3), (68, .getfield 66), (71, .aload_n 0), (72, .getfield 29), (75, .invokevirtual 87), (78, .aload_n 3), (79, .getfield 60), (82, .iload 4), (84, .imul), (85, .istore 5), (87, .aload_n 0), (88, .getfield 23), (91, .aload_n 0), (92, .getfield 26), (95, .invokevirtual 91), (98, .istore 6), (100, .iload 6), (102, .ifCond .lt 10), (105, .aload_n 2), (106, .getfield 60), (109, .goto 5), (112, .iload 5), (114, .istore 7), (116, .aload_n 2), (117, .getfield 60), (120, .iload 5), (122, .imul), (123, .ifCond .lt 21), (126, .aload_n 0), (127, .getfield 35), (130, .aload_n 0), (131, .getfield 23), (134, .aload_n 0), (135, .getfield 26), (138, .invokevirtual 94), (141, .goto 42), (144, .aload_n 0), (145, .getfield 35), (148, .iload 6), (150, .ifCond .lt 10), (153, .aload_n 0), (154, .getfield 23), (157, .goto 7), (160, .aload_n 0), (161, .getfield 26), (164, .iload 6), (166, .ifCond .lt 10), (169, .aload_n 0), (170, .getfield 26), (173, .goto 7), (176, .aload_n 0), (177, .getfield 23), (180, .invokevirtual 97), (183, .aload_n 0), (184, .aload_n 0), (185, .getfield 20), (188, .aload_n 0), (189, .getfield 35), (192, .aload_n 0), (193, .getfield 14), (196, .invokevirtual 80), (199, .aload_n 0), (200, .aload_n 0), (201, .getfield 32), (204, .aload_n 3), (205, .getfield 71), (208, .aload_n 0), (209, .getfield 20), (212, .invokevirtual 84), (215, .aload_n 0), (216, .aload_n 1), (217, .getfield 66), (220, .aload_n 0), (221, .getfield 35), (224, .aload_n 0), (225, .getfield 20), (228, .invokevirtual 84), (231, .aload_n 1), (232, .getfield 71), (235, .aload_n 0), (236, .getfield 29), (239, .aload_n 0), (240, .getfield 32), (243, .invokevirtual 87), (246, .aload_n 1), (247, .aload_n 1), (248, .getfield 66), (251, .getfield 100), (254, .ifCond .le 8), (257, .iload 7), (259, .goto 4), (262, .iconst 0), (263, .putfield 60), (266, .return_)]
/-- SectionTemplates$Arithmetic.findCommon(LSectionTemplates$Whole;LSectionTemplates$Whole;LSectionTemplates$Whole;)V -/
def am_cd86 : List (Nat × Instr) := [(0, .aload_n 1), (1, .aload_n 2), (2, .invokevirtual 130), (5, .aload_n 0), (6, .getfield 44), (9, .aload_n 3), (10, .invokevirtual 130), (13, .iconst 0), (14, .istore 4), (16, .iload 4), (18, .ldc 118), (20, .if_icmp .ge 91), (23, .aload_n 0), (24, .getfield 44), (27, .getfield 100), (30, .ifCond .le 81), (33, .aload_n 1), (34, .getfield 100), (37, .iconst 2), (38, .if_icmp .gt 35), (41, .aload_n 0), (42, .getfield 44), (45, .getfield 100), (48, .iconst 2), (49, .if_icmp .gt 24), (52, .aload_n 1), (53, .aload_n 1), (54, .iconst 0), (55, .invokevirtual 134), (58, .aload_n 0), (59, .getfield 44), (62, .iconst 0), (63, .invokevirtual 134), (66, .invokestatic 56), (69, .invokevirtual 67), (72, .return_), (73, .aload_n 0), (74, .aload_n 0), (75, .getfield 47), (78, .aload_n 1), (79, .aload_n 0), (80, .getfield 44), (83, .invokevirtual 84), (86, .aload_n 1), (87, .aload_n 0), (88, .getfield 44), (91, .invokevirtual 130), (94, .aload_n 0), (95, .getfield 44), (98, .aload_n 0), (99, .getfield 38), (102, .invokevirtual 130), (105, .iinc 4 1), (108, .goto (-92)), (111, .return_)]
/-- SectionTemplates$Whole.copy(LSectionTemplates$Whole;)V -/
def am_cd87 : List (Nat × Instr) := [(0, .aload_n 1), (1, .getfield 23), (4, .aload_n 0), (5, .getfield 15), (8, .arraylength), (9, .if_icmp .ge 10), (12, .aload_n 1), (13, .getfield 23), (16, .goto 8), (19, .aload_n 0), (20, .getfield 15), (23, .arraylength), (24, .istore_n 2), (25, .iconst 0), (26, .istore_n 3), (27, .iload_n 3), (28, .iload_n 2), (29, .if_icmp .ge 21), (32, .aload_n 0), (33, .getfield 15), (36, .iload_n 3), (37, .aload_n 1), (38, .getfield 15), (41, .iload_n 3), (42, .laload), (43, .lastore), (44, .iinc 3 1), (47, .goto (-20)), (50, .aload_n 0), (51, .iload_n 2), (52, .putfield 23), (55, .return_)]
/-- SectionTemplates$Whole.eighteen(I)J -/
def am_cd88 : List (Nat × Instr) := [(0, .iconst 2), (1, .iload_n 1), (2, .imul), (3, .istore_n 2), (4, .iload_n 2), (5, .ifCond .lt 11), (8, .iload_n 2), (9, .aload_n 0), (10, .getfield 23), (13, .if_icmp .lt 5), (16, .lconst 0), (17, .lreturn), (18, .aload_n 0), (19, .getfield 15), (22, .iload_n 2), (23, .laload), (24, .iload_n 2), (25, .iconst 1), (26, .iadd), (27, .aload_n 0), (28, .getfield 23), (31, .if_icmp .ge 18), (34, .aload_n 0), (35, .getfield 15), (38, .iload_n 2), (39, .iconst 1), (40, .iadd), (41, .laload), (42, .ldc2_w 21), (45, .lmul), (46, .goto 4), (49, .lconst 0), (50, .ladd), (51, .lreturn)]
/-- SectionTemplates$Arithmetic.divide(LSectionTemplates$Whole;LSectionTemplates$Whole;LSectionTemplates$Whole;)V -/
def am_cd89 : List (Nat × Instr) := [(0, .aload_n 3), (1, .invokevirtual 103), (4, .lstore 4), (6, .aload_n 0), (7, .getfield 38), (10, .aload_n 2), (11, .lload 4), (13, .invokevirtual 107), (16, .aload_n 0), (17, .getfield 41), (20, .aload_n 3), (21, .lload 4), (23, .invokevirtual 107), (26, .aload_n 0), (27, .getfield 38), (30, .getfield 100), (33, .aload_n 0), (34, .getfield 41), (37, .getfield 100), (40, .isub), (41, .istore 6), (43, .aload_n 1), (44, .iload 6), (46, .iconst 1), (47, .iadd), (48, .invokevirtual 111), (51, .iload 6), (53, .istore 7), (55, .iload 7), (57, .ifCond .lt 95), (60, .lconst 0), (61, .lstore 8), (63, .aload_n 0), (64, .getfield 38), (67, .aload_n 0), (68, .getfield 41), (71, .iload 7), (73, .invokevirtual 114), (76, .lstore 10), (78, .iconst 0), (79, .istore 12), (81, .iload 12), (83, .ldc 118), (85, .if_icmp .ge 53), (88, .lload 10), (90, .lconst 0), (91, .lcmp), (92, .ifCond .le 46), (95, .aload_n 0), (96, .getfield 38), (99, .aload_n 0), (100, .getfield 41), (103, .lload 10), (105, .iload 7), (107, .invokevirtual 119), (110, .lload 8), (112, .lload 10), (114, .ladd), (115, .lstore 8), (117, .aload_n 0), (118, .getfield 38), (121, .aload_n 0), (122, .getfield 41), (125, .iload 7), (127, .invokevirtual 114), (130, .lstore 10), (132, .iinc 12 1), (135, .goto (-54)), (138, .aload_n 1), (139, .iload 7), (141, .lload 8), (143, .invokevirtual 123), (146, .iinc 7 (-1)), (149, .goto (-94)), (152, .aload_n 0), (153, .getfield 38), (156, .lload 4), (158, .invokevirtual 127), (161, .return_)]
/-- SectionTemplates$Whole.factor()J -/
def am_cd90 : List (Nat × Instr) := [(0, .aload_n 0), (1, .getfield 23), (4, .ifCond .le 23), (7, .ldc2_w 21), (10, .aload_n 0), (11, .getfield 15), (14, .aload_n 0), (15, .getfield 23), (18, .iconst 1), (19, .isub), (20, .laload), (21, .lconst 1), (22, .ladd), (23, .ldiv), (24, .goto 4), (27, .lconst 1), (28, .lreturn)]
/-- SectionTemplates$Whole.scale(LSectionTemplates$Whole;J)V -/
def am_cd91 : List (Nat × Instr) := [(0, .aload_n 1), (1, .getfield 23), (4, .aload_n 0), (5, .getfield 15), (8, .arraylength), (9, .if_icmp .ge 12), (12, .aload_n 1), (13, .getfield 23), (16, .iconst 1), (17, .iadd), (18, .goto 8), (21, .aload_n 0), (22, .getfield 15), (25, .arraylength), (26, .istore 4), (28, .lconst 0), (29, .lstore 5), (31, .iconst 0), (32, .istore 7), (34, .iconst 0), (35, .istore 8), (37, .iload 8), (39, .iload 4), (41, .if_icmp .ge 83), (44, .lload 5), (46, .iload 8), (48, .aload_n 1), (49, .getfield 23), (52, .if_icmp .ge 15), (55, .aload_n 1), (56, .getfield 15), (59, .iload 8), (61, .laload), (62, .lload_n 2), (63, .lmul), (64, .goto 4), (67, .lconst 0), (68, .ladd), (69, .lstore 9), (71, .lload 9), (73, .ldc2_w 21), (76, .ldiv), (77, .lstore 5), (79, .aload_n 0), (80, .getfield 15), (83, .iload 8), (85, .lload 9), (87, .lload 5), (89, .ldc2_w 21), (92, .lmul), (93, .lsub), (94, .lastore), (95, .aload_n 0), (96, .getfield 15), (99, .iload 8), (101, .laload), (102, .lconst 0), (103, .lcmp), (104, .ifCond .eq 10), (107, .iload 8), (109, .iconst 1), (110, .iadd), (111, .goto 5), (114, .iload 7), (116, .istore 7), (118, .iinc 8 1), (121, .goto (-84)), (124, .aload_n 0), (125, .iload 7), (127, .putfield 23), (130, .return_)]
/-- SectionTemplates$Whole.beginDigits(I)V -/
def am_cd92 : List (Nat × Instr) := [(0, .aload_n 0), (1, .iload_n 1), (2, .ifCond .ge 7), (5, .iconst 0), (6, .goto 21), (9, .iload_n 1), (10, .aload_n 0), (11, .getfield 15), (14, .arraylength), (15, .if_icmp .ge 7), (18, .iload_n 1), (19, .goto 8), (22, .aload_n 0), (23, .getfield 15), (26, .arraylength), (27, .putfield 23), (30, .return_)]
/-- SectionTemplates$Whole.timesAt(LSectionTemplates$Whole;I)J -/
def am_cd93 : List (Nat × Instr) := [(0, .aload_n 1), (1, .getfield 23), (4, .iconst 1), (5, .isub), (6, .istore_n 3), (7, .iload_n 2), (8, .iload_n 3), (9, .iadd), (10, .istore 4), (12, .iload_n 3), (13, .ifCond .lt 22), (16, .iload 4), (18, .aload_n 0), (19, .getfield 15), (22, .arraylength), (23, .if_icmp .ge 12), (26, .iload 4), (28, .aload_n 0), (29, .getfield 23), (32, .if_icmp .lt 5), (35, .lconst 0), (36, .lreturn), (37, .iload 4), (39, .iconst 1), (40, .iadd), (41, .aload_n 0), (42, .getfield 23), (45, .if_icmp .ge 31), (48, .iload 4), (50, .iconst 1), (51, .iadd), (52, .aload_n 0), (53, .getfield 15), (56, .arraylength), (57, .if_icmp .ge 19), (60, .aload_n 0), (61, .getfield 15), (64, .iload 4), (66, .iconst 1), (67, .iadd), (68, .laload), (69, .ldc2_w 21), (72, .lmul), (73, .goto 4), (76, .lconst 0), (77, .lstore 5), (79, .lload 5), (81, .aload_n 0), (82, .getfield 15), (85, .iload 4), (87, .laload), (88, .ladd), (89, .aload_n 1), (90, .getfield 15), (93, .iload_n 3), (94, .laload), (95, .lconst 1), (96, .ladd), (97, .ldiv), (98, .lstore 7), (100, .lload 7), (102, .lconst 0), (103, .lcmp), (104, .ifCond .le 6), (107, .lload 7), (109, .lreturn), (110, .iload_n 3), (111, .istore 9), (113, .iload 9), (115, .ifCond .lt 55), (118, .aload_n 0), (119, .getfield 15), (122, .iload_n 2), (123, .iload 9), (125, .iadd), (126, .laload), (127, .aload_n 1), (128, .getfield 15), (131, .iload 9), (133, .laload), (134, .lcmp), (135, .ifCond .eq 29), (138, .aload_n 0), (139, .getfield 15), (142, .iload_n 2), (143, .iload 9), (145, .iadd), (146, .laload), (147, .aload_n 1), (148, .getfield 15), (151, .iload 9), (153, .laload), (154, .lcmp), (155, .ifCond .le 7), (158, .lconst 1), (159, .goto 4), (162, .lconst 0), (163, .lreturn), (164, .iinc 9 (-1)), (167, .goto (-54)), (170, .lconst 1), (171, .lreturn)]
/-- SectionTemplates$Whole.takeAway(LSectionTemplates$Whole;JI)V -/
def am_cd94 : List (Nat × Instr) := [(0, .lconst 0), (1, .lstore 5), (3, .iconst 0), (4, .istore 7), (6, .iload 4), (8, .iload 7), (10, .iadd), (11, .aload_n 0), (12, .getfield 23), (15, .if_icmp .ge 105), (18, .iload 7), (20, .aload_n 1), (21, .getfield 23), (24, .if_icmp .lt 10), (27, .lload 5), (29, .lconst 0), (30, .lcmp), (31, .ifCond .le 89), (34, .aload_n 0), (35, .getfield 15), (38, .iload 4), (40, .iload 7), (42, .iadd), (43, .laload), (44, .lload 5), (46, .lsub), (47, .iload 7), (49, .aload_n 1), (50, .getfield 23), (53, .if_icmp .ge 15), (56, .aload_n 1), (57, .getfield 15), (60, .iload 7), (62, .laload), (63, .lload_n 2), (64, .lmul), (65, .goto 4), (68, .lconst 0), (69, .lsub), (70, .lstore 8), (72, .lload 8), (74, .lconst 0), (75, .lcmp), (76, .ifCond .ge 16), (79, .ldc2_w 27), (82, .lload 8), (84, .lsub), (85, .ldc2_w 21), (88, .ldiv), (89, .goto 4), (92, .lconst 0), (93, .lstore 5), (95, .aload_n 0), (96, .getfield 15), (99, .iload 4), (101, .iload 7), (103, .iadd), (104, .lload 8), (106, .lload 5), (108, .ldc2_w 21), (111, .lmul), (112, .ladd), (113, .lastore), (114, .iinc 7 1), (117, .goto (-111)), (120, .aload_n 0), (121, .getfield 23), (124, .ifCond .le 32), (127, .aload_n 0), (128, .getfield 15), (131, .aload_n 0), (132, .getfield 23), (135, .iconst 1), (136, .isub), (137, .laload), (138, .lconst 0), (139, .lcmp), (140, .ifCond .ne 16), (143, .aload_n 0), (144, .dup), (145, .getfield 23), (148, .iconst 1), (149, .isub), (150, .putfield 23), (153, .goto (-33)), (156, .return_)]
/-- SectionTemplates$Whole.setDigit(IJ)V -/
def am_cd95 : List (Nat × Instr) := [(0, .iload_n 1), (1, .ifCond .lt 12), (4, .iload_n 1), (5, .aload_n 0), (6, .getfield 15), (9, .arraylength), (10, .if_icmp .lt 4), (13, .return_), (14, .aload_n 0), (15, .getfield 15), (18, .iload_n 1), (19, .lload_n 2), (20, .lastore), (21, .lload_n 2), (22, .lconst 0), (23, .lcmp), (24, .ifCond .ne 18), (27, .aload_n 0), (28, .getfield 23), (31, .iload_n 1), (32, .iconst 1), (33, .iadd), (34, .if_icmp .ne 8), (37, .aload_n 0), (38, .iload_n 1), (39, .putfield 23), (42, .return_)]
/-- SectionTemplates$Whole.unscale(J)V -/
def am_cd96 : List (Nat × Instr) := [(0, .lconst 0), (1, .lstore_n 3), (2, .iconst 0), (3, .istore 5), (5, .aload_n 0), (6, .getfield 23), (9, .iconst 1), (10, .isub), (11, .istore 6), (13, .iload 6), (15, .ifCond .lt 82), (18, .lload_n 1), (19, .lconst 0), (20, .lcmp), (21, .ifCond .le 76), (24, .lload_n 3), (25, .ldc2_w 21), (28, .lmul), (29, .aload_n 0), (30, .getfield 15), (33, .iload 6), (35, .laload), (36, .ladd), (37, .lstore 7), (39, .aload_n 0), (40, .getfield 15), (43, .iload 6), (45, .lload 7), (47, .lload_n 1), (48, .ldiv), (49, .lastore), (50, .lload 7), (52, .aload_n 0), (53, .getfield 15), (56, .iload 6), (58, .laload), (59, .lload_n 1), (60, .lmul), (61, .lsub), (62, .lstore_n 3), (63, .iload 5), (65, .ifCond .ne 22), (68, .aload_n 0), (69, .getfield 15), (72, .iload 6), (74, .laload), (75, .lconst 0), (76, .lcmp), (77, .ifCond .eq 10), (80, .iload 6), (82, .iconst 1), (83, .iadd), (84, .goto 5), (87, .iload 5), (89, .istore 5), (91, .iinc 6 (-1)), (94, .goto (-81)), (97, .aload_n 0), (98, .iload 5), (100, .putfield 23), (103, .return_)]
/-- SectionTemplates$Whole.product(LSectionTemplates$Whole;LSectionTemplates$Whole;)V -/
def am_cd97 : List (Nat × Instr) := [(0, .aload_n 1), (1, .getfield 23), (4, .ifCond .le 22), (7, .aload_n 2), (8, .getfield 23), (11, .ifCond .le 15), (14, .aload_n 1), (15, .getfield 23), (18, .aload_n 2), (19, .getfield 23), (22, .iadd), (23, .goto 4), (26, .iconst 0), (27, .istore_n 3), (28, .iload_n 3), (29, .aload_n 0), (30, .getfield 15), (33, .arraylength), (34, .if_icmp .ge 7), (37, .iload_n 3), (38, .goto 8), (41, .aload_n 0), (42, .getfield 15), (45, .arraylength), (46, .istore 4), (48, .iconst 0), (49, .istore 5), (51, .iload 5), (53, .iload 4), (55, .if_icmp .ge 17), (58, .aload_n 0), (59, .getfield 15), (62, .iload 5), (64, .lconst 0), (65, .lastore), (66, .iinc 5 1), (69, .goto (-18)), (72, .iconst 0), (73, .istore 5), (75, .iload 5), (77, .aload_n 1), (78, .getfield 23), (81, .if_icmp .ge 111), (84, .lconst 0), (85, .lstore 6), (87, .iconst 0), (88, .istore 8), (90, .iload 8), (92, .aload_n 2), (93, .getfield 23), (96, .if_icmp .gt 90), (99, .iload 5), (101, .iload 8), (103, .iadd), (104, .iload 4), (106, .if_icmp .ge 80), (109, .aload_n 0), (110, .getfield 15), (113, .iload 5), (115, .iload 8), (117, .iadd), (118, .laload), (119, .lload 6), (121, .ladd), (122, .iload 8), (124, .aload_n 2), (125, .getfield 23), (128, .if_icmp .ge 21), (131, .aload_n 1), (132, .getfield 15), (135, .iload 5), (137, .laload), (138, .aload_n 2), (139, .getfield 15), (142, .iload 8), (144, .laload), (145, .lmul), (146, .goto 4), (149, .lconst 0), (150, .ladd), (151, .lstore 9), (153, .lload 9), (155, .ldc2_w 21), (158, .ldiv), (159, .lstore 6), (161, .aload_n 0), (162, .getfield 15), (165, .iload 5), (167, .iload 8), (169, .iadd), (170, .lload 9), (172, .lload 6), (174, .ldc2_w 21), (177, .lmul), (178, .lsub), (179, .lastore), (180, .iinc 8 1), (183, .goto (-93)), (186, .iinc 5 1), (189, .goto (-114)), (192, .aload_n 0), (193, .iload 4), (195, .ifCond .le 24), (198, .aload_n 0), (199, .getfield 15), (202, .iload 4), (204, .iconst 1), (205, .isub), (206, .laload), (207, .lconst 0), (208, .lcmp), (209, .ifCond .ne 10), (212, .iload 4), (214, .iconst 1), (215, .isub), (216, .goto 5), (219, .iload 4), (221, .putfield 23), (224, .return_)]
/-- SectionTemplates$Whole.compare(LSectionTemplates$Whole;)I -/
def am_cd98 : List (Nat × Instr) := [(0, .aload_n 0), (1, .getfield 23), (4, .aload_n 1), (5, .getfield 23), (8, .if_icmp .eq 20), (11, .aload_n 0), (12, .getfield 23), (15, .aload_n 1), (16, .getfield 23), (19, .if_icmp .le 7), (22, .iconst 1), (23, .goto 4), (26, .iconst (-1)), (27, .ireturn), (28, .aload_n 0), (29, .getfield 23), (32, .iconst 1), (33, .isub), (34, .istore_n 2), (35, .iload_n 2), (36, .ifCond .lt 47), (39, .aload_n 0), (40, .getfield 15), (43, .iload_n 2), (44, .laload), (45, .aload_n 1), (46, .getfield 15), (49, .iload_n 2), (50, .laload), (51, .lcmp), (52, .ifCond .eq 25), (55, .aload_n 0), (56, .getfield 15), (59, .iload_n 2), (60, .laload), (61, .aload_n 1), (62, .getfield 15), (65, .iload_n 2), (66, .laload), (67, .lcmp), (68, .ifCond .le 7), (71, .iconst 1), (72, .goto 4), (75, .iconst (-1)), (76, .ireturn), (77, .iinc 2 (-1)), (80, .goto (-45)), (83, .iconst 0), (84, .ireturn)]
/-- SectionTemplates$Whole.sum(LSectionTemplates$Whole;LSectionTemplates$Whole;)V -/
def am_cd99 : List (Nat × Instr) := [(0, .aload_n 1), (1, .getfield 23), (4, .aload_n 2), (5, .getfield 23), (8, .if_icmp .le 10), (11, .aload_n 1), (12, .getfield 23), (15, .goto 7), (18, .aload_n 2), (19, .getfield 23), (22, .istore_n 3), (23, .iload_n 3), (24, .aload_n 0), (25, .getfield 15), (28, .arraylength), (29, .if_icmp .ge 9), (32, .iload_n 3), (33, .iconst 1), (34, .iadd), (35, .goto 8), (38, .aload_n 0), (39, .getfield 15), (42, .arraylength), (43, .istore 4), (45, .lconst 0), (46, .lstore 5), (48, .iconst 0), (49, .istore 7), (51, .iconst 0), (52, .istore 8), (54, .iload 8), (56, .iload 4), (58, .if_icmp .ge 110), (61, .lload 5), (63, .iload 8), (65, .aload_n 1), (66, .getfield 23), (69, .if_icmp .ge 13), (72, .aload_n 1), (73, .getfield 15), (76, .iload 8), (78, .laload), (79, .goto 4), (82, .lconst 0), (83, .ladd), (84, .iload 8), (86, .aload_n 2), (87, .getfield 23), (90, .if_icmp .ge 13), (93, .aload_n 2), (94, .getfield 15), (97, .iload 8), (99, .laload), (100, .goto 4), (103, .lconst 0), (104, .ladd), (105, .lstore 9), (107, .lload 9), (109, .ldc2_w 21), (112, .lcmp), (113, .ifCond .lt 7), (116, .lconst 1), (117, .goto 4), (120, .lconst 0), (121, .lstore 5), (123, .aload_n 0), (124, .getfield 15), (127, .iload 8), (129, .lload 9), (131, .lload 5), (133, .ldc2_w 21), (136, .lmul), (137, .lsub), (138, .lastore), (139, .aload_n 0), (140, .getfield 15), (143, .iload 8), (145, .laload), (146, .lconst 0), (147, .lcmp), (148, .ifCond .eq 10), (151, .iload 8), (153, .iconst 1), (154, .iadd), (155, .goto 5), (158, .iload 7), (160, .istore 7), (162, .iinc 8 1), (165, .goto (-111)), (168, .aload_n 0), (169, .iload 7), (171, .putfield 23), (174, .return_)]
/-- SectionTemplates$Whole.difference(LSectionTemplates$Whole;LSectionTemplates$Whole;)V -/
def am_cd100 : List (Nat × Instr) := [(0, .aload_n 1), (1, .getfield 23), (4, .aload_n 0), (5, .getfield 15), (8, .arraylength), (9, .if_icmp .ge 10), (12, .aload_n 1), (13, .getfield 23), (16, .goto 8), (19, .aload_n 0), (20, .getfield 15), (23, .arraylength), (24, .istore_n 3), (25, .lconst 0), (26, .lstore 4), (28, .iconst 0), (29, .istore 6), (31, .iconst 0), (32, .istore 7), (34, .iload 7), (36, .iload_n 3), (37, .if_icmp .ge 95), (40, .aload_n 1), (41, .getfield 15), (44, .iload 7), (46, .laload), (47, .lload 4), (49, .lsub), (50, .iload 7), (52, .aload_n 2), (53, .getfield 23), (56, .if_icmp .ge 13), (59, .aload_n 2), (60, .getfield 15), (63, .iload 7), (65, .laload), (66, .goto 4), (69, .lconst 0), (70, .lsub), (71, .lstore 8), (73, .lload 8), (75, .lconst 0), (76, .lcmp), (77, .ifCond .ge 7), (80, .lconst 1), (81, .goto 4), (84, .lconst 0), (85, .lstore 4), (87, .aload_n 0), (88, .getfield 15), (91, .iload 7), (93, .lload 8), (95, .lload 4), (97, .ldc2_w 21), (100, .lmul), (101, .ladd), (102, .lastore), (103, .aload_n 0), (104, .getfield 15), (107, .iload 7), (109, .laload), (110, .lconst 0), (111, .lcmp), (112, .ifCond .eq 10), (115, .iload 7), (117, .iconst 1), (118, .iadd), (119, .goto 5), (122, .iload 6), (124, .istore 6), (126, .iinc 7 1), (129, .goto (-95)), (132, .aload_n 0), (133, .iload 6), (135, .putfield 23), (138, .return_)]
/-- SectionTemplates$Arithmetic.product(LSectionTemplates$Fraction;LSectionTemplates$Fraction;LSectionTemplates$Fraction;Z)V -/
def am_cd101 : List (Nat × Instr) := [(0, .iload 4), (2, .ifCond .eq 11), (5, .aload_n 3), (6, .getfield 60), (9, .ifCond .ne 4), (12, .return_), (13, .aload_n 0), (14, .getfield 23), (17, .aload_n 2), (18, .getfield 66), (21, .iload 4), (23, .ifCond .eq 10), (26, .aload_n 3), (27, .getfield 71), (30, .goto 7), (33, .aload_n 3), (34, .getfield 66), (37, .invokevirtual 87), (40, .aload_n 0), (41, .getfield 29), (44, .aload_n 2), (45, .getfield 71), (48, .iload 4), (50, .ifCond .eq 10), (53, .aload_n 3), (54, .getfield 66), (57, .goto 7), (60, .aload_n 3), (61, .getfield 71), (64, .invokevirtual 87), (67, .aload_n 0), (68, .aload_n 0), (69, .getfield 14), (72, .aload_n 0), (73, .getfield 23), (76, .aload_n 0), (77, .getfield 29), (80, .invokevirtual 80), (83, .aload_n 0), (84, .aload_n 1), (85, .getfield 66), (88, .aload_n 0), (89, .getfield 23), (92, .aload_n 0), (93, .getfield 14), (96, .invokevirtual 84), (99, .aload_n 0), (100, .aload_n 1), (101, .getfield 71), (104, .aload_n 0), (105, .getfield 29), (108, .aload_n 0), (109, .getfield 14), (112, .invokevirtual 84), (115, .aload_n 1), (116, .aload_n 2), (117, .getfield 60), (120, .aload_n 3), (121, .getfield 60), (124, .imul), (125, .putfield 60), (128, .return_)]
/-- SectionTemplates$Side.add(IJJJJ)V -/
def am_cd102 : List (Nat × Instr) := [(0, .aload_n 0), (1, .getfield 44), (4, .iconst 1), (5, .iadd), (6, .bipush 13), (8, .if_icmp .ge 10), (11, .aload_n 0), (12, .getfield 44), (15, .ifCond .ge 4), (18, .return_), (19, .aload_n 0), (20, .getfield 9), (23, .aload_n 0), (24, .getfield 44), (27, .iconst 1), (28, .iadd), (29, .iload_n 1), (30, .iastore), (31, .aload_n 0), (32, .getfield 15), (35, .aload_n 0), (36, .getfield 44), (39, .iconst 1), (40, .iadd), (41, .aload_n 0), (42, .getfield 15), (45, .aload_n 0), (46, .getfield 44), (49, .laload), (50, .lload_n 2), (51, .ladd), (52, .lastore), (53, .aload_n 0), (54, .getfield 19), (57, .aload_n 0), (58, .getfield 44), (61, .iconst 1), (62, .iadd), (63, .aload_n 0), (64, .getfield 19), (67, .aload_n 0), (68, .getfield 44), (71, .laload), (72, .lload 4), (74, .lsub), (75, .lastore), (76, .aload_n 0), (77, .getfield 22), (80, .aload_n 0), (81, .getfield 44), (84, .iconst 1), (85, .iadd), (86, .lload 6), (88, .lastore), (89, .aload_n 0), (90, .getfield 25), (93, .aload_n 0), (94, .getfield 44), (97, .iconst 1), (98, .iadd), (99, .lload 8), (101, .lastore), (102, .aload_n 0), (103, .dup), (104, .getfield 44), (107, .iconst 1), (108, .iadd), (109, .putfield 44), (112, .return_)]
/-- SectionTemplates$Walker.wall()V -/
def am_cd103 : List (Nat × Instr) := [(0, .aload_n 0), (1, .getfield 44), (4, .aload_n 0), (5, .getfield 44), (8, .getfield 119), (11, .invokevirtual 122), (14, .lstore_n 1), (15, .aload_n 0), (16, .getfield 34), (19, .aload_n 0), (20, .getfield 44), (23, .getfield 137), (26, .lload_n 1), (27, .lconst 1), (28, .invokevirtual 140), (31, .aload_n 0), (32, .getfield 34), (35, .aload_n 0), (36, .getfield 44), (39, .getfield 146), (42, .aload_n 0), (43, .getfield 30), (46, .aload_n 0), (47, .getfield 44), (50, .getfield 89), (53, .i2l), (54, .lload_n 1), (55, .lmul), (56, .invokevirtual 126), (59, .aload_n 0), (60, .getfield 30), (63, .aload_n 0), (64, .getfield 44), (67, .getfield 89), (70, .i2l), (71, .lload_n 1), (72, .lmul), (73, .invokevirtual 134), (76, .invokevirtual 140), (79, .aload_n 0), (80, .getfield 44), (83, .iconst 5), (84, .lconst 0), (85, .lconst 0), (86, .lconst 0), (87, .lconst 1), (88, .invokevirtual 99), (91, .aload_n 0), (92, .getfield 44), (95, .iconst 1), (96, .putfield 56), (99, .return_)]
/-- SectionTemplates$Walker.stride(IJJ)V -/
def am_cd104 : List (Nat × Instr) := [(0, .iload_n 1), (1, .iconst 3), (2, .if_icmp .ne 25), (5, .aload_n 0), (6, .getfield 44), (9, .iload_n 1), (10, .lload_n 2), (11, .ldc2_w 97), (14, .lload 4), (16, .lmul), (17, .lload 4), (19, .lneg), (20, .lload_n 2), (21, .invokevirtual 99), (24, .goto 22), (27, .aload_n 0), (28, .getfield 44), (31, .iload_n 1), (32, .lload_n 2), (33, .lload_n 2), (34, .lload 4), (36, .lmul), (37, .lload 4), (39, .lneg), (40, .ldc2_w 97), (43, .invokevirtual 99), (46, .return_)]
/-- SectionTemplates$Section.corners()I -/
def am_cd105 : List (Nat × Instr) := [(0, .aload_n 0), (1, .getfield 31), (4, .ifCond .eq 23), (7, .aload_n 0), (8, .getfield 14), (11, .getfield 39), (14, .iconst 1), (15, .iadd), (16, .aload_n 0), (17, .getfield 20), (20, .getfield 39), (23, .iadd), (24, .goto 4), (27, .iconst 0), (28, .ireturn)]
/-- SectionTemplates.corner(III)J -/
def am_cd106 : List (Nat × Instr) := [(0, .iload_n 1), (1, .ifCond .lt 23), (4, .iload_n 1), (5, .aload_n 0), (6, .getfield 56), (9, .invokevirtual 157), (12, .if_icmp .ge 12), (15, .iload_n 2), (16, .iconst 0), (17, .iconst 1), (18, .invokestatic 122), (21, .ifCond .ne 8), (24, .iload_n 3), (25, .invokestatic 161), (28, .lreturn), (29, .aload_n 0), (30, .getfield 56), (33, .iload_n 1), (34, .invokevirtual 165), (37, .astore 4), (39, .aload_n 0), (40, .getfield 56), (43, .iload_n 1), (44, .invokevirtual 169), (47, .istore 5), (49, .iload_n 2), (50, .ifCond .ne 7), (53, .iconst 1), (54, .goto 4), (57, .iconst 0), (58, .istore 6), (60, .iload 6), (62, .ifCond .eq 11), (65, .aload 4), (67, .getfield 173), (70, .goto 4), (73, .iconst 1), (74, .istore 7), (76, .aload 4), (78, .iload 5), (80, .invokevirtual 178), (83, .ifCond .eq 28), (86, .iload 6), (88, .ifCond .eq 11), (91, .aload 4), (93, .getfield 181), (96, .goto 8), (99, .aload 4), (101, .getfield 184), (104, .iload 7), (106, .iload_n 3), (107, .invokestatic 187), (110, .lreturn), (111, .aload_n 0), (112, .getfield 49), (115, .aload_n 0), (116, .getfield 91), (119, .iload 6), (121, .ifCond .eq 13), (124, .aload 4), (126, .iload 5), (128, .invokevirtual 191), (131, .goto 10), (134, .aload 4), (136, .iload 5), (138, .invokevirtual 194), (141, .iload 6), (143, .ifCond .eq 7), (146, .lconst 1), (147, .goto 6), (150, .ldc2_w 139), (153, .invokevirtual 197), (156, .aload_n 0), (157, .getfield 91), (160, .iload 7), (162, .iload_n 3), (163, .invokestatic 187), (166, .lreturn)]
/-- SectionTemplates.missing(I)J -/
def am_cd107 : List (Nat × Instr) := [(0, .iload_n 0), (1, .iconst (-1)), (2, .if_icmp .ne 9), (5, .ldc2_w 263), (8, .goto 6), (11, .ldc2_w 265), (14, .lreturn)]
/-- SectionTemplates$Section.sideOf(I)LSectionTemplates$Side; -/
def am_cd108 : List (Nat × Instr) := [(0, .iload_n 1), (1, .aload_n 0), (2, .getfield 14), (5, .getfield 39), (8, .if_icmp .ge 10), (11, .aload_n 0), (12, .getfield 14), (15, .goto 7), (18, .aload_n 0), (19, .getfield 20), (22, .areturn)]
/-- SectionTemplates$Section.indexOf(I)I -/
def am_cd109 : List (Nat × Instr) := [(0, .iload_n 1), (1, .aload_n 0), (2, .getfield 14), (5, .getfield 39), (8, .if_icmp .ge 15), (11, .aload_n 0), (12, .getfield 14), (15, .getfield 39), (18, .iload_n 1), (19, .isub), (20, .goto 12), (23, .iload_n 1), (24, .aload_n 0), (25, .getfield 14), (28, .getfield 39), (31, .isub), (32, .ireturn)]
/-- SectionTemplates$Side.isEnd(I)Z -/
def am_cd110 : List (Nat × Instr) := [(0, .aload_n 0), (1, .getfield 47), (4, .ifCond .eq 15), (7, .iload_n 1), (8, .aload_n 0), (9, .getfield 44), (12, .if_icmp .ne 7), (15, .iconst 1), (16, .goto 4), (19, .iconst 0), (20, .ireturn)]
/-- SectionTemplates.tell(LSectionTemplates$Fraction;II)J -/
def am_cd111 : List (Nat × Instr) := [(0, .iload_n 2), (1, .iconst (-1)), (2, .if_icmp .ge 7), (5, .ldc2_w 265), (8, .lreturn), (9, .iload_n 2), (10, .iconst (-1)), (11, .if_icmp .ne 11), (14, .aload_n 0), (15, .getfield 267), (18, .iload_n 1), (19, .imul), (20, .i2l), (21, .lreturn), (22, .iload_n 2), (23, .iconst 2), (24, .irem), (25, .ifCond .ne 10), (28, .aload_n 0), (29, .getfield 268), (32, .goto 7), (35, .aload_n 0), (36, .getfield 272), (39, .iload_n 2), (40, .iconst 2), (41, .idiv), (42, .invokevirtual 275), (45, .lreturn)]
/-- SectionTemplates.code(I)I -/
def am_cd112 : List (Nat × Instr) := [(0, .iload_n 1), (1, .ifCond .lt 14), (4, .iload_n 1), (5, .aload_n 0), (6, .getfield 56), (9, .invokevirtual 157), (12, .if_icmp .lt 5), (15, .iconst (-1)), (16, .ireturn), (17, .aload_n 0), (18, .getfield 56), (21, .iload_n 1), (22, .invokevirtual 165), (25, .aload_n 0), (26, .getfield 56), (29, .iload_n 1), (30, .invokevirtual 169), (33, .invokevirtual 201), (36, .ireturn)]
/-- SectionTemplates$Side.codeAt(I)I -/
def am_cd113 : List (Nat × Instr) := [(0, .aload_n 0), (1, .getfield 9), (4, .aload_n 0), (5, .iload_n 1), (6, .invokevirtual 70), (9, .iaload), (10, .ireturn)]
/-- SectionTemplates.ended(I)Z -/
def am_cd114 : List (Nat × Instr) := [(0, .aload_n 0), (1, .getfield 56), (4, .getfield 204), (7, .ifCond .eq 28), (10, .iload_n 1), (11, .invokestatic 132), (14, .ifCond .eq 21), (17, .aload_n 0), (18, .getfield 56), (21, .iload_n 1), (22, .invokevirtual 208), (25, .getfield 211), (28, .ifCond .eq 7), (31, .iconst 1), (32, .goto 4), (35, .iconst 0), (36, .ireturn)]
/-- SectionTemplates$Section.sideBy(I)LSectionTemplates$Side; -/
def am_cd115 : List (Nat × Instr) := [(0, .iload_n 1), (1, .iconst (-1)), (2, .if_icmp .ne 10), (5, .aload_n 0), (6, .getfield 14), (9, .goto 7), (12, .aload_n 0), (13, .getfield 20), (16, .areturn)]
/-- SectionTemplates.passed(I)Z -/
def am_cd116 : List (Nat × Instr) := [(0, .aload_n 0), (1, .getfield 56), (4, .getfield 204), (7, .ifCond .eq 10), (10, .iload_n 1), (11, .invokestatic 132), (14, .ifCond .ne 5), (17, .iconst 0), (18, .ireturn), (19, .aload_n 0), (20, .getfield 56), (23, .iload_n 1), (24, .invokevirtual 208), (27, .astore_n 2), (28, .aload_n 2), (29, .aload_n 2), (30, .getfield 214), (33, .iload_n 1), (34, .iconst (-1)), (35, .if_icmp .ne 11), (38, .aload_n 0), (39, .getfield 39), (42, .i2l), (43, .goto 8), (46, .aload_n 0), (47, .getfield 43), (50, .i2l), (51, .aload_n 0), (52, .getfield 49), (55, .invokevirtual 217), (58, .ifCond .le 7), (61, .iconst 1), (62, .goto 4), (65, .iconst 0), (66, .ireturn)]
/-- SectionTemplates$Side.against(IJLSectionTemplates$Arithmetic;)I -/
def am_cd117 : List (Nat × Instr) := [(0, .aload_n 0), (1, .iload_n 1), (2, .invokevirtual 51), (5, .ifCond .eq 16), (8, .aload 4), (10, .aload_n 0), (11, .getfield 33), (14, .lload_n 2), (15, .invokevirtual 55), (18, .goto 12), (21, .aload_n 0), (22, .iload_n 1), (23, .invokevirtual 61), (26, .lload_n 2), (27, .invokestatic 65), (30, .ireturn)]
/-- SectionTemplates$Arithmetic.compare(LSectionTemplates$Fraction;J)I -/
def am_cd118 : List (Nat × Instr) := [(0, .aload_n 0), (1, .getfield 26), (4, .lload_n 2), (5, .invokevirtual 67), (8, .aload_n 0), (9, .getfield 23), (12, .aload_n 1), (13, .getfield 71), (16, .aload_n 0), (17, .getfield 26), (20, .invokevirtual 87), (23, .aload_n 1), (24, .getfield 66), (27, .aload_n 0), (28, .getfield 23), (31, .invokevirtual 91), (34, .ireturn)]
/-- SectionTemplates.condition(I)I -/
def am_cd119 : List (Nat × Instr) := [(0, .aload_n 0), (1, .getfield 56), (4, .iload_n 1), (5, .invokevirtual 221), (8, .ireturn)]
/-- SectionTemplates$Section.choiceAt(I)I -/
def am_cd120 : List (Nat × Instr) := [(0, .iload_n 1), (1, .ifCond .lt 20), (4, .iload_n 1), (5, .aload_n 0), (6, .getfield 35), (9, .if_icmp .ge 12), (12, .aload_n 0), (13, .getfield 23), (16, .iload_n 1), (17, .iaload), (18, .goto 4), (21, .iconst (-1)), (22, .ireturn)]
/-- SectionTemplates.area(ZI)J -/
def am_cd121 : List (Nat × Instr) := [(0, .aload_n 0), (1, .getfield 56), (4, .getfield 204), (7, .ifCond .ne 8), (10, .iload_n 2), (11, .invokestatic 161), (14, .lreturn), (15, .aload_n 0), (16, .getfield 72), (19, .invokevirtual 224), (22, .iload_n 1), (23, .ifCond .eq 13), (26, .aload_n 0), (27, .getfield 72), (30, .getfield 227), (33, .goto 10), (36, .aload_n 0), (37, .getfield 72), (40, .getfield 230), (43, .iconst 1), (44, .iload_n 2), (45, .invokestatic 187), (48, .lreturn)]
/-- SectionTemplates$Areas.settle()V -/
def am_cd122 : List (Nat × Instr) := [(0, .aload_n 0), (1, .getfield 59), (4, .ifCond .eq 4), (7, .return_), (8, .aload_n 0), (9, .iconst 1), (10, .putfield 59), (13, .aload_n 0), (14, .getfield 46), (17, .aload_n 0), (18, .getfield 14), (21, .lconst 0), (22, .lconst 1), (23, .invokevirtual 63), (26, .aload_n 0), (27, .getfield 46), (30, .aload_n 0), (31, .getfield 20), (34, .lconst 0), (35, .lconst 1), (36, .invokevirtual 63), (39, .aload_n 0), (40, .aload_n 0), (41, .getfield 38), (44, .getfield 50), (47, .invokevirtual 69), (50, .iconst 0), (51, .istore_n 1), (52, .iload_n 1), (53, .ldc 73), (55, .if_icmp .ge 69), (58, .aload_n 0), (59, .invokevirtual 74), (62, .ifCond .eq 62), (65, .aload_n 0), (66, .invokevirtual 78), (69, .aload_n 0), (70, .getfield 23), (73, .getfield 81), (76, .aload_n 0), (77, .getfield 26), (80, .getfield 81), (83, .imul), (84, .ifCond .ge 30), (87, .aload_n 0), (88, .aload_n 0), (89, .getfield 23), (92, .aload_n 0), (93, .getfield 26), (96, .invokevirtual 85), (99, .aload_n 0), (100, .aload_n 0), (101, .getfield 26), (104, .aload_n 0), (105, .getfield 23), (108, .invokevirtual 85), (111, .goto 7), (114, .aload_n 0), (115, .invokevirtual 89), (118, .iinc 1 1), (121, .goto (-69)), (124, .return_)]
/-- SectionTemplates$Areas.startAt(LSectionTemplates$Side;)V -/
def am_cd123 : List (Nat × Instr) := [(0, .aload_n 0), (1, .aload_n 1), (2, .putfield 56), (5, .aload_n 0), (6, .iconst 1), (7, .putfield 92), (10, .aload_n 0), (11, .lconst 0), (12, .putfield 95), (15, .return_)]
/-- SectionTemplates$Areas.findPiece()Z -/
def am_cd124 : List (Nat × Instr) := [(0, .iconst 0), (1, .istore_n 1), (2, .iload_n 1), (3, .bipush 26), (5, .if_icmp .gt 87), (8, .aload_n 0), (9, .getfield 92), (12, .aload_n 0), (13, .getfield 56), (16, .getfield 99), (19, .if_icmp .le 33), (22, .aload_n 0), (23, .getfield 56), (26, .aload_n 0), (27, .getfield 38), (30, .getfield 104), (33, .if_acmp .ne 5), (36, .iconst 0), (37, .ireturn), (38, .aload_n 0), (39, .aload_n 0), (40, .getfield 38), (43, .getfield 104), (46, .invokevirtual 69), (49, .goto 37), (52, .aload_n 0), (53, .getfield 56), (56, .aload_n 0), (57, .getfield 92), (60, .aload_n 0), (61, .getfield 95), (64, .aload_n 0), (65, .getfield 46), (68, .invokevirtual 107), (71, .ifCond .le 5), (74, .iconst 1), (75, .ireturn), (76, .aload_n 0), (77, .dup), (78, .getfield 92), (81, .iconst 1), (82, .iadd), (83, .putfield 92), (86, .iinc 1 1), (89, .goto (-87)), (92, .iconst 0), (93, .ireturn)]
/-- SectionTemplates$Areas.measurePiece()V -/
def am_cd125 : List (Nat × Instr) := [(0, .aload_n 0), (1, .aload_n 0), (2, .getfield 23), (5, .aload_n 0), (6, .getfield 95), (9, .invokevirtual 111), (12, .aload_n 0), (13, .getfield 42), (16, .aload_n 0), (17, .getfield 56), (20, .getfield 115), (23, .aload_n 0), (24, .getfield 95), (27, .invokevirtual 116), (30, .istore_n 1), (31, .aload_n 0), (32, .getfield 42), (35, .iload_n 1), (36, .aload_n 0), (37, .getfield 56), (40, .getfield 115), (43, .invokevirtual 122), (46, .lstore_n 2), (47, .iload_n 1), (48, .ifCond .lt 26), (51, .aload_n 0), (52, .getfield 56), (55, .aload_n 0), (56, .getfield 92), (59, .lload_n 2), (60, .aload_n 0), (61, .getfield 46), (64, .invokevirtual 107), (67, .ifCond .le 7), (70, .iconst 1), (71, .goto 4), (74, .iconst 0), (75, .istore 4), (77, .iload 4), (79, .ifCond .ne 115), (82, .aload_n 0), (83, .getfield 56), (86, .aload_n 0), (87, .getfield 92), (90, .invokevirtual 126), (93, .ifCond .eq 101), (96, .aload_n 0), (97, .getfield 46), (100, .aload_n 0), (101, .getfield 35), (104, .aload_n 0), (105, .getfield 95), (108, .lconst 1), (109, .invokevirtual 63), (112, .aload_n 0), (113, .getfield 46), (116, .aload_n 0), (117, .getfield 29), (120, .aload_n 0), (121, .getfield 56), (124, .getfield 130), (127, .aload_n 0), (128, .getfield 35), (131, .iconst (-1)), (132, .invokevirtual 133), (135, .aload_n 0), (136, .getfield 46), (139, .aload_n 0), (140, .getfield 35), (143, .lconst 1), (144, .ldc2_w 137), (147, .invokevirtual 63), (150, .aload_n 0), (151, .getfield 46), (154, .aload_n 0), (155, .getfield 29), (158, .aload_n 0), (159, .getfield 29), (162, .aload_n 0), (163, .getfield 35), (166, .iconst 0), (167, .invokevirtual 139), (170, .aload_n 0), (171, .getfield 46), (174, .aload_n 0), (175, .getfield 26), (178, .lconst 0), (179, .lconst 1), (180, .invokevirtual 63), (183, .aload_n 0), (184, .dup), (185, .getfield 92), (188, .iconst 1), (189, .iadd), (190, .putfield 92), (193, .return_), (194, .iload 4), (196, .ifCond .ne 15), (199, .aload_n 0), (200, .getfield 56), (203, .aload_n 0), (204, .getfield 92), (207, .invokevirtual 143), (210, .lstore_n 2), (211, .aload_n 0), (212, .aload_n 0), (213, .getfield 26), (216, .lload_n 2), (217, .invokevirtual 111), (220, .aload_n 0), (221, .getfield 46), (224, .aload_n 0), (225, .getfield 29), (228, .lload_n 2), (229, .aload_n 0), (230, .getfield 95), (233, .lsub), (234, .ldc2_w 137), (237, .invokevirtual 63), (240, .aload_n 0), (241, .lload_n 2), (242, .putfield 95), (245, .return_)]
/-- SectionTemplates$Areas.gapAt(LSectionTemplates$Fraction;J)V -/
def am_cd126 : List (Nat × Instr) := [(0, .aload_n 0), (1, .getfield 56), (4, .getfield 115), (7, .i2l), (8, .lload_n 2), (9, .lmul), (10, .lstore 4), (12, .aload_n 0), (13, .getfield 46), (16, .aload_n 1), (17, .aload_n 0), (18, .getfield 42), (21, .lload 4), (23, .invokevirtual 147), (26, .aload_n 0), (27, .getfield 42), (30, .lload 4), (32, .invokevirtual 151), (35, .invokevirtual 63), (38, .aload_n 0), (39, .getfield 46), (42, .aload_n 0), (43, .getfield 35), (46, .aload_n 0), (47, .getfield 56), (50, .aload_n 0), (51, .getfield 92), (54, .lload_n 2), (55, .invokevirtual 154), (58, .aload_n 0), (59, .getfield 56), (62, .aload_n 0), (63, .getfield 92), (66, .invokevirtual 158), (69, .invokevirtual 63), (72, .aload_n 0), (73, .getfield 46), (76, .aload_n 1), (77, .aload_n 1), (78, .aload_n 0), (79, .getfield 35), (82, .iconst (-1)), (83, .invokevirtual 133), (86, .return_)]
/-- SectionTemplates$Side.levelUp(IJ)J -/
def am_cd127 : List (Nat × Instr) := [(0, .iconst 0), (1, .iload_n 1), (2, .iconst 1), (3, .isub), (4, .invokestatic 74), (7, .istore 4), (9, .aload_n 0), (10, .iload 4), (12, .invokevirtual 80), (15, .aload_n 0), (16, .iload_n 1), (17, .invokevirtual 83), (20, .lmul), (21, .ldc2_w 86), (24, .aload_n 0), (25, .iload_n 1), (26, .invokevirtual 88), (29, .lmul), (30, .lload_n 2), (31, .aload_n 0), (32, .iload 4), (34, .invokevirtual 61), (37, .lsub), (38, .lmul), (39, .ladd), (40, .lreturn)]
/-- SectionTemplates$Side.runOf(I)J -/
def am_cd128 : List (Nat × Instr) := [(0, .aload_n 0), (1, .getfield 25), (4, .aload_n 0), (5, .iload_n 1), (6, .invokevirtual 70), (9, .laload), (10, .lreturn)]
/-- SectionTemplates$Side.rise(I)J -/
def am_cd129 : List (Nat × Instr) := [(0, .aload_n 0), (1, .getfield 22), (4, .aload_n 0), (5, .iload_n 1), (6, .invokevirtual 70), (9, .laload), (10, .lreturn)]
/-- SectionTemplates$Side.levelLow(I)J -/
def am_cd130 : List (Nat × Instr) := [(0, .ldc2_w 86), (3, .aload_n 0), (4, .iload_n 1), (5, .invokevirtual 83), (8, .lmul), (9, .lreturn)]
/-- SectionTemplates$Areas.addTriangle(LSectionTemplates$Fraction;LSectionTemplates$Fraction;)V -/
def am_cd131 : List (Nat × Instr) := [(0, .aload_n 0), (1, .getfield 46), (4, .aload_n 0), (5, .getfield 35), (8, .aload_n 1), (9, .aload_n 2), (10, .iconst (-1)), (11, .invokevirtual 133), (14, .aload_n 0), (15, .getfield 46), (18, .aload_n 0), (19, .getfield 32), (22, .aload_n 1), (23, .aload_n 1), (24, .iconst 0), (25, .invokevirtual 139), (28, .aload_n 0), (29, .getfield 46), (32, .aload_n 0), (33, .getfield 32), (36, .aload_n 0), (37, .getfield 32), (40, .aload_n 0), (41, .getfield 29), (44, .iconst 0), (45, .invokevirtual 139), (48, .aload_n 0), (49, .getfield 46), (52, .aload_n 0), (53, .getfield 32), (56, .aload_n 0), (57, .getfield 32), (60, .aload_n 0), (61, .getfield 35), (64, .iconst 1), (65, .invokevirtual 139), (68, .aload_n 0), (69, .invokevirtual 161), (72, .return_)]
/-- SectionTemplates$Areas.addShare()V -/
def am_cd132 : List (Nat × Instr) := [(0, .aload_n 0), (1, .getfield 32), (4, .getfield 81), (7, .ifCond .le 10), (10, .aload_n 0), (11, .getfield 14), (14, .goto 7), (17, .aload_n 0), (18, .getfield 20), (21, .astore_n 1), (22, .aload_n 0), (23, .getfield 46), (26, .aload_n 1), (27, .aload_n 1), (28, .aload_n 0), (29, .getfield 32), (32, .aload_n 0), (33, .getfield 32), (36, .getfield 81), (39, .invokevirtual 133), (42, .return_)]
/-- SectionTemplates$Areas.addTrapezium()V -/
def am_cd133 : List (Nat × Instr) := [(0, .aload_n 0), (1, .getfield 46), (4, .aload_n 0), (5, .getfield 32), (8, .aload_n 0), (9, .getfield 23), (12, .aload_n 0), (13, .getfield 26), (16, .iconst 1), (17, .invokevirtual 133), (20, .aload_n 0), (21, .getfield 46), (24, .aload_n 0), (25, .getfield 32), (28, .aload_n 0), (29, .getfield 32), (32, .aload_n 0), (33, .getfield 29), (36, .iconst 0), (37, .invokevirtual 139), (40, .aload_n 0), (41, .invokevirtual 161), (44, .return_)]
/-- SectionTemplates.level(II)J -/
def am_cd134 : List (Nat × Instr) := [(0, .aload_n 0), (1, .getfield 56), (4, .getfield 204), (7, .ifCond .ne 8), (10, .iload_n 2), (11, .invokestatic 161), (14, .lreturn), (15, .iload_n 1), (16, .ifCond .ge 13), (19, .aload_n 0), (20, .getfield 56), (23, .getfield 146), (26, .goto 10), (29, .aload_n 0), (30, .getfield 56), (33, .getfield 154), (36, .astore_n 3), (37, .iload_n 1), (38, .i2l), (39, .invokestatic 233), (42, .lstore 4), (44, .iconst 0), (45, .istore 6), (47, .iload 6), (49, .aload_n 3), (50, .getfield 214), (53, .if_icmp .gt 59), (56, .aload_n 3), (57, .iload 6), (59, .lload 4), (61, .aload_n 0), (62, .getfield 49), (65, .invokevirtual 217), (68, .ifCond .lt 38), (71, .aload_n 0), (72, .getfield 49), (75, .aload_n 0), (76, .getfield 91), (79, .aload_n 3), (80, .iload 6), (82, .lload 4), (84, .invokevirtual 239), (87, .aload_n 3), (88, .iload 6), (90, .invokevirtual 243), (93, .invokevirtual 197), (96, .aload_n 0), (97, .getfield 91), (100, .iconst 1), (101, .iload_n 2), (102, .invokestatic 187), (105, .lreturn), (106, .iinc 6 1), (109, .goto (-62)), (112, .iload_n 2), (113, .invokestatic 161), (116, .lreturn)]
/-- SectionTemplates.keep(I)I -/
def am_cd135 : List (Nat × Instr) := [(0, .aload_n 0), (1, .getfield 246), (4, .ifCond .eq 11), (7, .iload_n 1), (8, .aload_n 0), (9, .getfield 249), (12, .if_icmp .le 7), (15, .iconst 1), (16, .goto 4), (19, .iconst 0), (20, .istore_n 2), (21, .aload_n 0), (22, .getfield 56), (25, .getfield 204), (28, .ifCond .eq 26), (31, .iload_n 1), (32, .iconst 0), (33, .ldc 121), (35, .invokestatic 122), (38, .ifCond .eq 16), (41, .iload_n 2), (42, .ifCond .eq 12), (45, .aload_n 0), (46, .getfield 246), (49, .bipush 20), (51, .if_icmp .lt 5), (54, .iconst (-1)), (55, .ireturn), (56, .aload_n 0), (57, .getfield 72), (60, .invokevirtual 224), (63, .aload_n 0), (64, .getfield 246), (67, .ifCond .ne 7), (70, .lconst 0), (71, .goto 10), (74, .iload_n 1), (75, .aload_n 0), (76, .getfield 249), (79, .isub), (80, .i2l), (81, .lstore_n 3), (82, .aload_n 0), (83, .getfield 79), (86, .aload_n 0), (87, .getfield 72), (90, .getfield 227), (93, .lload_n 3), (94, .aload_n 0), (95, .getfield 49), (98, .invokevirtual 252), (101, .aload_n 0), (102, .getfield 83), (105, .aload_n 0), (106, .getfield 72), (109, .getfield 230), (112, .lload_n 3), (113, .aload_n 0), (114, .getfield 49), (117, .invokevirtual 252), (120, .aload_n 0), (121, .iload_n 1), (122, .putfield 249), (125, .aload_n 0), (126, .dup), (127, .getfield 246), (130, .iconst 1), (131, .iadd), (132, .putfield 246), (135, .aload_n 0), (136, .getfield 246), (139, .ireturn)]
/-- SectionTemplates$Earthwork.add(LSectionTemplates$Fraction;JLSectionTemplates$Arithmetic;)V -/
def am_cd136 : List (Nat × Instr) := [(0, .aload 4), (2, .aload_n 0), (3, .getfield 20), (6, .aload_n 1), (7, .getfield 36), (10, .aload_n 1), (11, .getfield 39), (14, .invokevirtual 42), (17, .aload_n 0), (18, .getfield 14), (21, .aload_n 0), (22, .getfield 14), (25, .aload_n 0), (26, .getfield 20), (29, .invokevirtual 48), (32, .aload_n 0), (33, .getfield 26), (36, .lload_n 2), (37, .ldc2_w 52), (40, .lmul), (41, .ldc2_w 54), (44, .ldiv), (45, .invokevirtual 56), (48, .aload_n 0), (49, .getfield 23), (52, .aload_n 0), (53, .getfield 14), (56, .aload_n 0), (57, .getfield 26), (60, .invokevirtual 60), (63, .aload_n 0), (64, .getfield 32), (67, .getfield 36), (70, .aload_n 0), (71, .getfield 32), (74, .getfield 36), (77, .aload_n 0), (78, .getfield 23), (81, .invokevirtual 48), (84, .aload_n 0), (85, .getfield 32), (88, .aload_n 0), (89, .getfield 32), (92, .getfield 36), (95, .getfield 62), (98, .ifCond .le 7), (101, .iconst 1), (102, .goto 4), (105, .iconst 0), (106, .putfield 66), (109, .aload_n 0), (110, .getfield 14), (113, .aload_n 0), (114, .getfield 20), (117, .invokevirtual 69), (120, .return_)]
/-- SectionTemplates.volume(ZI)J -/
def am_cd137 : List (Nat × Instr) := [(0, .iload_n 1), (1, .ifCond .eq 13), (4, .aload_n 0), (5, .getfield 79), (8, .getfield 255), (11, .goto 10), (14, .aload_n 0), (15, .getfield 83), (18, .getfield 255), (21, .iconst 1), (22, .iload_n 2), (23, .invokestatic 187), (26, .lreturn)]
/-- SectionTemplates.count(I)I -/
def am_cd138 : List (Nat × Instr) := [(0, .iload_n 1), (1, .tableswitch 84 0 5 #[39, 47, 55, 63, 68, 76]), (40, .aload_n 0), (41, .getfield 12), (44, .getfield 110), (47, .ireturn), (48, .aload_n 0), (49, .getfield 31), (52, .getfield 258), (55, .ireturn), (56, .aload_n 0), (57, .getfield 56), (60, .invokevirtual 157), (63, .ireturn), (64, .aload_n 0), (65, .getfield 246), (68, .ireturn), (69, .aload_n 0), (70, .getfield 24), (73, .getfield 259), (76, .ireturn), (77, .aload_n 0), (78, .getfield 56), (81, .getfield 260), (84, .ireturn), (85, .iconst (-1)), (86, .ireturn)]
/-- SectionTemplatesModel.<init>()V -/
def am_cd139 : List (Nat × Instr) := [(0, .aload_n 0), (1, .invokespecial 76), (4, .aload_n 0), (5, .ldc 82), (7, .newarray .int), (9, .putfield 7), (12, .aload_n 0), (13, .sipush 260), (16, .newarray .int), (18, .putfield 1), (21, .aload_n 0), (22, .sipush 130), (25, .newarray .int), (27, .putfield 44), (30, .aload_n 0), (31, .sipush 400), (34, .newarray .int), (36, .putfield 83), (39, .aload_n 0), (40, .sipush 300), (43, .newarray .int), (45, .putfield 86), (48, .aload_n 0), (49, .sipush 300), (52, .newarray .int), (54, .putfield 89), (57, .aload_n 0), (58, .sipush 300), (61, .newarray .int), (63, .putfield 92), (66, .aload_n 0), (67, .sipush 300), (70, .newarray .int), (72, .putfield 95), (75, .aload_n 0), (76, .bipush 14), (78, .newarray .int), (80, .putfield 98), (83, .aload_n 0), (84, .bipush 8), (86, .newarray .int), (88, .putfield 101), (91, .aload_n 0), (92, .bipush 12), (94, .newarray .int), (96, .putfield 104), (99, .aload_n 0), (100, .bipush 12), (102, .newarray .int), (104, .putfield 107), (107, .aload_n 0), (108, .iconst 3), (109, .newarray .int), (111, .dup), (112, .iconst 0), (113, .ldc 110), (115, .iastore), (116, .dup), (117, .iconst 1), (118, .iconst 0), (119, .iastore), (120, .dup), (121, .iconst 2), (122, .ldc 110), (124, .iastore), (125, .putfield 111), (128, .aload_n 0), (129, .bipush 26), (131, .newarray .int), (133, .putfield 114), (136, .aload_n 0), (137, .iconst 3), (138, .newarray .boolean), (140, .putfield 117), (143, .aload_n 0), (144, .bipush 24), (146, .newarray .int), (148, .putfield 121), (151, .aload_n 0), (152, .bipush 20), (154, .newarray .int), (156, .putfield 124), (159, .iconst 0), (160, .istore_n 1), (161, .iload_n 1), (162, .sipush 130), (165, .if_icmp .ge 16), (168, .aload_n 0), (169, .iload_n 1), (170, .lconst 0), (171, .lconst 1), (172, .invokevirtual 127), (175, .iinc 1 1), (178, .goto (-17)), (181, .return_)]
/-- SectionTemplatesModel.set(IJJ)V -/
def am_cd140 : List (Nat × Instr) := [(0, .aload_n 0), (1, .getfield 44), (4, .iload_n 1), (5, .lload_n 2), (6, .lconst 0), (7, .lcmp), (8, .ifCond .ne 7), (11, .iconst 0), (12, .goto 34), (15, .lload_n 2), (16, .lconst 0), (17, .lcmp), (18, .ifCond .ge 7), (21, .iconst 1), (22, .goto 4), (25, .iconst 0), (26, .lload 4), (28, .lconst 0), (29, .lcmp), (30, .ifCond .ge 7), (33, .iconst 1), (34, .goto 4), (37, .iconst 0), (38, .if_icmp .ne 7), (41, .iconst 1), (42, .goto 4), (45, .iconst (-1)), (46, .iastore), (47, .aload_n 0), (48, .iconst 2), (49, .iload_n 1), (50, .imul), (51, .lload_n 2), (52, .invokestatic 55), (55, .invokevirtual 30), (58, .aload_n 0), (59, .iconst 2), (60, .iload_n 1), (61, .imul), (62, .iconst 1), (63, .iadd), (64, .lload 4), (66, .invokestatic 55), (69, .invokevirtual 30), (72, .aload_n 0), (73, .iload_n 1), (74, .invokevirtual 59), (77, .return_)]
/-- SectionTemplatesModel.size(J)J -/
def am_cd141 : List (Nat × Instr) := [(0, .lload_n 0), (1, .lconst 0), (2, .lcmp), (3, .ifCond .ge 8), (6, .lload_n 0), (7, .lneg), (8, .goto 4), (11, .lload_n 0), (12, .lreturn)]
/-- SectionTemplatesModel.setNumber(IJ)V -/
def am_cd142 : List (Nat × Instr) := [(0, .lload_n 2), (1, .lstore 4), (3, .aload_n 0), (4, .getfield 1), (7, .iload_n 1), (8, .iconst 0), (9, .iastore), (10, .lload 4), (12, .lconst 0), (13, .lcmp), (14, .ifCond .le 48), (17, .aload_n 0), (18, .getfield 7), (21, .sipush 260), (24, .iload_n 1), (25, .imul), (26, .aload_n 0), (27, .getfield 1), (30, .iload_n 1), (31, .iaload), (32, .iadd), (33, .lload 4), (35, .ldc2_w 10), (38, .lrem), (39, .l2i), (40, .iastore), (41, .lload 4), (43, .ldc2_w 10), (46, .ldiv), (47, .lstore 4), (49, .aload_n 0), (50, .getfield 1), (53, .iload_n 1), (54, .dup2), (55, .iaload), (56, .iconst 1), (57, .iadd), (58, .iastore), (59, .goto (-49)), (62, .return_)]
/-- SectionTemplatesModel.reduce(I)V -/
def am_cd143 : List (Nat × Instr) := [(0, .aload_n 0), (1, .getfield 1), (4, .iconst 2), (5, .iload_n 1), (6, .imul), (7, .iaload), (8, .ifCond .ne 21), (11, .aload_n 0), (12, .getfield 44), (15, .iload_n 1), (16, .iconst 0), (17, .iastore), (18, .aload_n 0), (19, .iconst 2), (20, .iload_n 1), (21, .imul), (22, .iconst 1), (23, .iadd), (24, .lconst 1), (25, .invokevirtual 30), (28, .return_), (29, .aload_n 0), (30, .iconst 2), (31, .iload_n 1), (32, .imul), (33, .iconst 2), (34, .iload_n 1), (35, .imul), (36, .iconst 1), (37, .iadd), (38, .invokevirtual 47), (41, .aload_n 0), (42, .getfield 1), (45, .sipush 250), (48, .iaload), (49, .iconst 1), (50, .if_icmp .gt 14), (53, .aload_n 0), (54, .getfield 7), (57, .ldc 50), (59, .iaload), (60, .iconst 1), (61, .if_icmp .le 69), (64, .aload_n 0), (65, .sipush 251), (68, .sipush 250), (71, .invokevirtual 18), (74, .aload_n 0), (75, .sipush 253), (78, .sipush 254), (81, .iconst 2), (82, .iload_n 1), (83, .imul), (84, .sipush 251), (87, .invokevirtual 51), (90, .aload_n 0), (91, .iconst 2), (92, .iload_n 1), (93, .imul), (94, .sipush 253), (97, .invokevirtual 18), (100, .aload_n 0), (101, .sipush 253), (104, .sipush 254), (107, .iconst 2), (108, .iload_n 1), (109, .imul), (110, .iconst 1), (111, .iadd), (112, .sipush 251), (115, .invokevirtual 51), (118, .aload_n 0), (119, .iconst 2), (120, .iload_n 1), (121, .imul), (122, .iconst 1), (123, .iadd), (124, .sipush 253), (127, .invokevirtual 18), (130, .return_)]
/-- SectionTemplatesModel.common(II)V -/
def am_cd144 : List (Nat × Instr) := [(0, .aload_n 0), (1, .sipush 250), (4, .iload_n 1), (5, .invokevirtual 18), (8, .aload_n 0), (9, .sipush 251), (12, .iload_n 2), (13, .invokevirtual 18), (16, .iconst 0), (17, .istore_n 3), (18, .aload_n 0), (19, .getfield 1), (22, .sipush 250), (25, .iaload), (26, .ifCond .le 139), (29, .aload_n 0), (30, .getfield 1), (33, .sipush 251), (36, .iaload), (37, .ifCond .le 128), (40, .aload_n 0), (41, .sipush 250), (44, .invokevirtual 40), (47, .ifCond .ne 33), (50, .aload_n 0), (51, .sipush 251), (54, .invokevirtual 40), (57, .ifCond .ne 23), (60, .aload_n 0), (61, .sipush 250), (64, .invokevirtual 34), (67, .aload_n 0), (68, .sipush 251), (71, .invokevirtual 34), (74, .iinc 3 1), (77, .goto (-59)), (80, .aload_n 0), (81, .sipush 250), (84, .invokevirtual 40), (87, .ifCond .ne 13), (90, .aload_n 0), (91, .sipush 250), (94, .invokevirtual 34), (97, .goto (-79)), (100, .aload_n 0), (101, .sipush 251), (104, .invokevirtual 40), (107, .ifCond .ne 13), (110, .aload_n 0), (111, .sipush 251), (114, .invokevirtual 34), (117, .goto (-99)), (120, .aload_n 0), (121, .sipush 250), (124, .sipush 251), (127, .invokevirtual 22), (130, .ifCond .lt 19), (133, .aload_n 0), (134, .sipush 250), (137, .sipush 250), (140, .sipush 251), (143, .invokevirtual 37), (146, .goto (-128)), (149, .aload_n 0), (150, .sipush 251), (153, .sipush 251), (156, .sipush 250), (159, .invokevirtual 37), (162, .goto (-144)), (165, .aload_n 0), (166, .getfield 1), (169, .sipush 250), (172, .iaload), (173, .ifCond .ne 13), (176, .aload_n 0), (177, .sipush 250), (180, .sipush 251), (183, .invokevirtual 18), (186, .iconst 0), (187, .istore 4), (189, .iload 4), (191, .iload_n 3), (192, .if_icmp .ge 22), (195, .aload_n 0), (196, .sipush 250), (199, .sipush 250), (202, .sipush 250), (205, .invokevirtual 26), (208, .iinc 4 1), (211, .goto (-22)), (214, .return_)]
/-- SectionTemplatesModel.copyNumber(II)V -/
def am_cd145 : List (Nat × Instr) := [(0, .iconst 0), (1, .istore_n 3), (2, .iload_n 3), (3, .aload_n 0), (4, .getfield 1), (7, .iload_n 2), (8, .iaload), (9, .if_icmp .ge 33), (12, .aload_n 0), (13, .getfield 7), (16, .sipush 260), (19, .iload_n 1), (20, .imul), (21, .iload_n 3), (22, .iadd), (23, .aload_n 0), (24, .getfield 7), (27, .sipush 260), (30, .iload_n 2), (31, .imul), (32, .iload_n 3), (33, .iadd), (34, .iaload), (35, .iastore), (36, .iinc 3 1), (39, .goto (-37)), (42, .aload_n 0), (43, .getfield 1), (46, .iload_n 1), (47, .aload_n 0), (48, .getfield 1), (51, .iload_n 2), (52, .iaload), (53, .iastore), (54, .return_)]
/-- SectionTemplatesModel.isOdd(I)Z -/
def am_cd146 : List (Nat × Instr) := [(0, .aload_n 0), (1, .getfield 1), (4, .iload_n 1), (5, .iaload), (6, .ifCond .le 23), (9, .aload_n 0), (10, .getfield 7), (13, .sipush 260), (16, .iload_n 1), (17, .imul), (18, .iaload), (19, .iconst 2), (20, .irem), (21, .iconst 1), (22, .if_icmp .ne 7), (25, .iconst 1), (26, .goto 4), (29, .iconst 0), (30, .ireturn)]
/-- SectionTemplatesModel.halve(I)V -/
def am_cd147 : List (Nat × Instr) := [(0, .lconst 0), (1, .lstore_n 2), (2, .aload_n 0), (3, .getfield 1), (6, .iload_n 1), (7, .iaload), (8, .iconst 1), (9, .isub), (10, .istore 4), (12, .iload 4), (14, .ifCond .lt 58), (17, .lload_n 2), (18, .ldc2_w 10), (21, .lmul), (22, .aload_n 0), (23, .getfield 7), (26, .sipush 260), (29, .iload_n 1), (30, .imul), (31, .iload 4), (33, .iadd), (34, .iaload), (35, .i2l), (36, .ladd), (37, .lstore 5), (39, .aload_n 0), (40, .getfield 7), (43, .sipush 260), (46, .iload_n 1), (47, .imul), (48, .iload 4), (50, .iadd), (51, .lload 5), (53, .ldc2_w 16), (56, .ldiv), (57, .l2i), (58, .iastore), (59, .lload 5), (61, .ldc2_w 16), (64, .lrem), (65, .lstore_n 2), (66, .iinc 4 (-1)), (69, .goto (-57)), (72, .aload_n 0), (73, .iload_n 1), (74, .invokevirtual 12), (77, .return_)]
/-- SectionTemplatesModel.trim(I)V -/
def am_cd148 : List (Nat × Instr) := [(0, .aload_n 0), (1, .getfield 1), (4, .iload_n 1), (5, .iaload), (6, .ifCond .le 38), (9, .aload_n 0), (10, .getfield 7), (13, .sipush 260), (16, .iload_n 1), (17, .imul), (18, .aload_n 0), (19, .getfield 1), (22, .iload_n 1), (23, .iaload), (24, .iadd), (25, .iconst 1), (26, .isub), (27, .iaload), (28, .ifCond .ne 16), (31, .aload_n 0), (32, .getfield 1), (35, .iload_n 1), (36, .dup2), (37, .iaload), (38, .iconst 1), (39, .isub), (40, .iastore), (41, .goto (-41)), (44, .return_)]
/-- SectionTemplatesModel.compareNumbers(II)I -/
def am_cd149 : List (Nat × Instr) := [(0, .aload_n 0), (1, .getfield 1), (4, .iload_n 1), (5, .iaload), (6, .aload_n 0), (7, .getfield 1), (10, .iload_n 2), (11, .iaload), (12, .if_icmp .eq 24), (15, .aload_n 0), (16, .getfield 1), (19, .iload_n 1), (20, .iaload), (21, .aload_n 0), (22, .getfield 1), (25, .iload_n 2), (26, .iaload), (27, .if_icmp .ge 7), (30, .iconst (-1)), (31, .goto 4), (34, .iconst 1), (35, .ireturn), (36, .aload_n 0), (37, .getfield 1), (40, .iload_n 1), (41, .iaload), (42, .iconst 1), (43, .isub), (44, .istore_n 3), (45, .iload_n 3), (46, .ifCond .lt 36), (49, .aload_n 0), (50, .getfield 7), (53, .sipush 260), (56, .iload_n 1), (57, .imul), (58, .iload_n 3), (59, .iadd), (60, .iaload), (61, .aload_n 0), (62, .getfield 7), (65, .sipush 260), (68, .iload_n 2), (69, .imul), (70, .iload_n 3), (71, .iadd), (72, .iaload), (73, .if_icmp .ne 9), (76, .iinc 3 (-1)), (79, .goto (-34)), (82, .iload_n 3), (83, .ifCond .ge 7), (86, .iconst 0), (87, .goto 35), (90, .aload_n 0), (91, .getfield 7), (94, .sipush 260), (97, .iload_n 1), (98, .imul), (99, .iload_n 3), (100, .iadd), (101, .iaload), (102, .aload_n 0), (103, .getfield 7), (106, .sipush 260), (109, .iload_n 2), (110, .imul), (111, .iload_n 3), (112, .iadd), (113, .iaload), (114, .if_icmp .ge 7), (117, .iconst (-1)), (118, .goto 4), (121, .iconst 1), (122, .ireturn)]
/-- SectionTemplatesModel.takeNumbers(III)V -/
def am_cd150 : List (Nat × Instr) := [(0, .lconst 0), (1, .lstore 4), (3, .aload_n 0), (4, .getfield 1), (7, .iload_n 2), (8, .iaload), (9, .istore 6), (11, .iconst 0), (12, .istore 7), (14, .iload 7), (16, .iload 6), (18, .if_icmp .ge 108), (21, .aload_n 0), (22, .getfield 7), (25, .sipush 260), (28, .iload_n 2), (29, .imul), (30, .iload 7), (32, .iadd), (33, .iaload), (34, .i2l), (35, .lload 4), (37, .lsub), (38, .lstore 8), (40, .lload 8), (42, .iload 7), (44, .aload_n 0), (45, .getfield 1), (48, .iload_n 3), (49, .iaload), (50, .if_icmp .ge 20), (53, .aload_n 0), (54, .getfield 7), (57, .sipush 260), (60, .iload_n 3), (61, .imul), (62, .iload 7), (64, .iadd), (65, .iaload), (66, .i2l), (67, .goto 4), (70, .lconst 0), (71, .lsub), (72, .lstore 8), (74, .lload 8), (76, .lconst 0), (77, .lcmp), (78, .ifCond .ge 7), (81, .lconst 1), (82, .goto 4), (85, .lconst 0), (86, .lstore 4), (88, .aload_n 0), (89, .getfield 7), (92, .sipush 260), (95, .iload_n 1), (96, .imul), (97, .iload 7), (99, .iadd), (100, .lload 8), (102, .lconst 0), (103, .lcmp), (104, .ifCond .ge 12), (107, .lload 8), (109, .ldc2_w 10), (112, .ladd), (113, .goto 5), (116, .lload 8), (118, .l2i), (119, .iastore), (120, .iinc 7 1), (123, .goto (-109)), (126, .aload_n 0), (127, .getfield 1), (130, .iload_n 1), (131, .iload 6), (133, .iastore), (134, .aload_n 0), (135, .iload_n 1), (136, .invokevirtual 12), (139, .return_)]
/-- SectionTemplatesModel.addNumbers(III)V -/
def am_cd151 : List (Nat × Instr) := [(0, .aload_n 0), (1, .getfield 1), (4, .iload_n 2), (5, .iaload), (6, .aload_n 0), (7, .getfield 1), (10, .iload_n 3), (11, .iaload), (12, .if_icmp .le 12), (15, .aload_n 0), (16, .getfield 1), (19, .iload_n 2), (20, .iaload), (21, .goto 9), (24, .aload_n 0), (25, .getfield 1), (28, .iload_n 3), (29, .iaload), (30, .istore 4), (32, .lconst 0), (33, .lstore 5), (35, .iconst 0), (36, .istore 7), (38, .iload 7), (40, .iload 4), (42, .if_icmp .lt 10), (45, .lload 5), (47, .lconst 0), (48, .lcmp), (49, .ifCond .le 109), (52, .lload 5), (54, .lstore 8), (56, .lload 8), (58, .iload 7), (60, .aload_n 0), (61, .getfield 1), (64, .iload_n 2), (65, .iaload), (66, .if_icmp .ge 20), (69, .aload_n 0), (70, .getfield 7), (73, .sipush 260), (76, .iload_n 2), (77, .imul), (78, .iload 7), (80, .iadd), (81, .iaload), (82, .i2l), (83, .goto 4), (86, .lconst 0), (87, .ladd), (88, .lstore 8), (90, .lload 8), (92, .iload 7), (94, .aload_n 0), (95, .getfield 1), (98, .iload_n 3), (99, .iaload), (100, .if_icmp .ge 20), (103, .aload_n 0), (104, .getfield 7), (107, .sipush 260), (110, .iload_n 3), (111, .imul), (112, .iload 7), (114, .iadd), (115, .iaload), (116, .i2l), (117, .goto 4), (120, .lconst 0), (121, .ladd), (122, .lstore 8), (124, .aload_n 0), (125, .getfield 7), (128, .sipush 260), (131, .iload_n 1), (132, .imul), (133, .iload 7), (135, .iadd), (136, .lload 8), (138, .ldc2_w 10), (141, .lrem), (142, .l2i), (143, .iastore), (144, .lload 8), (146, .ldc2_w 10), (149, .ldiv), (150, .lstore 5), (152, .iinc 7 1), (155, .goto (-117)), (158, .aload_n 0), (159, .getfield 1), (162, .iload_n 1), (163, .iload 7), (165, .iastore), (166, .return_)]
/-- SectionTemplatesModel.divideNumbers(IIII)V -/
def am_cd152 : List (Nat × Instr) := [(0, .aload_n 0), (1, .iload_n 2), (2, .iload_n 3), (3, .invokevirtual 18), (6, .aload_n 0), (7, .sipush 252), (10, .iload 4), (12, .invokevirtual 18), (15, .aload_n 0), (16, .getfield 1), (19, .iload_n 1), (20, .iconst 0), (21, .iastore), (22, .iconst 0), (23, .istore 5), (25, .aload_n 0), (26, .sipush 252), (29, .iload_n 2), (30, .invokevirtual 22), (33, .ifCond .gt 22), (36, .aload_n 0), (37, .sipush 252), (40, .sipush 252), (43, .sipush 252), (46, .invokevirtual 26), (49, .iinc 5 1), (52, .goto (-27)), (55, .aload_n 0), (56, .sipush 255), (59, .lconst 1), (60, .invokevirtual 30), (63, .iconst 0), (64, .istore 6), (66, .iload 6), (68, .iload 5), (70, .if_icmp .ge 52), (73, .aload_n 0), (74, .sipush 252), (77, .invokevirtual 34), (80, .aload_n 0), (81, .iload_n 1), (82, .iload_n 1), (83, .iload_n 1), (84, .invokevirtual 26), (87, .aload_n 0), (88, .sipush 252), (91, .iload_n 2), (92, .invokevirtual 22), (95, .ifCond .gt 21), (98, .aload_n 0), (99, .iload_n 2), (100, .iload_n 2), (101, .sipush 252), (104, .invokevirtual 37), (107, .aload_n 0), (108, .iload_n 1), (109, .iload_n 1), (110, .sipush 255), (113, .invokevirtual 26), (116, .iinc 6 1), (119, .goto (-53)), (122, .return_)]
/-- SectionTemplatesModel.unit(I)Z -/
def am_cd153 : List (Nat × Instr) := [(0, .iload_n 1), (1, .bipush 32), (3, .if_icmp .lt 19), (6, .iload_n 1), (7, .bipush 126), (9, .if_icmp .gt 13), (12, .aload_n 0), (13, .getfield 131), (16, .sipush 400), (19, .if_icmp .ne 5), (22, .iconst 0), (23, .ireturn), (24, .aload_n 0), (25, .getfield 83), (28, .aload_n 0), (29, .getfield 131), (32, .iload_n 1), (33, .iastore), (34, .aload_n 0), (35, .dup), (36, .getfield 131), (39, .iconst 1), (40, .iadd), (41, .putfield 131), (44, .iconst 1), (45, .ireturn)]
/-- SectionTemplatesModel.read()I -/
def am_cd154 : List (Nat × Instr) := [(0, .aload_n 0), (1, .iconst 0), (2, .putfield 135), (5, .aload_n 0), (6, .iconst (-1)), (7, .putfield 142), (10, .aload_n 0), (11, .iconst 0), (12, .putfield 154), (15, .iconst 0), (16, .istore_n 1), (17, .iconst 1), (18, .istore_n 2), (19, .iload_n 2), (20, .ifCond .eq 74), (23, .iload_n 1), (24, .ifCond .eq 10), (27, .aload_n 0), (28, .invokevirtual 138), (31, .ifCond .eq 63), (34, .iload_n 1), (35, .bipush 6), (37, .if_icmp .ne 16), (40, .aload_n 0), (41, .aload_n 0), (42, .getfield 135), (45, .putfield 142), (48, .iconst 0), (49, .istore_n 2), (50, .goto (-31)), (53, .aload_n 0), (54, .getfield 98), (57, .bipush 7), (59, .iload_n 1), (60, .iadd), (61, .aload_n 0), (62, .getfield 154), (65, .iastore), (66, .aload_n 0), (67, .bipush 123), (69, .invokevirtual 164), (72, .ifCond .eq 14), (75, .aload_n 0), (76, .invokevirtual 183), (79, .ifCond .eq 7), (82, .iconst 1), (83, .goto 4), (86, .iconst 0), (87, .istore_n 2), (88, .iinc 1 1), (91, .goto (-72)), (94, .aload_n 0), (95, .iconst 0), (96, .putfield 131), (99, .iload_n 2), (100, .ifCond .ne 10), (103, .iconst (-1)), (104, .aload_n 0), (105, .getfield 142), (108, .isub), (109, .ireturn), (110, .aload_n 0), (111, .getfield 98), (114, .bipush 7), (116, .iload_n 1), (117, .iadd), (118, .aload_n 0), (119, .getfield 154), (122, .iastore), (123, .iconst 0), (124, .istore_n 3), (125, .iload_n 3), (126, .aload_n 0), (127, .getfield 154), (130, .if_icmp .ge 73), (133, .aload_n 0), (134, .getfield 86), (137, .iload_n 3), (138, .aload_n 0), (139, .getfield 86), (142, .sipush 150), (145, .iload_n 3), (146, .iadd), (147, .iaload), (148, .iastore), (149, .aload_n 0), (150, .getfield 89), (153, .iload_n 3), (154, .aload_n 0), (155, .getfield 89), (158, .sipush 150), (161, .iload_n 3), (162, .iadd), (163, .iaload), (164, .iastore), (165, .aload_n 0), (166, .getfield 92), (169, .iload_n 3), (170, .aload_n 0), (171, .getfield 92), (174, .sipush 150), (177, .iload_n 3), (178, .iadd), (179, .iaload), (180, .iastore), (181, .aload_n 0), (182, .getfield 95), (185, .iload_n 3), (186, .aload_n 0), (187, .getfield 95), (190, .sipush 150), (193, .iload_n 3), (194, .iadd), (195, .iaload), (196, .iastore), (197, .iinc 3 1), (200, .goto (-75)), (203, .iconst 0), (204, .istore_n 3), (205, .iload_n 3), (206, .iload_n 1), (207, .if_icmp .gt 24), (210, .aload_n 0), (211, .getfield 98), (214, .iload_n 3), (215, .aload_n 0), (216, .getfield 98), (219, .bipush 7), (221, .iload_n 3), (222, .iadd), (223, .iaload), (224, .iastore), (225, .iinc 3 1), (228, .goto (-23)), (231, .aload_n 0), (232, .iload_n 1), (233, .putfield 186), (236, .aload_n 0), (237, .iconst 0), (238, .putfield 189), (241, .aload_n 0), (242, .iconst 0), (243, .putfield 192), (246, .iload_n 1), (247, .ireturn)]
/-- SectionTemplatesModel.next()I -/
def am_cd155 : List (Nat × Instr) := [(0, .aload_n 0), (1, .getfield 135), (4, .aload_n 0), (5, .getfield 131), (8, .if_icmp .ge 30), (11, .aload_n 0), (12, .getfield 83), (15, .aload_n 0), (16, .getfield 135), (19, .iaload), (20, .bipush 32), (22, .if_icmp .ne 16), (25, .aload_n 0), (26, .dup), (27, .getfield 135), (30, .iconst 1), (31, .iadd), (32, .putfield 135), (35, .goto (-35)), (38, .aload_n 0), (39, .getfield 135), (42, .aload_n 0), (43, .getfield 131), (46, .if_icmp .ge 15), (49, .aload_n 0), (50, .getfield 83), (53, .aload_n 0), (54, .getfield 135), (57, .iaload), (58, .goto 4), (61, .iconst 0), (62, .ireturn)]
/-- SectionTemplatesModel.eat(I)Z -/
def am_cd156 : List (Nat × Instr) := [(0, .aload_n 0), (1, .invokevirtual 138), (4, .iload_n 1), (5, .if_icmp .ne 7), (8, .iconst 1), (9, .goto 4), (12, .iconst 0), (13, .istore_n 2), (14, .aload_n 0), (15, .iload_n 2), (16, .ifCond .eq 10), (19, .aload_n 0), (20, .getfield 142), (23, .goto 7), (26, .aload_n 0), (27, .getfield 135), (30, .putfield 142), (33, .aload_n 0), (34, .dup), (35, .getfield 135), (38, .iload_n 2), (39, .ifCond .eq 7), (42, .iconst 1), (43, .goto 4), (46, .iconst 0), (47, .iadd), (48, .putfield 135), (51, .iload_n 2), (52, .ireturn)]
/-- SectionTemplatesModel.readTemplate()Z -/
def am_cd157 : List (Nat × Instr) := [(0, .iconst 0), (1, .istore_n 1), (2, .aload_n 0), (3, .iconst 0), (4, .putfield 167), (7, .iconst 1), (8, .istore_n 2), (9, .iload_n 2), (10, .ifCond .eq 174), (13, .aload_n 0), (14, .invokevirtual 138), (17, .istore_n 3), (18, .iload_n 3), (19, .bipush 76), (21, .if_icmp .eq 33), (24, .iload_n 3), (25, .bipush 66), (27, .if_icmp .eq 27), (30, .iload_n 3), (31, .bipush 74), (33, .if_icmp .eq 21), (36, .iload_n 3), (37, .bipush 83), (39, .if_icmp .eq 15), (42, .iload_n 3), (43, .bipush 87), (45, .if_icmp .eq 9), (48, .iload_n 3), (49, .bipush 63), (51, .if_icmp .ne 7), (54, .iconst 1), (55, .goto 4), (58, .iconst 0), (59, .istore 4), (61, .iload 4), (63, .ifCond .eq 48), (66, .iload_n 1), (67, .bipush 12), (69, .if_icmp .ge 42), (72, .iinc 1 1), (75, .aload_n 0), (76, .dup), (77, .getfield 135), (80, .iconst 1), (81, .iadd), (82, .putfield 135), (85, .iload_n 3), (86, .bipush 63), (88, .if_icmp .ne 13), (91, .aload_n 0), (92, .invokevirtual 174), (95, .ifCond .ne 86), (98, .goto 11), (101, .aload_n 0), (102, .iload_n 3), (103, .invokevirtual 177), (106, .ifCond .ne 75), (109, .iconst 0), (110, .ireturn), (111, .iload_n 3), (112, .bipush 41), (114, .if_icmp .ne 29), (117, .aload_n 0), (118, .getfield 167), (121, .ifCond .le 22), (124, .aload_n 0), (125, .dup), (126, .getfield 135), (129, .iconst 1), (130, .iadd), (131, .putfield 135), (134, .aload_n 0), (135, .invokevirtual 180), (138, .ifCond .ne 43), (141, .iconst 0), (142, .ireturn), (143, .iload_n 3), (144, .bipush 125), (146, .if_icmp .ne 25), (149, .aload_n 0), (150, .getfield 167), (153, .ifCond .ne 18), (156, .aload_n 0), (157, .dup), (158, .getfield 135), (161, .iconst 1), (162, .iadd), (163, .putfield 135), (166, .iconst 0), (167, .istore_n 2), (168, .goto 13), (171, .aload_n 0), (172, .aload_n 0), (173, .getfield 135), (176, .putfield 142), (179, .iconst 0), (180, .ireturn), (181, .goto (-172)), (184, .iconst 1), (185, .ireturn)]
/-- SectionTemplatesModel.readAsk()Z -/
def am_cd158 : List (Nat × Instr) := [(0, .aload_n 0), (1, .invokevirtual 138), (4, .istore_n 1), (5, .iload_n 1), (6, .bipush 99), (8, .if_icmp .eq 31), (11, .iload_n 1), (12, .bipush 102), (14, .if_icmp .eq 25), (17, .iload_n 1), (18, .bipush 111), (20, .if_icmp .eq 19), (23, .iload_n 1), (24, .bipush 104), (26, .if_icmp .eq 13), (29, .aload_n 0), (30, .aload_n 0), (31, .getfield 135), (34, .putfield 142), (37, .iconst 0), (38, .ireturn), (39, .aload_n 0), (40, .dup), (41, .getfield 135), (44, .iconst 1), (45, .iadd), (46, .putfield 135), (49, .iload_n 1), (50, .bipush 104), (52, .if_icmp .ne 14), (55, .aload_n 0), (56, .iconst 0), (57, .iconst 1), (58, .invokevirtual 160), (61, .ifCond .ne 5), (64, .iconst 0), (65, .ireturn), (66, .iload_n 1), (67, .bipush 104), (69, .if_icmp .ne 10), (72, .aload_n 0), (73, .getfield 151), (76, .goto 4), (79, .iconst 0), (80, .istore_n 2), (81, .aload_n 0), (82, .invokevirtual 170), (85, .ifCond .ne 5), (88, .iconst 0), (89, .ireturn), (90, .aload_n 0), (91, .getfield 101), (94, .aload_n 0), (95, .getfield 167), (98, .aload_n 0), (99, .getfield 154), (102, .iastore), (103, .aload_n 0), (104, .dup), (105, .getfield 167), (108, .iconst 1), (109, .iadd), (110, .putfield 167), (113, .aload_n 0), (114, .bipush 6), (116, .iload_n 1), (117, .iload_n 2), (118, .invokevirtual 157), (121, .iconst 1), (122, .ireturn)]
/-- SectionTemplatesModel.readNumber(ZZ)Z -/
def am_cd159 : List (Nat × Instr) := [(0, .iload_n 1), (1, .ifCond .eq 16), (4, .aload_n 0), (5, .invokevirtual 138), (8, .bipush 45), (10, .if_icmp .ne 7), (13, .iconst 1), (14, .goto 4), (17, .iconst 0), (18, .istore_n 3), (19, .aload_n 0), (20, .dup), (21, .getfield 135), (24, .iload_n 3), (25, .ifCond .eq 7), (28, .iconst 1), (29, .goto 4), (32, .iconst 0), (33, .iadd), (34, .putfield 135), (37, .aload_n 0), (38, .invokevirtual 138), (41, .istore 4), (43, .aload_n 0), (44, .getfield 135), (47, .istore 5), (49, .iload 4), (51, .bipush 48), (53, .if_icmp .lt 10), (56, .iload 4), (58, .bipush 57), (60, .if_icmp .le 13), (63, .aload_n 0), (64, .aload_n 0), (65, .getfield 135), (68, .putfield 142), (71, .iconst 0), (72, .ireturn), (73, .lconst 0), (74, .lstore 6), (76, .aload_n 0), (77, .getfield 135), (80, .aload_n 0), (81, .getfield 131), (84, .if_icmp .ge 81), (87, .aload_n 0), (88, .getfield 83), (91, .aload_n 0), (92, .getfield 135), (95, .iaload), (96, .bipush 48), (98, .if_icmp .lt 67), (101, .aload_n 0), (102, .getfield 83), (105, .aload_n 0), (106, .getfield 135), (109, .iaload), (110, .bipush 57), (112, .if_icmp .gt 53), (115, .lload 6), (117, .ldc2_w 145), (120, .lcmp), (121, .ifCond .ge 27), (124, .ldc2_w 147), (127, .lload 6), (129, .lmul), (130, .aload_n 0), (131, .getfield 83), (134, .aload_n 0), (135, .getfield 135), (138, .iaload), (139, .i2l), (140, .ladd), (141, .ldc2_w 149), (144, .lsub), (145, .goto 5), (148, .lload 6), (150, .lstore 6), (152, .aload_n 0), (153, .dup), (154, .getfield 135), (157, .iconst 1), (158, .iadd), (159, .putfield 135), (162, .goto (-86)), (165, .aload_n 0), (166, .getfield 135), (169, .iload 5), (171, .isub), (172, .istore 8), (174, .iload 8), (176, .iconst 5), (177, .if_icmp .gt 27), (180, .iload 4), (182, .bipush 48), (184, .if_icmp .ne 9), (187, .iload 8), (189, .iconst 1), (190, .if_icmp .gt 14), (193, .lload 6), (195, .lconst 0), (196, .lcmp), (197, .ifCond .ne 15), (200, .iload_n 2), (201, .ifCond .ne 11), (204, .aload_n 0), (205, .iload 5), (207, .putfield 142), (210, .iconst 0), (211, .ireturn), (212, .aload_n 0), (213, .iload_n 3), (214, .ifCond .eq 9), (217, .lload 6), (219, .lneg), (220, .goto 5), (223, .lload 6), (225, .l2i), (226, .putfield 151), (229, .iconst 1), (230, .ireturn)]
/-- SectionTemplatesModel.open()Z -/
def am_cd160 : List (Nat × Instr) := [(0, .aload_n 0), (1, .invokevirtual 138), (4, .bipush 40), (6, .if_icmp .ne 21), (9, .aload_n 0), (10, .getfield 167), (13, .iconst 5), (14, .if_icmp .ne 13), (17, .aload_n 0), (18, .aload_n 0), (19, .getfield 135), (22, .putfield 142), (25, .iconst 0), (26, .ireturn), (27, .aload_n 0), (28, .bipush 40), (30, .invokevirtual 164), (33, .ireturn)]
/-- SectionTemplatesModel.row(III)V -/
def am_cd161 : List (Nat × Instr) := [(0, .sipush 150), (3, .aload_n 0), (4, .getfield 154), (7, .iadd), (8, .istore 4), (10, .aload_n 0), (11, .getfield 86), (14, .iload 4), (16, .iload_n 1), (17, .iastore), (18, .aload_n 0), (19, .getfield 89), (22, .iload 4), (24, .iload_n 2), (25, .iastore), (26, .aload_n 0), (27, .getfield 92), (30, .iload 4), (32, .iload_n 3), (33, .iastore), (34, .aload_n 0), (35, .getfield 95), (38, .iload 4), (40, .iconst 0), (41, .iastore), (42, .aload_n 0), (43, .dup), (44, .getfield 154), (47, .iconst 1), (48, .iadd), (49, .putfield 154), (52, .return_)]
/-- SectionTemplatesModel.readStep(I)Z -/
def am_cd162 : List (Nat × Instr) := [(0, .iconst 0), (1, .istore_n 2), (2, .iload_n 1), (3, .bipush 87), (5, .if_icmp .ne 12), (8, .aload_n 0), (9, .iconst 5), (10, .iconst 0), (11, .iconst 0), (12, .invokevirtual 157), (15, .iconst 1), (16, .ireturn), (17, .aload_n 0), (18, .iconst 0), (19, .iload_n 1), (20, .bipush 83), (22, .if_icmp .eq 7), (25, .iconst 1), (26, .goto 4), (29, .iconst 0), (30, .invokevirtual 160), (33, .ifCond .ne 5), (36, .iconst 0), (37, .ireturn), (38, .aload_n 0), (39, .getfield 151), (42, .istore_n 2), (43, .iload_n 1), (44, .bipush 66), (46, .if_icmp .ne 12), (49, .aload_n 0), (50, .iconst 2), (51, .iload_n 2), (52, .iconst 0), (53, .invokevirtual 157), (56, .iconst 1), (57, .ireturn), (58, .iload_n 1), (59, .bipush 83), (61, .if_icmp .ne 35), (64, .aload_n 0), (65, .bipush 47), (67, .invokevirtual 164), (70, .ifCond .eq 12), (73, .aload_n 0), (74, .iconst 0), (75, .iconst 0), (76, .invokevirtual 160), (79, .ifCond .ne 5), (82, .iconst 0), (83, .ireturn), (84, .aload_n 0), (85, .iconst 4), (86, .iload_n 2), (87, .aload_n 0), (88, .getfield 151), (91, .invokevirtual 157), (94, .iconst 1), (95, .ireturn), (96, .aload_n 0), (97, .iconst 1), (98, .iconst 1), (99, .invokevirtual 160), (102, .ifCond .ne 5), (105, .iconst 0), (106, .ireturn), (107, .aload_n 0), (108, .iload_n 1), (109, .bipush 76), (111, .if_icmp .ne 7), (114, .iconst 1), (115, .goto 4), (118, .iconst 3), (119, .iload_n 2), (120, .aload_n 0), (121, .getfield 151), (124, .invokevirtual 157), (127, .iconst 1), (128, .ireturn)]
/-- SectionTemplatesModel.close()Z -/
def am_cd163 : List (Nat × Instr) := [(0, .aload_n 0), (1, .dup), (2, .getfield 167), (5, .iconst 1), (6, .isub), (7, .putfield 167), (10, .sipush 150), (13, .aload_n 0), (14, .getfield 101), (17, .aload_n 0), (18, .getfield 167), (21, .iaload), (22, .iadd), (23, .istore_n 1), (24, .aload_n 0), (25, .getfield 86), (28, .iload_n 1), (29, .iaload), (30, .bipush 6), (32, .if_icmp .ne 74), (35, .aload_n 0), (36, .invokevirtual 138), (39, .bipush 58), (41, .if_icmp .ne 65), (44, .aload_n 0), (45, .dup), (46, .getfield 135), (49, .iconst 1), (50, .iadd), (51, .putfield 135), (54, .aload_n 0), (55, .invokevirtual 170), (58, .ifCond .ne 5), (61, .iconst 0), (62, .ireturn), (63, .aload_n 0), (64, .getfield 101), (67, .aload_n 0), (68, .getfield 167), (71, .aload_n 0), (72, .getfield 154), (75, .iastore), (76, .aload_n 0), (77, .dup), (78, .getfield 167), (81, .iconst 1), (82, .iadd), (83, .putfield 167), (86, .aload_n 0), (87, .bipush 7), (89, .iconst 0), (90, .iconst 0), (91, .invokevirtual 157), (94, .aload_n 0), (95, .getfield 95), (98, .iload_n 1), (99, .aload_n 0), (100, .getfield 154), (103, .iastore), (104, .iconst 1), (105, .ireturn), (106, .aload_n 0), (107, .getfield 86), (110, .iload_n 1), (111, .iaload), (112, .bipush 6), (114, .if_icmp .ne 18), (117, .aload_n 0), (118, .getfield 95), (121, .iload_n 1), (122, .iconst (-1)), (123, .aload_n 0), (124, .getfield 154), (127, .isub), (128, .iastore), (129, .goto 13), (132, .aload_n 0), (133, .getfield 95), (136, .iload_n 1), (137, .aload_n 0), (138, .getfield 154), (141, .iastore), (142, .iconst 1), (143, .ireturn)]
/-- SectionTemplatesModel.ground(II)Z -/
def am_cd164 : List (Nat × Instr) := [(0, .iload_n 1), (1, .ldc 195), (3, .ldc 196), (5, .invokestatic 197), (8, .ifCond .eq 45), (11, .iload_n 2), (12, .ldc 195), (14, .ldc 196), (16, .invokestatic 197), (19, .ifCond .eq 34), (22, .aload_n 0), (23, .getfield 201), (26, .bipush 12), (28, .if_icmp .eq 25), (31, .aload_n 0), (32, .getfield 201), (35, .ifCond .le 20), (38, .iload_n 1), (39, .aload_n 0), (40, .getfield 104), (43, .aload_n 0), (44, .getfield 201), (47, .iconst 1), (48, .isub), (49, .iaload), (50, .if_icmp .gt 5), (53, .iconst 0), (54, .ireturn), (55, .aload_n 0), (56, .getfield 104), (59, .aload_n 0), (60, .getfield 201), (63, .iload_n 1), (64, .iastore), (65, .aload_n 0), (66, .getfield 107), (69, .aload_n 0), (70, .getfield 201), (73, .iload_n 2), (74, .iastore), (75, .aload_n 0), (76, .dup), (77, .getfield 201), (80, .iconst 1), (81, .iadd), (82, .putfield 201), (85, .iconst 1), (86, .ireturn)]
/-- SectionTemplatesModel.isIn(III)Z -/
def am_cd165 : List (Nat × Instr) := [(0, .iload_n 0), (1, .iload_n 1), (2, .if_icmp .lt 12), (5, .iload_n 0), (6, .iload_n 2), (7, .if_icmp .gt 7), (10, .iconst 1), (11, .goto 4), (14, .iconst 0), (15, .ireturn)]
/-- SectionTemplatesModel.clear()V -/
def am_cd166 : List (Nat × Instr) := [(0, .aload_n 0), (1, .iconst 0), (2, .putfield 201), (5, .return_)]
/-- SectionTemplatesModel.axis(II)Z -/
def am_cd167 : List (Nat × Instr) := [(0, .iload_n 1), (1, .ldc 195), (3, .ldc 196), (5, .invokestatic 197), (8, .ifCond .eq 16), (11, .iload_n 2), (12, .sipush (-150)), (15, .sipush 150), (18, .invokestatic 197), (21, .ifCond .ne 5), (24, .iconst 0), (25, .ireturn), (26, .aload_n 0), (27, .iload_n 1), (28, .putfield 204), (31, .aload_n 0), (32, .iload_n 2), (33, .putfield 207), (36, .iconst 1), (37, .ireturn)]
/-- SectionTemplatesModel.land(II)Z -/
def am_cd168 : List (Nat × Instr) := [(0, .iload_n 1), (1, .iconst (-1)), (2, .if_icmp .eq 8), (5, .iload_n 1), (6, .iconst 1), (7, .if_icmp .ne 13), (10, .iload_n 2), (11, .ifCond .lt 9), (14, .iload_n 2), (15, .ldc 110), (17, .if_icmp .le 5), (20, .iconst 0), (21, .ireturn), (22, .aload_n 0), (23, .getfield 111), (26, .iload_n 1), (27, .iconst 1), (28, .iadd), (29, .iload_n 2), (30, .iastore), (31, .iconst 1), (32, .ireturn)]
/-- SectionTemplatesModel.run(I)I -/
def am_cd169 : List (Nat × Instr) := [(0, .iload_n 1), (1, .ifCond .lt 11), (4, .iload_n 1), (5, .aload_n 0), (6, .getfield 186), (9, .if_icmp .lt 5), (12, .iconst (-1)), (13, .ireturn), (14, .aload_n 0), (15, .iconst 0), (16, .putfield 192), (19, .aload_n 0), (20, .iconst 0), (21, .putfield 239), (24, .aload_n 0), (25, .getfield 114), (28, .iconst 0), (29, .iconst 0), (30, .iastore), (31, .aload_n 0), (32, .iconst 0), (33, .lconst 0), (34, .lconst 1), (35, .invokevirtual 127), (38, .aload_n 0), (39, .bipush 26), (41, .aload_n 0), (42, .getfield 204), (45, .i2l), (46, .lconst 1), (47, .invokevirtual 127), (50, .aload_n 0), (51, .iload_n 1), (52, .iconst (-1)), (53, .invokevirtual 278), (56, .aload_n 0), (57, .invokevirtual 281), (60, .aload_n 0), (61, .aload_n 0), (62, .getfield 242), (65, .putfield 239), (68, .aload_n 0), (69, .iload_n 1), (70, .iconst 1), (71, .invokevirtual 278), (74, .aload_n 0), (75, .aload_n 0), (76, .getfield 239), (79, .iconst 1), (80, .iadd), (81, .aload_n 0), (82, .getfield 242), (85, .iadd), (86, .putfield 189), (89, .aload_n 0), (90, .invokevirtual 284), (93, .aload_n 0), (94, .getfield 189), (97, .ireturn)]
/-- SectionTemplatesModel.walk(II)V -/
def am_cd170 : List (Nat × Instr) := [(0, .aload_n 0), (1, .iload_n 2), (2, .putfield 223), (5, .aload_n 0), (6, .lconst 0), (7, .putfield 226), (10, .aload_n 0), (11, .ldc2_w 233), (14, .aload_n 0), (15, .getfield 204), (18, .i2l), (19, .lmul), (20, .putfield 220), (23, .aload_n 0), (24, .iconst 0), (25, .putfield 242), (28, .aload_n 0), (29, .iconst 0), (30, .putfield 251), (33, .aload_n 0), (34, .getfield 98), (37, .iload_n 1), (38, .iaload), (39, .istore_n 3), (40, .iload_n 3), (41, .aload_n 0), (42, .getfield 98), (45, .iload_n 1), (46, .iconst 1), (47, .iadd), (48, .iaload), (49, .if_icmp .ge 344), (52, .aload_n 0), (53, .getfield 251), (56, .ifCond .ne 337), (59, .iload_n 3), (60, .iconst 1), (61, .iadd), (62, .istore 4), (64, .aload_n 0), (65, .getfield 86), (68, .iload_n 3), (69, .iaload), (70, .tableswitch 309 1 6 #[38, 86, 138, 182, 201, 208]), (108, .aload_n 0), (109, .dup), (110, .getfield 226), (113, .aload_n 0), (114, .getfield 89), (117, .iload_n 3), (118, .iaload), (119, .i2l), (120, .ladd), (121, .putfield 226), (124, .aload_n 0), (125, .dup), (126, .getfield 220), (129, .aload_n 0), (130, .getfield 89), (133, .iload_n 3), (134, .iaload), (135, .i2l), (136, .aload_n 0), (137, .getfield 92), (140, .iload_n 3), (141, .iaload), (142, .i2l), (143, .lmul), (144, .lsub), (145, .putfield 220), (148, .aload_n 0), (149, .iconst 1), (150, .invokevirtual 245), (153, .goto 234), (156, .aload_n 0), (157, .dup), (158, .getfield 226), (161, .aload_n 0), (162, .getfield 89), (165, .iload_n 3), (166, .iaload), (167, .i2l), (168, .ladd), (169, .putfield 226), (172, .aload_n 0), (173, .dup), (174, .getfield 220), (177, .aload_n 0), (178, .getfield 223), (181, .i2l), (182, .aload_n 0), (183, .getfield 89), (186, .iload_n 3), (187, .iaload), (188, .i2l), (189, .lmul), (190, .aload_n 0), (191, .getfield 207), (194, .i2l), (195, .lmul), (196, .ladd), (197, .putfield 220), (200, .aload_n 0), (201, .iconst 2), (202, .invokevirtual 245), (205, .goto 182), (208, .aload_n 0), (209, .dup), (210, .getfield 226), (213, .aload_n 0), (214, .getfield 89), (217, .iload_n 3), (218, .iaload), (219, .i2l), (220, .ladd), (221, .putfield 226), (224, .aload_n 0), (225, .dup), (226, .getfield 220), (229, .ldc2_w 233), (232, .aload_n 0), (233, .getfield 92), (236, .iload_n 3), (237, .iaload), (238, .i2l), (239, .lmul), (240, .lsub), (241, .putfield 220), (244, .aload_n 0), (245, .iconst 3), (246, .invokevirtual 245), (249, .goto 138), (252, .aload_n 0), (253, .aload_n 0), (254, .getfield 89), (257, .iload_n 3), (258, .iaload), (259, .aload_n 0), (260, .getfield 92), (263, .iload_n 3), (264, .iaload), (265, .invokevirtual 265), (268, .goto 119), (271, .aload_n 0), (272, .invokevirtual 268), (275, .goto 112), (278, .aload_n 0), (279, .aload_n 0), (280, .getfield 89), (283, .iload_n 3), (284, .iaload), (285, .aload_n 0), (286, .getfield 92), (289, .iload_n 3), (290, .iaload), (291, .invokevirtual 271), (294, .istore 5), (296, .aload_n 0), (297, .getfield 121), (300, .aload_n 0), (301, .getfield 192), (304, .iload 5), (306, .ifCond .eq 7), (309, .iconst 1), (310, .goto 17), (313, .aload_n 0), (314, .getfield 95), (317, .iload_n 3), (318, .iaload), (319, .ifCond .lt 7), (322, .iconst 2), (323, .goto 4), (326, .iconst 0), (327, .iastore), (328, .aload_n 0), (329, .dup), (330, .getfield 192), (333, .iconst 1), (334, .iadd), (335, .putfield 192), (338, .iload 5), (340, .ifCond .eq 8), (343, .iload 4), (345, .goto 29), (348, .aload_n 0), (349, .getfield 95), (352, .iload_n 3), (353, .iaload), (354, .ifCond .lt 12), (357, .aload_n 0), (358, .getfield 95), (361, .iload_n 3), (362, .iaload), (363, .goto 11), (366, .iconst (-1)), (367, .aload_n 0), (368, .getfield 95), (371, .iload_n 3), (372, .iaload), (373, .isub), (374, .istore 4), (376, .goto 11), (379, .aload_n 0), (380, .getfield 95), (383, .iload_n 3), (384, .iaload), (385, .istore 4), (387, .iload 4), (389, .istore_n 3), (390, .goto (-350)), (393, .aload_n 0), (394, .getfield 117), (397, .iload_n 2), (398, .iconst 1), (399, .iadd), (400, .aload_n 0), (401, .getfield 251), (404, .bastore), (405, .return_)]
/-- SectionTemplatesModel.corner(I)V -/
def am_cd171 : List (Nat × Instr) := [(0, .aload_n 0), (1, .getfield 239), (4, .iconst 1), (5, .iadd), (6, .aload_n 0), (7, .getfield 242), (10, .iadd), (11, .istore_n 2), (12, .aload_n 0), (13, .getfield 114), (16, .iload_n 2), (17, .iload_n 1), (18, .iastore), (19, .aload_n 0), (20, .iconst 0), (21, .iload_n 2), (22, .iadd), (23, .aload_n 0), (24, .getfield 223), (27, .i2l), (28, .aload_n 0), (29, .getfield 226), (32, .lmul), (33, .lconst 1), (34, .invokevirtual 127), (37, .aload_n 0), (38, .bipush 26), (40, .iload_n 2), (41, .iadd), (42, .aload_n 0), (43, .getfield 220), (46, .ldc2_w 233), (49, .invokevirtual 127), (52, .aload_n 0), (53, .dup), (54, .getfield 242), (57, .iconst 1), (58, .iadd), (59, .putfield 242), (62, .return_)]
/-- SectionTemplatesModel.slope(II)V -/
def am_cd172 : List (Nat × Instr) := [(0, .aload_n 0), (1, .invokevirtual 235), (4, .lstore_n 3), (5, .aload_n 0), (6, .getfield 239), (9, .iconst 1), (10, .iadd), (11, .aload_n 0), (12, .getfield 242), (15, .iadd), (16, .istore 5), (18, .aload_n 0), (19, .iconst 4), (20, .invokevirtual 245), (23, .aload_n 0), (24, .iconst 1), (25, .putfield 251), (28, .lload_n 3), (29, .lconst 0), (30, .lcmp), (31, .ifCond .ne 4), (34, .return_), (35, .lload_n 3), (36, .lconst 0), (37, .lcmp), (38, .ifCond .ge 7), (41, .iconst 1), (42, .goto 4), (45, .iconst (-1)), (46, .istore 6), (48, .aload_n 0), (49, .getfield 223), (52, .ifCond .le 7), (55, .iconst 0), (56, .goto 9), (59, .aload_n 0), (60, .getfield 201), (63, .iconst 1), (64, .isub), (65, .istore 7), (67, .iload 7), (69, .ifCond .lt 46), (72, .iload 7), (74, .aload_n 0), (75, .getfield 201), (78, .if_icmp .ge 37), (81, .aload_n 0), (82, .getfield 223), (85, .i2l), (86, .aload_n 0), (87, .getfield 104), (90, .iload 7), (92, .iaload), (93, .i2l), (94, .lmul), (95, .aload_n 0), (96, .getfield 226), (99, .lcmp), (100, .ifCond .gt 15), (103, .iload 7), (105, .aload_n 0), (106, .getfield 223), (109, .iadd), (110, .istore 7), (112, .goto (-45)), (115, .iload 7), (117, .ifCond .lt 37), (120, .iload 7), (122, .aload_n 0), (123, .getfield 201), (126, .if_icmp .ge 28), (129, .aload_n 0), (130, .iload 7), (132, .iload 6), (134, .iload_n 1), (135, .iload_n 2), (136, .invokevirtual 255), (139, .ifCond .eq 15), (142, .iload 7), (144, .aload_n 0), (145, .getfield 223), (148, .iadd), (149, .istore 7), (151, .goto (-36)), (154, .iload 7), (156, .aload_n 0), (157, .getfield 223), (160, .isub), (161, .istore 8), (163, .iload 8), (165, .ifCond .lt 16), (168, .iload 8), (170, .aload_n 0), (171, .getfield 201), (174, .if_icmp .ge 7), (177, .iconst 1), (178, .goto 4), (181, .iconst 0), (182, .istore 9), (184, .iload 7), (186, .ifCond .lt 16), (189, .iload 7), (191, .aload_n 0), (192, .getfield 201), (195, .if_icmp .ge 7), (198, .iconst 1), (199, .goto 4), (202, .iconst 0), (203, .istore 10), (205, .iload 9), (207, .ifCond .eq 25), (210, .aload_n 0), (211, .getfield 223), (214, .i2l), (215, .aload_n 0), (216, .getfield 104), (219, .iload 8), (221, .iaload), (222, .i2l), (223, .lmul), (224, .aload_n 0), (225, .getfield 226), (228, .lsub), (229, .goto 4), (232, .lconst 0), (233, .lstore 11), (235, .aload_n 0), (236, .getfield 201), (239, .ifCond .ne 7), (242, .lconst 0), (243, .goto 27), (246, .iload 9), (248, .ifCond .eq 14), (251, .aload_n 0), (252, .getfield 107), (255, .iload 8), (257, .iaload), (258, .i2l), (259, .goto 11), (262, .aload_n 0), (263, .getfield 107), (266, .iload 7), (268, .iaload), (269, .i2l), (270, .lstore 13), (272, .iload 9), (274, .ifCond .eq 33), (277, .iload 10), (279, .ifCond .eq 28), (282, .aload_n 0), (283, .getfield 223), (286, .i2l), (287, .aload_n 0), (288, .getfield 104), (291, .iload 7), (293, .iaload), (294, .aload_n 0), (295, .getfield 104), (298, .iload 8), (300, .iaload), (301, .isub), (302, .i2l), (303, .lmul), (304, .goto 4), (307, .lconst 1), (308, .lstore 15), (310, .iload 9), (312, .ifCond .eq 27), (315, .iload 10), (317, .ifCond .eq 22), (320, .aload_n 0), (321, .getfield 107), (324, .iload 7), (326, .iaload), (327, .aload_n 0), (328, .getfield 107), (331, .iload 8), (333, .iaload), (334, .isub), (335, .i2l), (336, .goto 4), (339, .lconst 0), (340, .lstore 17), (342, .aload_n 0), (343, .bipush 94), (345, .aload_n 0), (346, .getfield 220), (349, .ldc2_w 233), (352, .lload 13), (354, .lmul), (355, .lsub), (356, .lload 15), (358, .lmul), (359, .ldc2_w 233), (362, .lload 17), (364, .lmul), (365, .iload 9), (367, .ifCond .eq 13), (370, .iload 10), (372, .ifCond .eq 8), (375, .lload 11), (377, .goto 4), (380, .lconst 0), (381, .lmul), (382, .ladd), (383, .ldc2_w 233), (386, .invokevirtual 127), (389, .aload_n 0), (390, .bipush 95), (392, .iload_n 2), (393, .i2l), (394, .lload 17), (396, .iload_n 2), (397, .i2l), (398, .lmul), (399, .iload 6), (401, .iload_n 1), (402, .imul), (403, .i2l), (404, .lload 15), (406, .lmul), (407, .lsub), (408, .invokevirtual 127), (411, .aload_n 0), (412, .bipush 94), (414, .bipush 94), (416, .bipush 95), (418, .invokevirtual 259), (421, .aload_n 0), (422, .bipush 95), (424, .aload_n 0), (425, .getfield 223), (428, .i2l), (429, .lconst 1), (430, .invokevirtual 127), (433, .aload_n 0), (434, .bipush 95), (436, .bipush 95), (438, .bipush 94), (440, .invokevirtual 259), (443, .aload_n 0), (444, .iconst 0), (445, .iload 5), (447, .iadd), (448, .iconst 0), (449, .iload 5), (451, .iadd), (452, .bipush 95), (454, .invokevirtual 262), (457, .aload_n 0), (458, .bipush 95), (460, .iload 6), (462, .i2l), (463, .iload_n 1), (464, .i2l), (465, .lmul), (466, .iload_n 2), (467, .i2l), (468, .invokevirtual 127), (471, .aload_n 0), (472, .bipush 95), (474, .bipush 95), (476, .bipush 94), (478, .invokevirtual 259), (481, .aload_n 0), (482, .bipush 26), (484, .iload 5), (486, .iadd), (487, .bipush 26), (489, .iload 5), (491, .iadd), (492, .bipush 95), (494, .invokevirtual 262), (497, .return_)]
/-- SectionTemplatesModel.above()J -/
def am_cd173 : List (Nat × Instr) := [(0, .aload_n 0), (1, .getfield 201), (4, .ifCond .ne 13), (7, .aload_n 0), (8, .lconst 1), (9, .putfield 216), (12, .aload_n 0), (13, .getfield 220), (16, .lreturn), (17, .aload_n 0), (18, .getfield 223), (21, .i2l), (22, .aload_n 0), (23, .getfield 226), (26, .lmul), (27, .lstore_n 1), (28, .aload_n 0), (29, .lload_n 1), (30, .invokevirtual 229), (33, .aload_n 0), (34, .aload_n 0), (35, .getfield 210), (38, .aload_n 0), (39, .getfield 213), (42, .if_icmp .ne 7), (45, .lconst 1), (46, .goto 23), (49, .aload_n 0), (50, .getfield 104), (53, .aload_n 0), (54, .getfield 213), (57, .iaload), (58, .aload_n 0), (59, .getfield 104), (62, .aload_n 0), (63, .getfield 210), (66, .iaload), (67, .isub), (68, .i2l), (69, .putfield 216), (72, .aload_n 0), (73, .getfield 210), (76, .aload_n 0), (77, .getfield 213), (80, .if_icmp .ne 7), (83, .lconst 0), (84, .goto 23), (87, .aload_n 0), (88, .getfield 107), (91, .aload_n 0), (92, .getfield 213), (95, .iaload), (96, .aload_n 0), (97, .getfield 107), (100, .aload_n 0), (101, .getfield 210), (104, .iaload), (105, .isub), (106, .i2l), (107, .lstore_n 3), (108, .aload_n 0), (109, .getfield 210), (112, .aload_n 0), (113, .getfield 213), (116, .if_icmp .ne 7), (119, .lconst 0), (120, .goto 15), (123, .lload_n 1), (124, .aload_n 0), (125, .getfield 104), (128, .aload_n 0), (129, .getfield 210), (132, .iaload), (133, .i2l), (134, .lsub), (135, .lstore 5), (137, .aload_n 0), (138, .getfield 220), (141, .aload_n 0), (142, .getfield 216), (145, .lmul), (146, .ldc2_w 233), (149, .aload_n 0), (150, .getfield 107), (153, .aload_n 0), (154, .getfield 210), (157, .iaload), (158, .i2l), (159, .aload_n 0), (160, .getfield 216), (163, .lmul), (164, .lload_n 3), (165, .lload 5), (167, .lmul), (168, .ladd), (169, .lmul), (170, .lsub), (171, .lreturn)]
/-- SectionTemplatesModel.line(J)V -/
def am_cd174 : List (Nat × Instr) := [(0, .iconst 0), (1, .istore_n 3), (2, .iload_n 3), (3, .aload_n 0), (4, .getfield 201), (7, .if_icmp .ge 21), (10, .aload_n 0), (11, .getfield 104), (14, .iload_n 3), (15, .iaload), (16, .i2l), (17, .lload_n 1), (18, .lcmp), (19, .ifCond .gt 9), (22, .iinc 3 1), (25, .goto (-23)), (28, .aload_n 0), (29, .iload_n 3), (30, .ifCond .ne 7), (33, .iconst 0), (34, .goto 6), (37, .iload_n 3), (38, .iconst 1), (39, .isub), (40, .putfield 210), (43, .aload_n 0), (44, .iload_n 3), (45, .aload_n 0), (46, .getfield 201), (49, .if_icmp .ne 12), (52, .aload_n 0), (53, .getfield 201), (56, .iconst 1), (57, .isub), (58, .goto 4), (61, .iload_n 3), (62, .putfield 213), (65, .aload_n 0), (66, .iload_n 3), (67, .ifCond .ne 7), (70, .iconst 0), (71, .goto 7), (74, .aload_n 0), (75, .getfield 213), (78, .putfield 213), (81, .return_)]
/-- SectionTemplatesModel.isBeyond(IIII)Z -/
def am_cd175 : List (Nat × Instr) := [(0, .aload_n 0), (1, .getfield 223), (4, .i2l), (5, .aload_n 0), (6, .getfield 104), (9, .iload_n 1), (10, .iaload), (11, .i2l), (12, .lmul), (13, .aload_n 0), (14, .getfield 226), (17, .lsub), (18, .lstore 5), (20, .aload_n 0), (21, .getfield 220), (24, .iload 4), (26, .i2l), (27, .lmul), (28, .iload_n 2), (29, .i2l), (30, .ldc2_w 233), (33, .lmul), (34, .iload_n 3), (35, .i2l), (36, .lmul), (37, .lload 5), (39, .lmul), (40, .ladd), (41, .lstore 7), (43, .ldc2_w 233), (46, .aload_n 0), (47, .getfield 107), (50, .iload_n 1), (51, .iaload), (52, .i2l), (53, .lmul), (54, .iload 4), (56, .i2l), (57, .lmul), (58, .lstore 9), (60, .iload_n 2), (61, .ifCond .ge 19), (64, .lload 7), (66, .lload 9), (68, .lcmp), (69, .ifCond .le 7), (72, .iconst 1), (73, .goto 20), (76, .iconst 0), (77, .goto 16), (80, .lload 7), (82, .lload 9), (84, .lcmp), (85, .ifCond .ge 7), (88, .iconst 1), (89, .goto 4), (92, .iconst 0), (93, .ireturn)]
/-- SectionTemplatesModel.times(III)V -/
def am_cd176 : List (Nat × Instr) := [(0, .aload_n 0), (1, .sipush 256), (4, .iconst 2), (5, .iload_n 2), (6, .imul), (7, .iconst 2), (8, .iload_n 3), (9, .imul), (10, .invokevirtual 62), (13, .aload_n 0), (14, .sipush 257), (17, .iconst 2), (18, .iload_n 2), (19, .imul), (20, .iconst 1), (21, .iadd), (22, .iconst 2), (23, .iload_n 3), (24, .imul), (25, .iconst 1), (26, .iadd), (27, .invokevirtual 62), (30, .aload_n 0), (31, .getfield 44), (34, .iload_n 1), (35, .aload_n 0), (36, .getfield 44), (39, .iload_n 2), (40, .iaload), (41, .aload_n 0), (42, .getfield 44), (45, .iload_n 3), (46, .iaload), (47, .imul), (48, .iastore), (49, .aload_n 0), (50, .iconst 2), (51, .iload_n 1), (52, .imul), (53, .sipush 256), (56, .invokevirtual 18), (59, .aload_n 0), (60, .iconst 2), (61, .iload_n 1), (62, .imul), (63, .iconst 1), (64, .iadd), (65, .sipush 257), (68, .invokevirtual 18), (71, .aload_n 0), (72, .iload_n 1), (73, .invokevirtual 59), (76, .return_)]
/-- SectionTemplatesModel.multiplyNumbers(III)V -/
def am_cd177 : List (Nat × Instr) := [(0, .aload_n 0), (1, .getfield 1), (4, .iload_n 2), (5, .iaload), (6, .aload_n 0), (7, .getfield 1), (10, .iload_n 3), (11, .iaload), (12, .iadd), (13, .istore 4), (15, .iconst 0), (16, .istore 5), (18, .iload 5), (20, .iload 4), (22, .if_icmp .ge 23), (25, .aload_n 0), (26, .getfield 7), (29, .sipush 260), (32, .iload_n 1), (33, .imul), (34, .iload 5), (36, .iadd), (37, .iconst 0), (38, .iastore), (39, .iinc 5 1), (42, .goto (-24)), (45, .iconst 0), (46, .istore 5), (48, .iload 5), (50, .aload_n 0), (51, .getfield 1), (54, .iload_n 2), (55, .iaload), (56, .if_icmp .ge 142), (59, .lconst 0), (60, .lstore 6), (62, .aload_n 0), (63, .getfield 7), (66, .sipush 260), (69, .iload_n 2), (70, .imul), (71, .iload 5), (73, .iadd), (74, .iaload), (75, .i2l), (76, .lstore 8), (78, .iconst 0), (79, .istore 10), (81, .iload 10), (83, .aload_n 0), (84, .getfield 1), (87, .iload_n 3), (88, .iaload), (89, .if_icmp .ge 80), (92, .aload_n 0), (93, .getfield 7), (96, .sipush 260), (99, .iload_n 1), (100, .imul), (101, .iload 5), (103, .iadd), (104, .iload 10), (106, .iadd), (107, .iaload), (108, .i2l), (109, .lload 8), (111, .aload_n 0), (112, .getfield 7), (115, .sipush 260), (118, .iload_n 3), (119, .imul), (120, .iload 10), (122, .iadd), (123, .iaload), (124, .i2l), (125, .lmul), (126, .ladd), (127, .lload 6), (129, .ladd), (130, .lstore 11), (132, .aload_n 0), (133, .getfield 7), (136, .sipush 260), (139, .iload_n 1), (140, .imul), (141, .iload 5), (143, .iadd), (144, .iload 10), (146, .iadd), (147, .lload 11), (149, .ldc2_w 10), (152, .lrem), (153, .l2i), (154, .iastore), (155, .lload 11), (157, .ldc2_w 10), (160, .ldiv), (161, .lstore 6), (163, .iinc 10 1), (166, .goto (-85)), (169, .aload_n 0), (170, .getfield 7), (173, .sipush 260), (176, .iload_n 1), (177, .imul), (178, .iload 5), (180, .iadd), (181, .aload_n 0), (182, .getfield 1), (185, .iload_n 3), (186, .iaload), (187, .iadd), (188, .lload 6), (190, .l2i), (191, .iastore), (192, .iinc 5 1), (195, .goto (-147)), (198, .aload_n 0), (199, .getfield 1), (202, .iload_n 1), (203, .iload 4), (205, .iastore), (206, .aload_n 0), (207, .iload_n 1), (208, .invokevirtual 12), (211, .return_)]
/-- SectionTemplatesModel.add(III)V -/
def am_cd178 : List (Nat × Instr) := [(0, .aload_n 0), (1, .iload_n 1), (2, .iload_n 2), (3, .iload_n 3), (4, .iconst 1), (5, .invokevirtual 65), (8, .return_)]
/-- SectionTemplatesModel.plus(IIII)V -/
def am_cd179 : List (Nat × Instr) := [(0, .aload_n 0), (1, .sipush 256), (4, .iconst 2), (5, .iload_n 2), (6, .imul), (7, .iconst 2), (8, .iload_n 3), (9, .imul), (10, .iconst 1), (11, .iadd), (12, .invokevirtual 62), (15, .aload_n 0), (16, .sipush 257), (19, .iconst 2), (20, .iload_n 3), (21, .imul), (22, .iconst 2), (23, .iload_n 2), (24, .imul), (25, .iconst 1), (26, .iadd), (27, .invokevirtual 62), (30, .aload_n 0), (31, .sipush 258), (34, .iconst 2), (35, .iload_n 2), (36, .imul), (37, .iconst 1), (38, .iadd), (39, .iconst 2), (40, .iload_n 3), (41, .imul), (42, .iconst 1), (43, .iadd), (44, .invokevirtual 62), (47, .aload_n 0), (48, .getfield 44), (51, .iload_n 2), (52, .iaload), (53, .istore 5), (55, .aload_n 0), (56, .getfield 44), (59, .iload_n 3), (60, .iaload), (61, .iload 4), (63, .imul), (64, .istore 6), (66, .iload 5), (68, .iload 6), (70, .imul), (71, .ifCond .lt 37), (74, .aload_n 0), (75, .sipush 259), (78, .sipush 256), (81, .sipush 257), (84, .invokevirtual 26), (87, .aload_n 0), (88, .getfield 44), (91, .iload_n 1), (92, .iload 5), (94, .ifCond .ne 8), (97, .iload 6), (99, .goto 5), (102, .iload 5), (104, .iastore), (105, .goto 61), (108, .aload_n 0), (109, .sipush 256), (112, .sipush 257), (115, .invokevirtual 22), (118, .ifCond .lt 27), (121, .aload_n 0), (122, .sipush 259), (125, .sipush 256), (128, .sipush 257), (131, .invokevirtual 37), (134, .aload_n 0), (135, .getfield 44), (138, .iload_n 1), (139, .iload 5), (141, .iastore), (142, .goto 24), (145, .aload_n 0), (146, .sipush 259), (149, .sipush 257), (152, .sipush 256), (155, .invokevirtual 37), (158, .aload_n 0), (159, .getfield 44), (162, .iload_n 1), (163, .iload 6), (165, .iastore), (166, .aload_n 0), (167, .iconst 2), (168, .iload_n 1), (169, .imul), (170, .sipush 259), (173, .invokevirtual 18), (176, .aload_n 0), (177, .iconst 2), (178, .iload_n 1), (179, .imul), (180, .iconst 1), (181, .iadd), (182, .sipush 258), (185, .invokevirtual 18), (188, .aload_n 0), (189, .iload_n 1), (190, .invokevirtual 59), (193, .return_)]
/-- SectionTemplatesModel.wall()V -/
def am_cd180 : List (Nat × Instr) := [(0, .aload_n 0), (1, .invokevirtual 235), (4, .lstore_n 1), (5, .aload_n 0), (6, .getfield 239), (9, .iconst 1), (10, .iadd), (11, .aload_n 0), (12, .getfield 242), (15, .iadd), (16, .istore_n 3), (17, .aload_n 0), (18, .iconst 5), (19, .invokevirtual 245), (22, .aload_n 0), (23, .bipush 94), (25, .lload_n 1), (26, .ldc2_w 233), (29, .aload_n 0), (30, .getfield 216), (33, .lmul), (34, .invokevirtual 127), (37, .aload_n 0), (38, .bipush 26), (40, .iload_n 3), (41, .iadd), (42, .bipush 26), (44, .iload_n 3), (45, .iadd), (46, .bipush 94), (48, .invokevirtual 248), (51, .aload_n 0), (52, .iconst 1), (53, .putfield 251), (56, .return_)]
/-- SectionTemplatesModel.take(III)V -/
def am_cd181 : List (Nat × Instr) := [(0, .aload_n 0), (1, .iload_n 1), (2, .iload_n 2), (3, .iload_n 3), (4, .iconst (-1)), (5, .invokevirtual 65), (8, .return_)]
/-- SectionTemplatesModel.holds(II)Z -/
def am_cd182 : List (Nat × Instr) := [(0, .aload_n 0), (1, .invokevirtual 235), (4, .lstore_n 3), (5, .iload_n 1), (6, .bipush 99), (8, .if_icmp .ne 17), (11, .lload_n 3), (12, .lconst 0), (13, .lcmp), (14, .ifCond .ge 7), (17, .iconst 1), (18, .goto 71), (21, .iconst 0), (22, .goto 67), (25, .iload_n 1), (26, .bipush 102), (28, .if_icmp .ne 17), (31, .lload_n 3), (32, .lconst 0), (33, .lcmp), (34, .ifCond .le 7), (37, .iconst 1), (38, .goto 51), (41, .iconst 0), (42, .goto 47), (45, .iload_n 1), (46, .bipush 111), (48, .if_icmp .ne 17), (51, .lload_n 3), (52, .lconst 0), (53, .lcmp), (54, .ifCond .ne 7), (57, .iconst 1), (58, .goto 31), (61, .iconst 0), (62, .goto 27), (65, .lload_n 3), (66, .invokestatic 55), (69, .ldc2_w 233), (72, .iload_n 2), (73, .i2l), (74, .lmul), (75, .aload_n 0), (76, .getfield 216), (79, .lmul), (80, .lcmp), (81, .ifCond .le 7), (84, .iconst 1), (85, .goto 4), (88, .iconst 0), (89, .ireturn)]
/-- SectionTemplatesModel.turn()V -/
def am_cd183 : List (Nat × Instr) := [(0, .iconst 0), (1, .istore_n 1), (2, .aload_n 0), (3, .getfield 242), (6, .istore_n 2), (7, .iload_n 1), (8, .iload_n 2), (9, .if_icmp .ge 98), (12, .aload_n 0), (13, .getfield 114), (16, .iload_n 1), (17, .iaload), (18, .istore_n 3), (19, .aload_n 0), (20, .getfield 114), (23, .iload_n 1), (24, .aload_n 0), (25, .getfield 114), (28, .iload_n 2), (29, .iaload), (30, .iastore), (31, .aload_n 0), (32, .getfield 114), (35, .iload_n 2), (36, .iload_n 3), (37, .iastore), (38, .aload_n 0), (39, .bipush 94), (41, .iconst 0), (42, .iload_n 1), (43, .iadd), (44, .invokevirtual 275), (47, .aload_n 0), (48, .iconst 0), (49, .iload_n 1), (50, .iadd), (51, .iconst 0), (52, .iload_n 2), (53, .iadd), (54, .invokevirtual 275), (57, .aload_n 0), (58, .iconst 0), (59, .iload_n 2), (60, .iadd), (61, .bipush 94), (63, .invokevirtual 275), (66, .aload_n 0), (67, .bipush 94), (69, .bipush 26), (71, .iload_n 1), (72, .iadd), (73, .invokevirtual 275), (76, .aload_n 0), (77, .bipush 26), (79, .iload_n 1), (80, .iadd), (81, .bipush 26), (83, .iload_n 2), (84, .iadd), (85, .invokevirtual 275), (88, .aload_n 0), (89, .bipush 26), (91, .iload_n 2), (92, .iadd), (93, .bipush 94), (95, .invokevirtual 275), (98, .iinc 1 1), (101, .iinc 2 (-1)), (104, .goto (-97)), (107, .return_)]
/-- SectionTemplatesModel.copy(II)V -/
def am_cd184 : List (Nat × Instr) := [(0, .aload_n 0), (1, .iconst 2), (2, .iload_n 1), (3, .imul), (4, .iconst 2), (5, .iload_n 2), (6, .imul), (7, .invokevirtual 18), (10, .aload_n 0), (11, .iconst 2), (12, .iload_n 1), (13, .imul), (14, .iconst 1), (15, .iadd), (16, .iconst 2), (17, .iload_n 2), (18, .imul), (19, .iconst 1), (20, .iadd), (21, .invokevirtual 18), (24, .aload_n 0), (25, .getfield 44), (28, .iload_n 1), (29, .aload_n 0), (30, .getfield 44), (33, .iload_n 2), (34, .iaload), (35, .iastore), (36, .return_)]
/-- SectionTemplatesModel.areas()V -/
def am_cd185 : List (Nat × Instr) := [(0, .aload_n 0), (1, .bipush 52), (3, .lconst 0), (4, .lconst 1), (5, .invokevirtual 127), (8, .aload_n 0), (9, .bipush 53), (11, .lconst 0), (12, .lconst 1), (13, .invokevirtual 127), (16, .iconst 0), (17, .istore_n 1), (18, .iload_n 1), (19, .iconst 1), (20, .iadd), (21, .aload_n 0), (22, .getfield 189), (25, .if_icmp .ge 117), (28, .aload_n 0), (29, .iconst 0), (30, .iload_n 1), (31, .iadd), (32, .iconst 0), (33, .iload_n 1), (34, .iadd), (35, .iconst 1), (36, .iadd), (37, .invokevirtual 287), (40, .ifCond .ge 96), (43, .aload_n 0), (44, .bipush 99), (46, .iconst 0), (47, .iload_n 1), (48, .iadd), (49, .invokevirtual 275), (52, .iconst 0), (53, .istore_n 2), (54, .iload_n 2), (55, .aload_n 0), (56, .getfield 201), (59, .if_icmp .ge 61), (62, .aload_n 0), (63, .bipush 100), (65, .aload_n 0), (66, .getfield 104), (69, .iload_n 2), (70, .iaload), (71, .i2l), (72, .lconst 1), (73, .invokevirtual 127), (76, .aload_n 0), (77, .bipush 100), (79, .bipush 99), (81, .invokevirtual 287), (84, .ifCond .le 30), (87, .aload_n 0), (88, .bipush 100), (90, .iconst 0), (91, .iload_n 1), (92, .iadd), (93, .iconst 1), (94, .iadd), (95, .invokevirtual 287), (98, .ifCond .ge 16), (101, .aload_n 0), (102, .iload_n 1), (103, .invokevirtual 305), (106, .aload_n 0), (107, .bipush 99), (109, .bipush 100), (111, .invokevirtual 275), (114, .iinc 2 1), (117, .goto (-63)), (120, .aload_n 0), (121, .bipush 100), (123, .iconst 0), (124, .iload_n 1), (125, .iadd), (126, .iconst 1), (127, .iadd), (128, .invokevirtual 275), (131, .aload_n 0), (132, .iload_n 1), (133, .invokevirtual 305), (136, .iinc 1 1), (139, .goto (-121)), (142, .return_)]
/-- SectionTemplatesModel.compare(II)I -/
def am_cd186 : List (Nat × Instr) := [(0, .aload_n 0), (1, .getfield 44), (4, .iload_n 1), (5, .iaload), (6, .aload_n 0), (7, .getfield 44), (10, .iload_n 2), (11, .iaload), (12, .if_icmp .eq 24), (15, .aload_n 0), (16, .getfield 44), (19, .iload_n 1), (20, .iaload), (21, .aload_n 0), (22, .getfield 44), (25, .iload_n 2), (26, .iaload), (27, .if_icmp .ge 7), (30, .iconst (-1)), (31, .goto 4), (34, .iconst 1), (35, .ireturn), (36, .aload_n 0), (37, .sipush 256), (40, .iconst 2), (41, .iload_n 1), (42, .imul), (43, .iconst 2), (44, .iload_n 2), (45, .imul), (46, .iconst 1), (47, .iadd), (48, .invokevirtual 62), (51, .aload_n 0), (52, .sipush 257), (55, .iconst 2), (56, .iload_n 2), (57, .imul), (58, .iconst 2), (59, .iload_n 1), (60, .imul), (61, .iconst 1), (62, .iadd), (63, .invokevirtual 62), (66, .aload_n 0), (67, .sipush 256), (70, .sipush 257), (73, .invokevirtual 22), (76, .istore_n 3), (77, .aload_n 0), (78, .getfield 44), (81, .iload_n 1), (82, .iaload), (83, .ifCond .ge 8), (86, .iload_n 3), (87, .ineg), (88, .goto 4), (91, .iload_n 3), (92, .ireturn)]
/-- SectionTemplatesModel.piece(I)V -/
def am_cd187 : List (Nat × Instr) := [(0, .aload_n 0), (1, .bipush 98), (3, .bipush 100), (5, .bipush 99), (7, .invokevirtual 248), (10, .aload_n 0), (11, .iload_n 1), (12, .bipush 99), (14, .bipush 96), (16, .invokevirtual 299), (19, .aload_n 0), (20, .iload_n 1), (21, .bipush 100), (23, .bipush 97), (25, .invokevirtual 299), (28, .aload_n 0), (29, .getfield 44), (32, .bipush 96), (34, .iaload), (35, .aload_n 0), (36, .getfield 44), (39, .bipush 97), (41, .iaload), (42, .imul), (43, .ifCond .lt 39), (46, .aload_n 0), (47, .bipush 101), (49, .bipush 96), (51, .bipush 97), (53, .invokevirtual 262), (56, .aload_n 0), (57, .aload_n 0), (58, .getfield 44), (61, .bipush 101), (63, .iaload), (64, .ifCond .lt 8), (67, .bipush 52), (69, .goto 5), (72, .bipush 53), (74, .bipush 101), (76, .bipush 98), (78, .invokevirtual 302), (81, .return_), (82, .aload_n 0), (83, .bipush 101), (85, .bipush 96), (87, .bipush 97), (89, .invokevirtual 248), (92, .aload_n 0), (93, .bipush 102), (95, .bipush 98), (97, .bipush 101), (99, .invokevirtual 290), (102, .aload_n 0), (103, .bipush 101), (105, .bipush 102), (107, .bipush 96), (109, .invokevirtual 259), (112, .aload_n 0), (113, .aload_n 0), (114, .getfield 44), (117, .bipush 96), (119, .iaload), (120, .ifCond .le 8), (123, .bipush 52), (125, .goto 5), (128, .bipush 53), (130, .bipush 96), (132, .bipush 101), (134, .invokevirtual 302), (137, .aload_n 0), (138, .bipush 101), (140, .bipush 102), (142, .bipush 97), (144, .invokevirtual 259), (147, .aload_n 0), (148, .aload_n 0), (149, .getfield 44), (152, .bipush 97), (154, .iaload), (155, .ifCond .le 8), (158, .bipush 52), (160, .goto 5), (163, .bipush 53), (165, .bipush 97), (167, .bipush 101), (169, .invokevirtual 302), (172, .return_)]
/-- SectionTemplatesModel.between(III)V -/
def am_cd188 : List (Nat × Instr) := [(0, .aload_n 0), (1, .iload_n 2), (2, .bipush 108), (4, .invokevirtual 293), (7, .aload_n 0), (8, .iload_n 1), (9, .iload_n 2), (10, .bipush 109), (12, .invokevirtual 296), (15, .aload_n 0), (16, .iload_n 3), (17, .bipush 108), (19, .bipush 109), (21, .invokevirtual 248), (24, .return_)]
/-- SectionTemplatesModel.groundAt(II)V -/
def am_cd189 : List (Nat × Instr) := [(0, .aload_n 0), (1, .getfield 201), (4, .ifCond .ne 11), (7, .aload_n 0), (8, .iload_n 2), (9, .lconst 0), (10, .lconst 1), (11, .invokevirtual 127), (14, .return_), (15, .iconst 0), (16, .istore_n 3), (17, .iconst 1), (18, .istore 4), (20, .iload_n 3), (21, .aload_n 0), (22, .getfield 201), (25, .if_icmp .ge 55), (28, .iload 4), (30, .ifCond .eq 50), (33, .aload_n 0), (34, .bipush 104), (36, .aload_n 0), (37, .getfield 104), (40, .iload_n 3), (41, .iaload), (42, .i2l), (43, .lconst 1), (44, .invokevirtual 127), (47, .aload_n 0), (48, .bipush 104), (50, .iload_n 1), (51, .invokevirtual 287), (54, .ifCond .gt 7), (57, .iconst 1), (58, .goto 4), (61, .iconst 0), (62, .istore 4), (64, .iload_n 3), (65, .iload 4), (67, .ifCond .eq 7), (70, .iconst 1), (71, .goto 4), (74, .iconst 0), (75, .iadd), (76, .istore_n 3), (77, .goto (-57)), (80, .iload_n 3), (81, .ifCond .eq 11), (84, .iload_n 3), (85, .aload_n 0), (86, .getfield 201), (89, .if_icmp .ne 30), (92, .aload_n 0), (93, .iload_n 2), (94, .aload_n 0), (95, .getfield 107), (98, .iload_n 3), (99, .ifCond .ne 7), (102, .iconst 0), (103, .goto 9), (106, .aload_n 0), (107, .getfield 201), (110, .iconst 1), (111, .isub), (112, .iaload), (113, .i2l), (114, .lconst 1), (115, .invokevirtual 127), (118, .return_), (119, .aload_n 0), (120, .bipush 104), (122, .aload_n 0), (123, .getfield 104), (126, .iload_n 3), (127, .iconst 1), (128, .isub), (129, .iaload), (130, .i2l), (131, .lconst 1), (132, .invokevirtual 127), (135, .aload_n 0), (136, .bipush 104), (138, .iload_n 1), (139, .bipush 104), (141, .invokevirtual 248), (144, .aload_n 0), (145, .bipush 105), (147, .aload_n 0), (148, .getfield 107), (151, .iload_n 3), (152, .iaload), (153, .aload_n 0), (154, .getfield 107), (157, .iload_n 3), (158, .iconst 1), (159, .isub), (160, .iaload), (161, .isub), (162, .i2l), (163, .aload_n 0), (164, .getfield 104), (167, .iload_n 3), (168, .iaload), (169, .aload_n 0), (170, .getfield 104), (173, .iload_n 3), (174, .iconst 1), (175, .isub), (176, .iaload), (177, .isub), (178, .i2l), (179, .invokevirtual 127), (182, .aload_n 0), (183, .bipush 104), (185, .bipush 104), (187, .bipush 105), (189, .invokevirtual 259), (192, .aload_n 0), (193, .bipush 105), (195, .aload_n 0), (196, .getfield 107), (199, .iload_n 3), (200, .iconst 1), (201, .isub), (202, .iaload), (203, .i2l), (204, .lconst 1), (205, .invokevirtual 127), (208, .aload_n 0), (209, .iload_n 2), (210, .bipush 104), (212, .bipush 105), (214, .invokevirtual 262), (217, .return_)]
/-- SectionTemplatesModel.sectionAt(III)V -/
def am_cd190 : List (Nat × Instr) := [(0, .aload_n 0), (1, .bipush 106), (3, .iconst 0), (4, .iload_n 1), (5, .iadd), (6, .iconst 1), (7, .iadd), (8, .iconst 0), (9, .iload_n 1), (10, .iadd), (11, .invokevirtual 248), (14, .aload_n 0), (15, .bipush 107), (17, .bipush 26), (19, .iload_n 1), (20, .iadd), (21, .iconst 1), (22, .iadd), (23, .bipush 26), (25, .iload_n 1), (26, .iadd), (27, .invokevirtual 248), (30, .aload_n 0), (31, .bipush 107), (33, .bipush 107), (35, .bipush 106), (37, .invokevirtual 290), (40, .aload_n 0), (41, .bipush 106), (43, .iload_n 2), (44, .iconst 0), (45, .iload_n 1), (46, .iadd), (47, .invokevirtual 248), (50, .aload_n 0), (51, .bipush 107), (53, .bipush 107), (55, .bipush 106), (57, .invokevirtual 259), (60, .aload_n 0), (61, .iload_n 3), (62, .bipush 26), (64, .iload_n 1), (65, .iadd), (66, .bipush 107), (68, .invokevirtual 262), (71, .return_)]
/-- SectionTemplatesModel.over(III)V -/
def am_cd191 : List (Nat × Instr) := [(0, .aload_n 0), (1, .sipush 256), (4, .iconst 2), (5, .iload_n 2), (6, .imul), (7, .iconst 2), (8, .iload_n 3), (9, .imul), (10, .iconst 1), (11, .iadd), (12, .invokevirtual 62), (15, .aload_n 0), (16, .sipush 257), (19, .iconst 2), (20, .iload_n 2), (21, .imul), (22, .iconst 1), (23, .iadd), (24, .iconst 2), (25, .iload_n 3), (26, .imul), (27, .invokevirtual 62), (30, .aload_n 0), (31, .getfield 44), (34, .iload_n 1), (35, .aload_n 0), (36, .getfield 44), (39, .iload_n 2), (40, .iaload), (41, .aload_n 0), (42, .getfield 44), (45, .iload_n 3), (46, .iaload), (47, .imul), (48, .iastore), (49, .aload_n 0), (50, .iconst 2), (51, .iload_n 1), (52, .imul), (53, .sipush 256), (56, .invokevirtual 18), (59, .aload_n 0), (60, .iconst 2), (61, .iload_n 1), (62, .imul), (63, .iconst 1), (64, .iadd), (65, .sipush 257), (68, .invokevirtual 18), (71, .aload_n 0), (72, .iload_n 1), (73, .invokevirtual 59), (76, .return_)]
/-- SectionTemplatesModel.addHalf(III)V -/
def am_cd192 : List (Nat × Instr) := [(0, .aload_n 0), (1, .bipush 110), (3, .iload_n 2), (4, .iload_n 3), (5, .invokevirtual 259), (8, .aload_n 0), (9, .bipush 111), (11, .aload_n 0), (12, .getfield 44), (15, .bipush 110), (17, .iaload), (18, .ifCond .ge 9), (21, .ldc2_w 68), (24, .goto 4), (27, .lconst 1), (28, .ldc2_w 16), (31, .invokevirtual 127), (34, .aload_n 0), (35, .bipush 110), (37, .bipush 110), (39, .bipush 111), (41, .invokevirtual 259), (44, .aload_n 0), (45, .iload_n 1), (46, .iload_n 1), (47, .bipush 110), (49, .invokevirtual 262), (52, .return_)]
/-- SectionTemplatesModel.corner(III)J -/
def am_cd193 : List (Nat × Instr) := [(0, .aload_n 0), (1, .iload_n 1), (2, .invokevirtual 308), (5, .ifCond .eq 12), (8, .iload_n 2), (9, .ifCond .lt 8), (12, .iload_n 2), (13, .iconst 1), (14, .if_icmp .le 10), (17, .iload_n 3), (18, .invokestatic 311), (21, .goto 22), (24, .aload_n 0), (25, .iload_n 2), (26, .ifCond .ne 9), (29, .iconst 0), (30, .iload_n 1), (31, .iadd), (32, .goto 7), (35, .bipush 26), (37, .iload_n 1), (38, .iadd), (39, .iload_n 3), (40, .invokevirtual 315), (43, .lreturn)]
/-- SectionTemplatesModel.isCorner(I)Z -/
def am_cd194 : List (Nat × Instr) := [(0, .iload_n 1), (1, .ifCond .lt 15), (4, .iload_n 1), (5, .aload_n 0), (6, .getfield 189), (9, .if_icmp .ge 7), (12, .iconst 1), (13, .goto 4), (16, .iconst 0), (17, .ireturn)]
/-- SectionTemplatesModel.bad(I)J -/
def am_cd195 : List (Nat × Instr) := [(0, .iload_n 0), (1, .iconst (-1)), (2, .if_icmp .ne 9), (5, .ldc2_w 74), (8, .goto 6), (11, .ldc2_w 68), (14, .lreturn)]
/-- SectionTemplatesModel.tell(II)J -/
def am_cd196 : List (Nat × Instr) := [(0, .iload_n 2), (1, .iconst (-1)), (2, .if_icmp .ge 7), (5, .ldc2_w 68), (8, .lreturn), (9, .iload_n 2), (10, .iconst (-1)), (11, .if_icmp .ne 11), (14, .aload_n 0), (15, .getfield 44), (18, .iload_n 1), (19, .iaload), (20, .i2l), (21, .lreturn), (22, .iload_n 2), (23, .iconst 2), (24, .idiv), (25, .sipush 130), (28, .if_icmp .lt 7), (31, .lconst 0), (32, .goto 17), (35, .aload_n 0), (36, .iconst 2), (37, .iload_n 1), (38, .imul), (39, .iload_n 2), (40, .iconst 2), (41, .irem), (42, .iadd), (43, .iload_n 2), (44, .iconst 2), (45, .idiv), (46, .invokevirtual 70), (49, .lreturn)]
/-- SectionTemplatesModel.digits(II)J -/
def am_cd197 : List (Nat × Instr) := [(0, .iconst 2), (1, .iload_n 2), (2, .imul), (3, .aload_n 0), (4, .getfield 1), (7, .iload_n 1), (8, .iaload), (9, .if_icmp .ge 21), (12, .aload_n 0), (13, .getfield 7), (16, .sipush 260), (19, .iload_n 1), (20, .imul), (21, .iconst 2), (22, .iload_n 2), (23, .imul), (24, .iadd), (25, .iaload), (26, .i2l), (27, .goto 4), (30, .lconst 0), (31, .lstore_n 3), (32, .iconst 2), (33, .iload_n 2), (34, .imul), (35, .iconst 1), (36, .iadd), (37, .aload_n 0), (38, .getfield 1), (41, .iload_n 1), (42, .iaload), (43, .if_icmp .ge 23), (46, .aload_n 0), (47, .getfield 7), (50, .sipush 260), (53, .iload_n 1), (54, .imul), (55, .iconst 2), (56, .iload_n 2), (57, .imul), (58, .iadd), (59, .iconst 1), (60, .iadd), (61, .iaload), (62, .i2l), (63, .goto 4), (66, .lconst 0), (67, .lstore 5), (69, .lload 5), (71, .ldc2_w 10), (74, .lmul), (75, .lload_n 3), (76, .ladd), (77, .lreturn)]
/-- SectionTemplatesModel.code(I)I -/
def am_cd198 : List (Nat × Instr) := [(0, .aload_n 0), (1, .iload_n 1), (2, .invokevirtual 308), (5, .ifCond .eq 12), (8, .aload_n 0), (9, .getfield 114), (12, .iload_n 1), (13, .iaload), (14, .goto 4), (17, .iconst (-1)), (18, .ireturn)]
/-- SectionTemplatesModel.ended(I)Z -/
def am_cd199 : List (Nat × Instr) := [(0, .aload_n 0), (1, .getfield 189), (4, .ifCond .le 28), (7, .iload_n 1), (8, .iconst (-1)), (9, .if_icmp .eq 8), (12, .iload_n 1), (13, .iconst 1), (14, .if_icmp .ne 18), (17, .aload_n 0), (18, .getfield 117), (21, .iload_n 1), (22, .iconst 1), (23, .iadd), (24, .baload), (25, .ifCond .eq 7), (28, .iconst 1), (29, .goto 4), (32, .iconst 0), (33, .ireturn)]
/-- SectionTemplatesModel.passed(I)Z -/
def am_cd200 : List (Nat × Instr) := [(0, .aload_n 0), (1, .getfield 189), (4, .ifCond .eq 13), (7, .iload_n 1), (8, .iconst (-1)), (9, .if_icmp .eq 10), (12, .iload_n 1), (13, .iconst 1), (14, .if_icmp .eq 5), (17, .iconst 0), (18, .ireturn), (19, .iload_n 1), (20, .ifCond .ge 7), (23, .iconst 0), (24, .goto 9), (27, .aload_n 0), (28, .getfield 189), (31, .iconst 1), (32, .isub), (33, .istore_n 2), (34, .aload_n 0), (35, .bipush 94), (37, .iload_n 1), (38, .i2l), (39, .aload_n 0), (40, .getfield 111), (43, .iload_n 1), (44, .iconst 1), (45, .iadd), (46, .iaload), (47, .i2l), (48, .lmul), (49, .lconst 1), (50, .invokevirtual 127), (53, .aload_n 0), (54, .iconst 0), (55, .iload_n 2), (56, .iadd), (57, .bipush 94), (59, .invokevirtual 287), (62, .istore_n 3), (63, .iload_n 1), (64, .ifCond .ge 15), (67, .iload_n 3), (68, .ifCond .ge 7), (71, .iconst 1), (72, .goto 16), (75, .iconst 0), (76, .goto 12), (79, .iload_n 3), (80, .ifCond .le 7), (83, .iconst 1), (84, .goto 4), (87, .iconst 0), (88, .ireturn)]
/-- SectionTemplatesModel.condition(I)I -/
def am_cd201 : List (Nat × Instr) := [(0, .iload_n 1), (1, .ifCond .lt 27), (4, .iload_n 1), (5, .aload_n 0), (6, .getfield 192), (9, .if_icmp .ge 19), (12, .aload_n 0), (13, .getfield 189), (16, .ifCond .le 12), (19, .aload_n 0), (20, .getfield 121), (23, .iload_n 1), (24, .iaload), (25, .goto 4), (28, .iconst (-1)), (29, .ireturn)]
/-- SectionTemplatesModel.area(ZI)J -/
def am_cd202 : List (Nat × Instr) := [(0, .aload_n 0), (1, .getfield 189), (4, .ifCond .ne 10), (7, .iload_n 2), (8, .invokestatic 311), (11, .goto 19), (14, .aload_n 0), (15, .iload_n 1), (16, .ifCond .eq 8), (19, .bipush 52), (21, .goto 5), (24, .bipush 53), (26, .iload_n 2), (27, .invokevirtual 315), (30, .lreturn)]
/-- SectionTemplatesModel.level(II)J -/
def am_cd203 : List (Nat × Instr) := [(0, .aload_n 0), (1, .getfield 189), (4, .ifCond .ne 8), (7, .iload_n 2), (8, .invokestatic 311), (11, .lreturn), (12, .aload_n 0), (13, .bipush 94), (15, .iload_n 1), (16, .i2l), (17, .lconst 1), (18, .invokevirtual 127), (21, .aload_n 0), (22, .bipush 94), (24, .iconst 0), (25, .invokevirtual 287), (28, .ifCond .lt 20), (31, .aload_n 0), (32, .bipush 94), (34, .iconst 0), (35, .aload_n 0), (36, .getfield 189), (39, .iadd), (40, .iconst 1), (41, .isub), (42, .invokevirtual 287), (45, .ifCond .le 8), (48, .iload_n 2), (49, .invokestatic 311), (52, .lreturn), (53, .iconst (-1)), (54, .istore_n 3), (55, .iconst 0), (56, .istore 4), (58, .iload 4), (60, .aload_n 0), (61, .getfield 189), (64, .if_icmp .ge 71), (67, .iload_n 3), (68, .iconst (-1)), (69, .if_icmp .eq 28), (72, .iload 4), (74, .aload_n 0), (75, .getfield 239), (78, .isub), (79, .i2l), (80, .invokestatic 55), (83, .iload_n 3), (84, .aload_n 0), (85, .getfield 239), (88, .isub), (89, .i2l), (90, .invokestatic 55), (93, .lcmp), (94, .ifCond .ge 7), (97, .iconst 1), (98, .goto 4), (101, .iconst 0), (102, .istore 5), (104, .iload 5), (106, .ifCond .eq 21), (109, .aload_n 0), (110, .iconst 0), (111, .iload 4), (113, .iadd), (114, .bipush 94), (116, .invokevirtual 287), (119, .ifCond .ne 8), (122, .iload 4), (124, .goto 4), (127, .iload_n 3), (128, .istore_n 3), (129, .iinc 4 1), (132, .goto (-74)), (135, .iload_n 3), (136, .ifCond .lt 13), (139, .aload_n 0), (140, .bipush 26), (142, .iload_n 3), (143, .iadd), (144, .iload_n 2), (145, .invokevirtual 315), (148, .lreturn), (149, .iconst 0), (150, .istore 4), (152, .aload_n 0), (153, .iconst 0), (154, .iload 4), (156, .iadd), (157, .iconst 1), (158, .iadd), (159, .bipush 94), (161, .invokevirtual 287), (164, .ifCond .ge 9), (167, .iinc 4 1), (170, .goto (-18)), (173, .aload_n 0), (174, .iload 4), (176, .bipush 94), (178, .bipush 95), (180, .invokevirtual 296), (183, .aload_n 0), (184, .bipush 95), (186, .iload_n 2), (187, .invokevirtual 315), (190, .lreturn)]
/-- SectionTemplatesModel.keep(I)I -/
def am_cd204 : List (Nat × Instr) := [(0, .aload_n 0), (1, .getfield 189), (4, .ifCond .eq 44), (7, .iload_n 1), (8, .ifCond .lt 40), (11, .iload_n 1), (12, .ldc 196), (14, .if_icmp .gt 34), (17, .aload_n 0), (18, .getfield 318), (21, .bipush 20), (23, .if_icmp .eq 25), (26, .aload_n 0), (27, .getfield 318), (30, .ifCond .le 20), (33, .iload_n 1), (34, .aload_n 0), (35, .getfield 124), (38, .aload_n 0), (39, .getfield 318), (42, .iconst 1), (43, .isub), (44, .iaload), (45, .if_icmp .gt 5), (48, .iconst (-1)), (49, .ireturn), (50, .aload_n 0), (51, .bipush 52), (53, .bipush 54), (55, .iconst 2), (56, .aload_n 0), (57, .getfield 318), (60, .imul), (61, .iadd), (62, .invokevirtual 321), (65, .aload_n 0), (66, .bipush 53), (68, .bipush 54), (70, .iconst 2), (71, .aload_n 0), (72, .getfield 318), (75, .imul), (76, .iadd), (77, .iconst 1), (78, .iadd), (79, .invokevirtual 321), (82, .aload_n 0), (83, .getfield 124), (86, .aload_n 0), (87, .getfield 318), (90, .iload_n 1), (91, .iastore), (92, .aload_n 0), (93, .dup), (94, .getfield 318), (97, .iconst 1), (98, .iadd), (99, .putfield 318), (102, .aload_n 0), (103, .getfield 318), (106, .ireturn)]
/-- SectionTemplatesModel.whole(II)V -/
def am_cd205 : List (Nat × Instr) := [(0, .aload_n 0), (1, .sipush 253), (4, .sipush 254), (7, .iconst 2), (8, .iload_n 1), (9, .imul), (10, .iconst 2), (11, .iload_n 1), (12, .imul), (13, .iconst 1), (14, .iadd), (15, .invokevirtual 51), (18, .aload_n 0), (19, .iconst 2), (20, .iload_n 2), (21, .imul), (22, .sipush 253), (25, .invokevirtual 18), (28, .aload_n 0), (29, .iconst 2), (30, .iload_n 2), (31, .imul), (32, .iconst 1), (33, .iadd), (34, .lconst 1), (35, .invokevirtual 30), (38, .aload_n 0), (39, .getfield 44), (42, .iload_n 2), (43, .aload_n 0), (44, .getfield 1), (47, .sipush 253), (50, .iaload), (51, .ifCond .ne 7), (54, .iconst 0), (55, .goto 4), (58, .iconst 1), (59, .iastore), (60, .return_)]
/-- SectionTemplatesModel.volume(ZI)J -/
def am_cd206 : List (Nat × Instr) := [(0, .aload_n 0), (1, .bipush 94), (3, .lconst 0), (4, .lconst 1), (5, .invokevirtual 127), (8, .iconst 0), (9, .istore_n 3), (10, .iload_n 3), (11, .iconst 1), (12, .iadd), (13, .aload_n 0), (14, .getfield 318), (17, .if_icmp .ge 86), (20, .bipush 54), (22, .iconst 2), (23, .iload_n 3), (24, .imul), (25, .iadd), (26, .iload_n 1), (27, .ifCond .eq 7), (30, .iconst 0), (31, .goto 4), (34, .iconst 1), (35, .iadd), (36, .istore 4), (38, .aload_n 0), (39, .bipush 95), (41, .iload 4), (43, .iload 4), (45, .iconst 2), (46, .iadd), (47, .invokevirtual 262), (50, .aload_n 0), (51, .bipush 96), (53, .ldc2_w 324), (56, .aload_n 0), (57, .getfield 124), (60, .iload_n 3), (61, .iconst 1), (62, .iadd), (63, .iaload), (64, .aload_n 0), (65, .getfield 124), (68, .iload_n 3), (69, .iaload), (70, .isub), (71, .i2l), (72, .lmul), (73, .lconst 1), (74, .invokevirtual 127), (77, .aload_n 0), (78, .bipush 95), (80, .bipush 95), (82, .bipush 96), (84, .invokevirtual 259), (87, .aload_n 0), (88, .bipush 94), (90, .bipush 94), (92, .bipush 95), (94, .invokevirtual 262), (97, .iinc 3 1), (100, .goto (-90)), (103, .aload_n 0), (104, .bipush 94), (106, .iload_n 2), (107, .invokevirtual 315), (110, .lreturn)]
/-- SectionTemplatesModel.count(I)I -/
def am_cd207 : List (Nat × Instr) := [(0, .iload_n 1), (1, .tableswitch 80 0 5 #[39, 44, 49, 54, 59, 64]), (40, .aload_n 0), (41, .getfield 186), (44, .ireturn), (45, .aload_n 0), (46, .getfield 201), (49, .ireturn), (50, .aload_n 0), (51, .getfield 189), (54, .ireturn), (55, .aload_n 0), (56, .getfield 318), (59, .ireturn), (60, .aload_n 0), (61, .getfield 131), (64, .ireturn), (65, .aload_n 0), (66, .getfield 189), (69, .ifCond .le 10), (72, .aload_n 0), (73, .getfield 192), (76, .goto 4), (79, .iconst 0), (80, .ireturn), (81, .iconst (-1)), (82, .ireturn)]
/-- SectionTemplatesLaw.law([I)Z -/
def am_cd208 : List (Nat × Instr) := [(0, .new 7), (3, .dup), (4, .invokespecial 9), (7, .astore_n 1), (8, .new 10), (11, .dup), (12, .invokespecial 12), (15, .astore_n 2), (16, .iconst 0), (17, .istore_n 3), (18, .iload_n 3), (19, .aload_n 0), (20, .arraylength), (21, .iconst 4), (22, .isub), (23, .if_icmp .gt 584), (26, .aload_n 0), (27, .iload_n 3), (28, .iaload), (29, .bipush 31), (31, .iand), (32, .tableswitch 569 0 16 #[84, 107, 120, 153, 164, 197, 230, 253, 297, 320, 343, 366, 389, 439, 473, 496, 546]), (116, .aload_n 1), (117, .aload_n 0), (118, .iload_n 3), (119, .iconst 1), (120, .iadd), (121, .iaload), (122, .invokevirtual 13), (125, .aload_n 2), (126, .aload_n 0), (127, .iload_n 3), (128, .iconst 1), (129, .iadd), (130, .iaload), (131, .invokevirtual 17), (134, .if_icmp .eq 467), (137, .iconst 0), (138, .ireturn), (139, .aload_n 1), (140, .invokevirtual 18), (143, .aload_n 2), (144, .invokevirtual 22), (147, .if_icmp .eq 454), (150, .iconst 0), (151, .ireturn), (152, .aload_n 1), (153, .aload_n 0), (154, .iload_n 3), (155, .iconst 1), (156, .iadd), (157, .iaload), (158, .aload_n 0), (159, .iload_n 3), (160, .iconst 2), (161, .iadd), (162, .iaload), (163, .invokevirtual 23), (166, .aload_n 2), (167, .aload_n 0), (168, .iload_n 3), (169, .iconst 1), (170, .iadd), (171, .iaload), (172, .aload_n 0), (173, .iload_n 3), (174, .iconst 2), (175, .iadd), (176, .iaload), (177, .invokevirtual 27), (180, .if_icmp .eq 421), (183, .iconst 0), (184, .ireturn), (185, .aload_n 1), (186, .invokevirtual 28), (189, .aload_n 2), (190, .invokevirtual 31), (193, .goto 408), (196, .aload_n 1), (197, .aload_n 0), (198, .iload_n 3), (199, .iconst 1), (200, .iadd), (201, .iaload), (202, .aload_n 0), (203, .iload_n 3), (204, .iconst 2), (205, .iadd), (206, .iaload), (207, .invokevirtual 32), (210, .aload_n 2), (211, .aload_n 0), (212, .iload_n 3), (213, .iconst 1), (214, .iadd), (215, .iaload), (216, .aload_n 0), (217, .iload_n 3), (218, .iconst 2), (219, .iadd), (220, .iaload), (221, .invokevirtual 35), (224, .if_icmp .eq 377), (227, .iconst 0), (228, .ireturn), (229, .aload_n 1), (230, .aload_n 0), (231, .iload_n 3), (232, .iconst 1), (233, .iadd), (234, .iaload), (235, .aload_n 0), (236, .iload_n 3), (237, .iconst 2), (238, .iadd), (239, .iaload), (240, .invokevirtual 36), (243, .aload_n 2), (244, .aload_n 0), (245, .iload_n 3), (246, .iconst 1), (247, .iadd), (248, .iaload), (249, .aload_n 0), (250, .iload_n 3), (251, .iconst 2), (252, .iadd), (253, .iaload), (254, .invokevirtual 39), (257, .if_icmp .eq 344), (260, .iconst 0), (261, .ireturn), (262, .aload_n 1), (263, .aload_n 0), (264, .iload_n 3), (265, .iconst 1), (266, .iadd), (267, .iaload), (268, .invokevirtual 40), (271, .aload_n 2), (272, .aload_n 0), (273, .iload_n 3), (274, .iconst 1), (275, .iadd), (276, .iaload), (277, .invokevirtual 44), (280, .if_icmp .eq 321), (283, .iconst 0), (284, .ireturn), (285, .aload_n 1), (286, .aload_n 0), (287, .iload_n 3), (288, .iconst 1), (289, .iadd), (290, .iaload), (291, .aload_n 0), (292, .iload_n 3), (293, .iconst 2), (294, .iadd), (295, .iaload), (296, .aload_n 0), (297, .iload_n 3), (298, .iconst 3), (299, .iadd), (300, .iaload), (301, .invokevirtual 45), (304, .aload_n 2), (305, .aload_n 0), (306, .iload_n 3), (307, .iconst 1), (308, .iadd), (309, .iaload), (310, .aload_n 0), (311, .iload_n 3), (312, .iconst 2), (313, .iadd), (314, .iaload), (315, .aload_n 0), (316, .iload_n 3), (317, .iconst 3), (318, .iadd), (319, .iaload), (320, .invokevirtual 49), (323, .lcmp), (324, .ifCond .eq 277), (327, .iconst 0), (328, .ireturn), (329, .aload_n 1), (330, .aload_n 0), (331, .iload_n 3), (332, .iconst 1), (333, .iadd), (334, .iaload), (335, .invokevirtual 50), (338, .aload_n 2), (339, .aload_n 0), (340, .iload_n 3), (341, .iconst 1), (342, .iadd), (343, .iaload), (344, .invokevirtual 53), (347, .if_icmp .eq 254), (350, .iconst 0), (351, .ireturn), (352, .aload_n 1), (353, .aload_n 0), (354, .iload_n 3), (355, .iconst 1), (356, .iadd), (357, .iaload), (358, .invokevirtual 54), (361, .aload_n 2), (362, .aload_n 0), (363, .iload_n 3), (364, .iconst 1), (365, .iadd), (366, .iaload), (367, .invokevirtual 57), (370, .if_icmp .eq 231), (373, .iconst 0), (374, .ireturn), (375, .aload_n 1), (376, .aload_n 0), (377, .iload_n 3), (378, .iconst 1), (379, .iadd), (380, .iaload), (381, .invokevirtual 58), (384, .aload_n 2), (385, .aload_n 0), (386, .iload_n 3), (387, .iconst 1), (388, .iadd), (389, .iaload), (390, .invokevirtual 61), (393, .if_icmp .eq 208), (396, .iconst 0), (397, .ireturn), (398, .aload_n 1), (399, .aload_n 0), (400, .iload_n 3), (401, .iconst 1), (402, .iadd), (403, .iaload), (404, .invokevirtual 62), (407, .aload_n 2), (408, .aload_n 0), (409, .iload_n 3), (410, .iconst 1), (411, .iadd), (412, .iaload), (413, .invokevirtual 65), (416, .if_icmp .eq 185), (419, .iconst 0), (420, .ireturn), (421, .aload_n 1), (422, .aload_n 0), (423, .iload_n 3), (424, .iconst 1), (425, .iadd), (426, .iaload), (427, .ifCond .eq 7), (430, .iconst 1), (431, .goto 4), (434, .iconst 0), (435, .aload_n 0), (436, .iload_n 3), (437, .iconst 2), (438, .iadd), (439, .iaload), (440, .invokevirtual 66), (443, .aload_n 2), (444, .aload_n 0), (445, .iload_n 3), (446, .iconst 1), (447, .iadd), (448, .iaload), (449, .ifCond .eq 7), (452, .iconst 1), (453, .goto 4), (456, .iconst 0), (457, .aload_n 0), (458, .iload_n 3), (459, .iconst 2), (460, .iadd), (461, .iaload), (462, .invokevirtual 70), (465, .lcmp), (466, .ifCond .eq 135), (469, .iconst 0), (470, .ireturn), (471, .aload_n 1), (472, .aload_n 0), (473, .iload_n 3), (474, .iconst 1), (475, .iadd), (476, .iaload), (477, .aload_n 0), (478, .iload_n 3), (479, .iconst 2), (480, .iadd), (481, .iaload), (482, .invokevirtual 71), (485, .aload_n 2), (486, .aload_n 0), (487, .iload_n 3), (488, .iconst 1), (489, .iadd), (490, .iaload), (491, .aload_n 0), (492, .iload_n 3), (493, .iconst 2), (494, .iadd), (495, .iaload), (496, .invokevirtual 75), (499, .lcmp), (500, .ifCond .eq 101), (503, .iconst 0), (504, .ireturn), (505, .aload_n 1), (506, .aload_n 0), (507, .iload_n 3), (508, .iconst 1), (509, .iadd), (510, .iaload), (511, .invokevirtual 76), (514, .aload_n 2), (515, .aload_n 0), (516, .iload_n 3), (517, .iconst 1), (518, .iadd), (519, .iaload), (520, .invokevirtual 79), (523, .if_icmp .eq 78), (526, .iconst 0), (527, .ireturn), (528, .aload_n 1), (529, .aload_n 0), (530, .iload_n 3), (531, .iconst 1), (532, .iadd), (533, .iaload), (534, .ifCond .eq 7), (537, .iconst 1), (538, .goto 4), (541, .iconst 0), (542, .aload_n 0), (543, .iload_n 3), (544, .iconst 2), (545, .iadd), (546, .iaload), (547, .invokevirtual 80), (550, .aload_n 2), (551, .aload_n 0), (552, .iload_n 3), (553, .iconst 1), (554, .iadd), (555, .iaload), (556, .ifCond .eq 7), (559, .iconst 1), (560, .goto 4), (563, .iconst 0), (564, .aload_n 0), (565, .iload_n 3), (566, .iconst 2), (567, .iadd), (568, .iaload), (569, .invokevirtual 83), (572, .lcmp), (573, .ifCond .eq 28), (576, .iconst 0), (577, .ireturn), (578, .aload_n 1), (579, .aload_n 0), (580, .iload_n 3), (581, .iconst 1), (582, .iadd), (583, .iaload), (584, .invokevirtual 84), (587, .aload_n 2), (588, .aload_n 0), (589, .iload_n 3), (590, .iconst 1), (591, .iadd), (592, .iaload), (593, .invokevirtual 87), (596, .if_icmp .eq 5), (599, .iconst 0), (600, .ireturn), (601, .iinc 3 4), (604, .goto (-586)), (607, .iconst 1), (608, .ireturn)]
def am_prs : List (ByteArray × List (Nat × Instr)) := [(prog_1_method_1_code, am_cd0), (prog_10_method_1_code, am_cd1), (prog_7_method_1_code, am_cd2), (prog_6_method_1_code, am_cd3), (prog_3_method_1_code, am_cd4), (prog_12_method_1_code, am_cd5), (prog_16_method_65_code, am_cd6), (prog_8_method_1_code, am_cd7), (prog_9_method_1_code, am_cd8), (prog_5_method_1_code, am_cd9), (prog_12_method_2_code, am_cd10), (prog_11_method_1_code, am_cd11), (prog_2_method_1_code, am_cd12), (prog_4_method_1_code, am_cd13), (prog_1_method_2_code, am_cd14), (prog_7_method_2_code, am_cd15), (prog_1_method_3_code, am_cd16), (prog_7_method_4_code, am_cd17), (prog_10_method_2_code, am_cd18), (prog_7_method_14_code, am_cd19), (prog_7_method_5_code, am_cd20), (prog_10_method_3_code, am_cd21), (prog_7_method_13_code, am_cd22), (prog_7_method_15_code, am_cd23), (prog_10_method_5_code, am_cd24), (prog_7_method_10_code, am_cd25), (prog_10_method_12_code, am_cd26), (prog_10_method_17_code, am_cd27), (prog_16_method_69_code, am_cd28), (prog_10_method_9_code, am_cd29), (prog_7_method_8_code, am_cd30), (prog_10_method_16_code, am_cd31), (prog_10_method_8_code, am_cd32), (prog_7_method_9_code, am_cd33), (prog_10_method_6_code, am_cd34), (prog_7_method_6_code, am_cd35), (prog_7_method_17_code, am_cd36), (prog_10_method_4_code, am_cd37), (prog_7_method_7_code, am_cd38), (prog_7_method_18_code, am_cd39), (prog_7_method_12_code, am_cd40), (prog_7_method_16_code, am_cd41), (prog_10_method_7_code, am_cd42), (prog_7_method_11_code, am_cd43), (prog_7_method_3_code, am_cd44), (prog_8_method_3_code, am_cd45), (prog_1_method_4_code, am_cd46), (prog_6_method_2_code, am_cd47), (prog_1_method_20_code, am_cd48), (prog_1_method_5_code, am_cd49), (prog_6_method_3_code, am_cd50), (prog_1_method_6_code, am_cd51), (prog_1_method_7_code, am_cd52), (prog_1_method_19_code, am_cd53), (prog_1_method_8_code, am_cd54), (prog_6_method_4_code, am_cd55), (prog_8_method_2_code, am_cd56), (prog_9_method_2_code, am_cd57), (prog_2_method_2_code, am_cd58), (prog_11_method_2_code, am_cd59), (prog_10_method_10_code, am_cd60), (prog_10_method_11_code, am_cd61), (prog_10_method_13_code, am_cd62), (prog_10_method_14_code, am_cd63), (prog_10_method_15_code, am_cd64), (prog_11_method_5_code, am_cd65), (prog_11_method_6_code, am_cd66), (prog_9_method_7_code, am_cd67), (prog_9_method_13_code, am_cd68), (prog_6_method_7_code, am_cd69), (prog_6_method_5_code, am_cd70), (prog_9_method_8_code, am_cd71), (prog_6_method_6_code, am_cd72), (prog_16_method_61_code, am_cd73), (prog_11_method_7_code, am_cd74), (prog_11_method_4_code, am_cd75), (prog_8_method_8_code, am_cd76), (prog_11_method_9_code, am_cd77), (prog_15_method_42_code, am_cd78), (prog_3_method_2_code, am_cd79), (prog_3_method_8_code, am_cd80), (prog_11_method_10_code, am_cd81), (prog_6_method_8_code, am_cd82), (prog_6_method_9_code, am_cd83), (prog_6_method_10_code, am_cd84), (prog_3_method_3_code, am_cd85), (prog_3_method_7_code, am_cd86), (prog_12_method_3_code, am_cd87), (prog_12_method_4_code, am_cd88), (prog_3_method_6_code, am_cd89), (prog_12_method_9_code, am_cd90), (prog_12_method_10_code, am_cd91), (prog_12_method_12_code, am_cd92), (prog_12_method_14_code, am_cd93), (prog_12_method_15_code, am_cd94), (prog_12_method_13_code, am_cd95), (prog_12_method_11_code, am_cd96), (prog_12_method_8_code, am_cd97), (prog_12_method_5_code, am_cd98), (prog_12_method_6_code, am_cd99), (prog_12_method_7_code, am_cd100), (prog_3_method_4_code, am_cd101), (prog_9_method_3_code, am_cd102), (prog_11_method_8_code, am_cd103), (prog_11_method_3_code, am_cd104), (prog_8_method_4_code, am_cd105), (prog_1_method_9_code, am_cd106), (prog_1_method_21_code, am_cd107), (prog_8_method_6_code, am_cd108), (prog_8_method_7_code, am_cd109), (prog_9_method_4_code, am_cd110), (prog_1_method_22_code, am_cd111), (prog_1_method_10_code, am_cd112), (prog_9_method_6_code, am_cd113), (prog_1_method_11_code, am_cd114), (prog_8_method_5_code, am_cd115), (prog_1_method_12_code, am_cd116), (prog_9_method_5_code, am_cd117), (prog_3_method_5_code, am_cd118), (prog_1_method_13_code, am_cd119), (prog_8_method_9_code, am_cd120), (prog_1_method_14_code, am_cd121), (prog_2_method_3_code, am_cd122), (prog_2_method_4_code, am_cd123), (prog_2_method_5_code, am_cd124), (prog_2_method_6_code, am_cd125), (prog_2_method_7_code, am_cd126), (prog_9_method_11_code, am_cd127), (prog_9_method_10_code, am_cd128), (prog_9_method_9_code, am_cd129), (prog_9_method_12_code, am_cd130), (prog_2_method_9_code, am_cd131), (prog_2_method_10_code, am_cd132), (prog_2_method_8_code, am_cd133), (prog_1_method_15_code, am_cd134), (prog_1_method_16_code, am_cd135), (prog_4_method_2_code, am_cd136), (prog_1_method_17_code, am_cd137), (prog_1_method_18_code, am_cd138), (prog_14_method_25_code, am_cd139), (prog_14_method_14_code, am_cd140), (prog_14_method_13_code, am_cd141), (prog_14_method_1_code, am_cd142), (prog_14_method_12_code, am_cd143), (prog_14_method_11_code, am_cd144), (prog_14_method_2_code, am_cd145), (prog_14_method_9_code, am_cd146), (prog_14_method_8_code, am_cd147), (prog_14_method_5_code, am_cd148), (prog_14_method_3_code, am_cd149), (prog_14_method_6_code, am_cd150), (prog_14_method_4_code, am_cd151), (prog_14_method_10_code, am_cd152), (prog_14_method_26_code, am_cd153), (prog_14_method_36_code, am_cd154), (prog_14_method_27_code, am_cd155), (prog_14_method_28_code, am_cd156), (prog_14_method_35_code, am_cd157), (prog_14_method_33_code, am_cd158), (prog_14_method_29_code, am_cd159), (prog_14_method_32_code, am_cd160), (prog_14_method_30_code, am_cd161), (prog_14_method_31_code, am_cd162), (prog_14_method_34_code, am_cd163), (prog_14_method_38_code, am_cd164), (prog_14_method_37_code, am_cd165), (prog_14_method_39_code, am_cd166), (prog_14_method_40_code, am_cd167), (prog_14_method_41_code, am_cd168), (prog_14_method_51_code, am_cd169), (prog_14_method_49_code, am_cd170), (prog_14_method_45_code, am_cd171), (prog_14_method_48_code, am_cd172), (prog_14_method_43_code, am_cd173), (prog_14_method_42_code, am_cd174), (prog_14_method_47_code, am_cd175), (prog_14_method_16_code, am_cd176), (prog_14_method_7_code, am_cd177), (prog_14_method_19_code, am_cd178), (prog_14_method_18_code, am_cd179), (prog_14_method_46_code, am_cd180), (prog_14_method_20_code, am_cd181), (prog_14_method_44_code, am_cd182), (prog_14_method_50_code, am_cd183), (prog_14_method_15_code, am_cd184), (prog_14_method_57_code, am_cd185), (prog_14_method_21_code, am_cd186), (prog_14_method_56_code, am_cd187), (prog_14_method_54_code, am_cd188), (prog_14_method_52_code, am_cd189), (prog_14_method_53_code, am_cd190), (prog_14_method_17_code, am_cd191), (prog_14_method_55_code, am_cd192), (prog_14_method_59_code, am_cd193), (prog_14_method_58_code, am_cd194), (prog_14_method_24_code, am_cd195), (prog_14_method_23_code, am_cd196), (prog_14_method_22_code, am_cd197), (prog_14_method_60_code, am_cd198), (prog_14_method_61_code, am_cd199), (prog_14_method_62_code, am_cd200), (prog_14_method_63_code, am_cd201), (prog_14_method_64_code, am_cd202), (prog_14_method_65_code, am_cd203), (prog_14_method_67_code, am_cd204), (prog_14_method_66_code, am_cd205), (prog_14_method_68_code, am_cd206), (prog_14_method_69_code, am_cd207), (code, am_cd208)]
def am_fdc : List (Nat × Instr) → Nat → Option Instr
  | [], _ => none
  | q :: r, x => match Nat.beq q.1 x with
    | true => some q.2
    | false => am_fdc r x
def am_code (k pc : Nat) : Option Instr := match am_prs[k]? with
  | some q => am_fdc q.2 pc
  | none => none
def am_bytes (k : Nat) : ByteArray := match am_prs[k]? with
  | some q => q.1
  | none => ⟨#[]⟩
end
section
/-! THE TABLES ARE RIGHT: each row stands among the Statement's words; printed by wip/whole/tools/gen_tables.py -/
def am_layL : List (List Nat) := [[485, 487, 489, 491, 493, 495, 497, 499, 501, 503, 505, 507, 509, 511, 513, 515, 517, 519], [118, 120, 122, 124, 126, 128, 130, 132], [151, 153, 155, 157, 159, 161, 163], [176, 178, 180], [220, 222, 224, 226, 228, 230, 232, 234, 236, 238, 240], [203, 205], [344, 346, 348, 350, 352], [311, 313, 315, 317, 319, 321, 323, 325, 327, 329], [280, 282, 284], [370, 372, 374, 376, 378, 380, 382], [409, 411, 413, 415, 417, 419, 421, 423, 425, 427, 429, 431, 433, 435], [454, 456, 458, 460, 462], [1164, 1166, 1168, 1170, 1172, 1174, 1176, 1178, 1180, 1182, 1184, 1186, 1188, 1190, 1192, 1194, 1196, 1198, 1200, 1202, 1204, 1206, 1208, 1210, 1212, 1214, 1216, 1218, 1220, 1222, 1224, 1226, 1228, 1230, 1232, 1234, 1236, 1238, 1240]]
def am_mpL : List (Nat × Nat) := [(79, 98), (80, 106), (81, 140), (82, 170), (83, 188), (84, 194), (85, 198), (86, 247), (87, 253), (88, 259), (84, 266), (89, 359), (90, 389), (91, 442), (79, 525), (81, 529), (79, 533), (81, 537), (80, 541), (81, 545), (81, 549), (80, 553), (81, 557), (81, 561), (80, 565), (81, 569), (80, 573), (80, 577), (85, 580), (80, 585), (81, 589), (80, 593), (80, 597), (81, 601), (80, 605), (81, 609), (81, 612), (80, 616), (81, 620), (81, 623), (81, 627), (81, 630), (80, 636), (81, 641), (81, 645), (86, 649), (79, 653), (82, 657), (79, 662), (79, 666), (82, 670), (79, 674), (79, 681), (79, 684), (79, 688), (82, 692), (86, 697), (87, 701), (90, 705), (89, 709), (80, 713), (80, 717), (80, 722), (80, 726), (80, 730), (89, 734), (89, 738), (87, 742), (87, 746), (82, 753), (82, 757), (87, 761), (82, 765), (85, 768), (89, 772), (89, 776), (86, 780), (89, 784), (93, 787), (83, 791), (83, 795), (89, 802), (82, 806), (82, 810), (82, 814), (83, 818), (83, 822), (84, 826), (84, 830), (83, 834), (84, 838), (84, 842), (84, 846), (84, 850), (84, 854), (84, 859), (84, 863), (84, 867), (84, 871), (84, 875), (84, 879), (83, 883), (87, 887), (89, 891), (89, 895), (86, 899), (79, 903), (79, 906), (86, 912), (86, 916), (87, 920), (79, 923), (79, 931), (87, 935), (79, 939), (86, 943), (79, 947), (87, 951), (83, 956), (79, 962), (86, 966), (79, 970), (90, 974), (90, 979), (90, 984), (90, 989), (90, 993), (87, 999), (87, 1004), (87, 1009), (87, 1013), (90, 1024), (90, 1028), (90, 1032), (79, 1036), (79, 1043), (91, 1047), (79, 1058), (79, 1062), (92, 1067), (92, 1074), (92, 1077), (92, 1081), (92, 1086), (92, 1090), (92, 1094), (92, 1098), (92, 1102), (92, 1107), (92, 1111), (92, 1115), (92, 1119), (92, 1124), (92, 1247), (92, 1251), (92, 1255), (92, 1259), (92, 1263), (92, 1267), (92, 1271), (92, 1278), (92, 1282), (92, 1286), (92, 1290), (92, 1294), (92, 1299), (92, 1303), (92, 1307), (92, 1311), (92, 1315), (92, 1319), (92, 1324), (92, 1328), (92, 1332), (92, 1336), (92, 1340), (92, 1344), (92, 1348), (92, 1352), (92, 1356), (92, 1360), (92, 1364), (92, 1368), (92, 1372), (92, 1376), (92, 1380), (92, 1384), (92, 1388), (92, 1392), (92, 1396), (92, 1400), (92, 1404), (92, 1408), (92, 1413), (92, 1417), (92, 1420), (92, 1425), (92, 1429), (92, 1433), (92, 1437), (92, 1441), (92, 1445), (92, 1449), (92, 1453), (92, 1457), (92, 1461), (92, 1465), (92, 1470), (78, 0)]
def am_WT : List Cond := lw_tbl.filter goodWord
theorem am_WT_good : ∀ w ∈ am_WT, (w.onTables && w.keeps) = true ∨ ∃ ty, w = .arrayClass ty := fun w h => good_of_word (List.mem_filter.mp h).2
def am_at (p : Nat) (w : Cond) : Bool := decide (lw_tbl[p]? = some w) && goodWord w
theorem am_at_in {p : Nat} {w : Cond} (h : am_at p w = true) : w ∈ am_WT := by
  unfold am_at at h
  rw [Bool.and_eq_true] at h
  exact List.mem_filter.mpr ⟨List.mem_of_getElem? (of_decide_eq_true h.1), h.2⟩
theorem am_fnd_mem {α : Type} : ∀ {l : List ((Nat × Nat) × α)} {o j : Nat} {v : α}, am_fnd l o j = some v → ((o, j), v) ∈ l
  | [], _, _, _, h => by cases h
  | q :: r, o, j, v, h => by
    unfold am_fnd at h
    split at h
    · rename_i hb
      rw [Bool.and_eq_true] at hb
      have e1 := Nat.eq_of_beq_eq_true hb.1
      have e2 := Nat.eq_of_beq_eq_true hb.2
      have e3 : q.2 = v := Option.some.inj h
      have e4 : q = ((o, j), v) := by rw [← e1, ← e2, ← e3]
      rw [e4]
      exact List.mem_cons_self
    · exact List.mem_cons_of_mem _ (am_fnd_mem h)
theorem am_map_inv {α β : Type} {q : Option α} {f : α → β} {b : β} (h : q.map f = some b) : ∃ a, q = some a ∧ f a = b := by
  cases q with
  | none => cases h
  | some a => exact ⟨a, rfl, Option.some.inj h⟩
def am_cck (ci : Nat) : Bool := match vwCl[ci]? with
  | some (C, T, N) => (List.range N).all (fun k => am_at (((am_layL[ci]?).getD [])[k]?.getD 0) (u_lay C T k)) && (List.range N).all (fun k => decide (parseFieldDescriptor (T k).2.2.1 = some (am_fty ci k))) && (List.range N).all (fun a => (List.range N).all (fun b => a == b || decide (¬ (T a).2.1 = (T b).2.1))) && (List.range N).all (fun k => decide ((T k).1 = C)) && decide ((am_dfl ci).length = N) && (List.range N).all (fun j => decide (defaultValue (am_fty ci j) = vp_V (am_dfl ci) j)) && (am_dfl ci).all (fun v => match v with | .int _ => true | .long _ => true | .null => true | _ => false)
  | none => true
theorem am_cck_ok : (List.range 13).all am_cck = true := by decide +kernel
theorem am_cls {ci : Nat} {C : String} {T : u_T} {N : Nat} (h : vwCl[ci]? = some (C, T, N)) : am_cck ci = true := by
  have hl : ci < 13 := (List.getElem?_eq_some_iff.mp h).1
  exact List.all_eq_true.mp am_cck_ok ci (List.mem_range.mpr hl)
theorem am_cls7 {ci : Nat} {C : String} {T : u_T} {N : Nat} (h : vwCl[ci]? = some (C, T, N)) : ((((((∀ k, k < N → am_at (((am_layL[ci]?).getD [])[k]?.getD 0) (u_lay C T k) = true) ∧ (∀ k, k < N → parseFieldDescriptor (T k).2.2.1 = some (am_fty ci k))) ∧ (∀ a, a < N → ∀ b, b < N → a = b ∨ ¬ (T a).2.1 = (T b).2.1)) ∧ (∀ k, k < N → (T k).1 = C)) ∧ (am_dfl ci).length = N) ∧ (∀ j, j < N → defaultValue (am_fty ci j) = vp_V (am_dfl ci) j)) ∧ (am_dfl ci).all (fun v => match v with | .int _ => true | .long _ => true | .null => true | _ => false) = true := by
  have h1 := am_cls h
  unfold am_cck at h1
  rw [h] at h1
  simpa [Bool.and_eq_true, List.all_eq_true] using h1
def am_fck (q : (Nat × Nat) × (Nat × Nat × Nat)) : Bool := match vwCl[q.2.1]? with
  | some (_, T, N) => decide (q.2.2.1 < N) && (am_at q.2.2.2 (.fieldLink (am_cn q.1.1) q.1.2 (T q.2.2.1).1 (T q.2.2.1).2.1 (T q.2.2.1).2.2.1) || decide ((am_cn q.1.1, q.1.2, (T q.2.2.1).1, (T q.2.2.1).2.1, (T q.2.2.1).2.2.1, "SectionTemplates") ∈ am_NF)) && decide ((T q.2.2.1).2.2.2 = am_fin q.2.1 q.2.2.1)
  | none => false
theorem am_fck_ok : am_fldL.all am_fck = true := by decide +kernel
def am_nck (q : (Nat × Nat) × (Nat × Nat × Nat × Nat)) : Bool := match vwCl[q.2.1]? with
  | some (C, _, N) => am_at q.2.2.1 (.classLink (am_cn q.1.1) q.1.2 C) && am_at q.2.2.2.1 (.instantiable C N) && am_at q.2.2.2.2 (.initialized C)
  | none => false
theorem am_nck_ok : am_newL.all am_nck = true := by decide +kernel
theorem am_ick_ok : am_ldiL.all (fun q => am_at q.2.2 (.constant (am_cn q.1.1) q.1.2 q.2.1)) = true := by decide +kernel
theorem am_lck_ok : am_ldlL.all (fun q => am_at q.2.2 (.constantLong (am_cn q.1.1) q.1.2 q.2.1)) = true := by decide +kernel
theorem am_obj_i : Cond.instanceMethod Lib.objectInit ∈ am_WT := am_at_in (p := 100) (by decide +kernel)
theorem am_obj_c : Cond.code Lib.objectInit ⟨#[0xb1]⟩ 1 none ∈ am_WT := am_at_in (p := 101) (by decide +kernel)
theorem am_arr_i : Cond.arrayClass .int ∈ am_WT := am_at_in (p := 135) (by decide +kernel)
theorem am_arr_l : Cond.arrayClass .long ∈ am_WT := am_at_in (p := 208) (by decide +kernel)
theorem am_arr_z : Cond.arrayClass .boolean ∈ am_WT := am_at_in (p := 1243) (by decide +kernel)
theorem am_NF_in : am_NF.all (fun q => lw_tbl.contains (.fieldLinkNest q.1 q.2.1 q.2.2.1 q.2.2.2.1 q.2.2.2.2.1 q.2.2.2.2.2)) = true := by decide +kernel
theorem am_NM_in : am_NM.all (fun q => lw_tbl.contains (.methodLinkNest q.1 q.2.1 q.2.2.1 q.2.2.2)) = true := by decide +kernel
theorem am_NF_ne : am_NF.all (fun q => decide (¬ q.2.2.1 = q.1)) = true := by decide +kernel
theorem am_NF_other {q : String × Nat × String × String × String × String} (h : q ∈ am_NF) : ¬ q.2.2.1 = q.1 := of_decide_eq_true (List.all_eq_true.mp am_NF_ne q h)
theorem am_ldi_ok {o j : Nat} {v : Int32} (h : am_ldi o j = some v) : Cond.constant (am_cn o) j v ∈ am_WT := by
  obtain ⟨a, h1, h2⟩ := am_map_inv h
  have h3 := List.all_eq_true.mp am_ick_ok _ (am_fnd_mem h1)
  rw [← h2]
  exact am_at_in h3
theorem am_ldl_ok {o j : Nat} {v : Int64} (h : am_ldl o j = some v) : Cond.constantLong (am_cn o) j v ∈ am_WT := by
  obtain ⟨a, h1, h2⟩ := am_map_inv h
  have h3 := List.all_eq_true.mp am_lck_ok _ (am_fnd_mem h1)
  rw [← h2]
  exact am_at_in h3
theorem am_fld_ok {o j ci f : Nat} (h : am_fld o j = some (ci, f)) : ∃ (C : String) (T : u_T) (N : Nat), vwCl[ci]? = some (C, T, N) ∧ f < N ∧ (Cond.fieldLink (am_cn o) j (T f).1 (T f).2.1 (T f).2.2.1 ∈ am_WT ∨ ∃ host, (am_cn o, j, (T f).1, (T f).2.1, (T f).2.2.1, host) ∈ am_NF) ∧ (T f).2.2.2 = am_fin ci f := by
  obtain ⟨⟨c1, f1, p1⟩, h1, h2⟩ := am_map_inv h
  have e1 : c1 = ci := congrArg Prod.fst h2
  have e2 : f1 = f := congrArg Prod.snd h2
  subst e1 e2
  have h3 := List.all_eq_true.mp am_fck_ok _ (am_fnd_mem h1)
  unfold am_fck at h3
  dsimp only at h3
  split at h3
  · rename_i C T N hc
    rw [Bool.and_eq_true, Bool.and_eq_true] at h3
    refine ⟨C, T, N, hc, of_decide_eq_true h3.1.1, ?_, of_decide_eq_true h3.2⟩
    rcases Bool.or_eq_true _ _ ▸ h3.1.2 with g | g
    · exact Or.inl (am_at_in g)
    · exact Or.inr ⟨_, of_decide_eq_true g⟩
  · cases h3
theorem am_newc_ok {o j ci : Nat} (h : am_newc o j = some ci) : ∃ (C : String) (T : u_T) (N : Nat), vwCl[ci]? = some (C, T, N) ∧ Cond.classLink (am_cn o) j C ∈ am_WT ∧ Cond.instantiable C N ∈ am_WT ∧ Cond.initialized C ∈ am_WT ∧ (am_dfl ci).length = N ∧ (∀ j, j < N → defaultValue (am_fty ci j) = vp_V (am_dfl ci) j) ∧ ∀ f : Value → Value, (∀ x, f (.int x) = .int x) → (∀ x, f (.long x) = .long x) → f .null = .null → (am_dfl ci).map f = am_dfl ci := by
  obtain ⟨⟨c1, p1, p2, p3⟩, h1, h2⟩ := am_map_inv h
  have e1 : c1 = ci := h2
  subst e1
  have h3 := List.all_eq_true.mp am_nck_ok _ (am_fnd_mem h1)
  unfold am_nck at h3
  dsimp only at h3
  split at h3
  · rename_i C T N hc
    rw [Bool.and_eq_true, Bool.and_eq_true] at h3
    obtain ⟨⟨⟨-, g5⟩, g6⟩, g7⟩ := am_cls7 hc
    refine ⟨C, T, N, hc, am_at_in h3.1.1, am_at_in h3.1.2, am_at_in h3.2, g5, g6, fun f f1 f2 f3 => ?_⟩
    have g8 := List.all_eq_true.mp g7
    have : ∀ l : List Value, (∀ v ∈ l, (match v with | .int _ => true | .long _ => true | .null => true | _ => false) = true) → l.map f = l := by
      intro l
      induction l with
      | nil => intro _; rfl
      | cons v r ih =>
        intro hv
        have hr := ih (fun w hw => hv w (List.mem_cons_of_mem _ hw))
        have h0 := hv v List.mem_cons_self
        rw [List.map_cons, hr]
        cases v <;> first | rw [f1] | rw [f2] | rw [f3] | (cases h0; done)
    exact this _ g8
  · cases h3
theorem am_ctor_ok {k ci : Nat} {C : String} {T : u_T} {N : Nat} (h : am_ctor k ci = true) (hc : vwCl[ci]? = some (C, T, N)) (hn : C = am_cn (am_own k)) : am_isi k = true ∧ ∀ f, f < N → (T f).1 = am_cn (am_own k) := by
  unfold am_ctor at h
  rw [Bool.and_eq_true] at h
  obtain ⟨⟨⟨⟨-, g4⟩, -⟩, -⟩, -⟩ := am_cls7 hc
  exact ⟨h.1, fun f hf => (g4 f hf).trans hn⟩
def am_kck (k : Nat) : Bool := !(am_isi k) || match vwCl[am_rcv k]? with
  | some (C, _, _) => decide (C = am_cn (am_own k))
  | none => false
theorem am_kck_ok : (List.range 209).all am_kck = true := by decide +kernel
end
section
/-! EACH METHOD IS THE STATEMENT'S; printed by wip/whole/tools/gen_tables.py -/
theorem am_tb1 {w : Cond} (h : w ∈ tables_1_1) : w ∈ lw_tbl := List.mem_append_right _ (List.mem_append_left _ h)
theorem am_tb2 {w : Cond} (h : w ∈ tables_1_2) : w ∈ lw_tbl := List.mem_append_right _ (List.mem_append_right _ (List.mem_append_left _ h))
theorem am_tb3 {w : Cond} (h : w ∈ tables_1_3) : w ∈ lw_tbl := List.mem_append_right _ (List.mem_append_right _ (List.mem_append_right _ (List.mem_append_left _ h)))
theorem am_tb4 {w : Cond} (h : w ∈ tables_1_4) : w ∈ lw_tbl := List.mem_append_right _ (List.mem_append_right _ (List.mem_append_right _ (List.mem_append_right _ (List.mem_append_left _ h))))
theorem am_tb5 {w : Cond} (h : w ∈ tables_1_5) : w ∈ lw_tbl := List.mem_append_right _ (List.mem_append_right _ (List.mem_append_right _ (List.mem_append_right _ (List.mem_append_right _ (List.mem_append_left _ h)))))
theorem am_tb6 {w : Cond} (h : w ∈ tables_1_6) : w ∈ lw_tbl := List.mem_append_right _ (List.mem_append_right _ (List.mem_append_right _ (List.mem_append_right _ (List.mem_append_right _ (List.mem_append_right _ (h))))))
def am_mok (k : Nat) : Prop := Cond.initialized (am_name k).cls ∈ am_WT ∧ Cond.code (am_name k) (am_bytes k) (am_mxl k) (am_ret k) ∈ am_WT ∧ (am_name k).cls ≠ "java/lang/invoke/MethodHandle" ∧ (am_name k).cls ≠ "java/lang/invoke/VarHandle" ∧ plainName (am_name k).cls = true ∧ am_cn (am_own k) = (am_name k).cls ∧ (am_isi k = true → (am_name k).name = "<init>")
def am_mks : List Nat := [0, 1, 2, 3, 4, 5, 7, 8, 9, 10, 11, 12, 13, 14, 15, 16, 17, 18, 19, 20, 21, 22, 23, 24, 25, 26, 27, 29, 30, 31, 32, 33, 34, 35, 36, 37, 38, 39, 40, 41, 42, 43, 44, 45, 46, 47, 48, 49, 50, 51, 52, 53, 54, 55, 56, 57, 58, 59, 60, 61, 62, 63, 64, 65, 66, 67, 68, 69, 70, 71, 72, 74, 75, 76, 77, 78, 79, 80, 81, 82, 83, 84, 85, 86, 87, 88, 89, 90, 91, 92, 93, 94, 95, 96, 97, 98, 99, 100, 101, 102, 103, 104, 105, 106, 107, 108, 109, 110, 111, 112, 113, 114, 115, 116, 117, 118, 119, 120, 121, 122, 123, 124, 125, 126, 127, 128, 129, 130, 131, 132, 133, 134, 135, 136, 137, 138, 139, 140, 141, 142, 143, 144, 145, 146, 147, 148, 149, 150, 151, 152, 153, 154, 155, 156, 157, 158, 159, 160, 161, 162, 163, 164, 165, 166, 167, 168, 169, 170, 171, 172, 173, 174, 175, 176, 177, 178, 179, 180, 181, 182, 183, 184, 185, 186, 187, 188, 189, 190, 191, 192, 193, 194, 195, 196, 197, 198, 199, 200, 201, 202, 203, 204, 205, 206, 207]
theorem am_mk1 : am_mks.all (fun k => am_at ((am_mpL[k]?.getD (0, 0)).1) (.initialized (am_name k).cls) && decide (¬ (am_name k).cls = "java/lang/invoke/MethodHandle") && decide (¬ (am_name k).cls = "java/lang/invoke/VarHandle") && plainName (am_name k).cls && decide (am_cn (am_own k) = (am_name k).cls) && (!(am_isi k) || decide ((am_name k).name = "<init>"))) = true := by decide +kernel
theorem am_cw0 : Cond.code (am_name 0) (am_bytes 0) (am_mxl 0) (am_ret 0) ∈ tables_1_1 := List.mem_of_getElem? (i := 20) rfl
theorem am_cw1 : Cond.code (am_name 1) (am_bytes 1) (am_mxl 1) (am_ret 1) ∈ tables_1_1 := List.mem_of_getElem? (i := 28) rfl
theorem am_cw2 : Cond.code (am_name 2) (am_bytes 2) (am_mxl 2) (am_ret 2) ∈ tables_1_1 := List.mem_of_getElem? (i := 62) rfl
theorem am_cw3 : Cond.code (am_name 3) (am_bytes 3) (am_mxl 3) (am_ret 3) ∈ tables_1_1 := List.mem_of_getElem? (i := 92) rfl
theorem am_cw4 : Cond.code (am_name 4) (am_bytes 4) (am_mxl 4) (am_ret 4) ∈ tables_1_1 := List.mem_of_getElem? (i := 110) rfl
theorem am_cw5 : Cond.code (am_name 5) (am_bytes 5) (am_mxl 5) (am_ret 5) ∈ tables_1_1 := List.mem_of_getElem? (i := 116) rfl
theorem am_cw7 : Cond.code (am_name 7) (am_bytes 7) (am_mxl 7) (am_ret 7) ∈ tables_1_1 := List.mem_of_getElem? (i := 169) rfl
theorem am_cw8 : Cond.code (am_name 8) (am_bytes 8) (am_mxl 8) (am_ret 8) ∈ tables_1_1 := List.mem_of_getElem? (i := 175) rfl
theorem am_cw9 : Cond.code (am_name 9) (am_bytes 9) (am_mxl 9) (am_ret 9) ∈ tables_1_1 := List.mem_of_getElem? (i := 181) rfl
theorem am_cw10 : Cond.code (am_name 10) (am_bytes 10) (am_mxl 10) (am_ret 10) ∈ tables_1_1 := List.mem_of_getElem? (i := 188) rfl
theorem am_cw11 : Cond.code (am_name 11) (am_bytes 11) (am_mxl 11) (am_ret 11) ∈ tables_1_2 := List.mem_of_getElem? (i := 41) rfl
theorem am_cw12 : Cond.code (am_name 12) (am_bytes 12) (am_mxl 12) (am_ret 12) ∈ tables_1_2 := List.mem_of_getElem? (i := 71) rfl
theorem am_cw13 : Cond.code (am_name 13) (am_bytes 13) (am_mxl 13) (am_ret 13) ∈ tables_1_2 := List.mem_of_getElem? (i := 124) rfl
theorem am_cw14 : Cond.code (am_name 14) (am_bytes 14) (am_mxl 14) (am_ret 14) ∈ tables_1_2 := List.mem_of_getElem? (i := 207) rfl
theorem am_cw15 : Cond.code (am_name 15) (am_bytes 15) (am_mxl 15) (am_ret 15) ∈ tables_1_2 := List.mem_of_getElem? (i := 211) rfl
theorem am_cw16 : Cond.code (am_name 16) (am_bytes 16) (am_mxl 16) (am_ret 16) ∈ tables_1_2 := List.mem_of_getElem? (i := 215) rfl
theorem am_cw17 : Cond.code (am_name 17) (am_bytes 17) (am_mxl 17) (am_ret 17) ∈ tables_1_2 := List.mem_of_getElem? (i := 219) rfl
theorem am_cw18 : Cond.code (am_name 18) (am_bytes 18) (am_mxl 18) (am_ret 18) ∈ tables_1_2 := List.mem_of_getElem? (i := 223) rfl
theorem am_cw19 : Cond.code (am_name 19) (am_bytes 19) (am_mxl 19) (am_ret 19) ∈ tables_1_2 := List.mem_of_getElem? (i := 227) rfl
theorem am_cw20 : Cond.code (am_name 20) (am_bytes 20) (am_mxl 20) (am_ret 20) ∈ tables_1_2 := List.mem_of_getElem? (i := 231) rfl
theorem am_cw21 : Cond.code (am_name 21) (am_bytes 21) (am_mxl 21) (am_ret 21) ∈ tables_1_2 := List.mem_of_getElem? (i := 235) rfl
theorem am_cw22 : Cond.code (am_name 22) (am_bytes 22) (am_mxl 22) (am_ret 22) ∈ tables_1_2 := List.mem_of_getElem? (i := 239) rfl
theorem am_cw23 : Cond.code (am_name 23) (am_bytes 23) (am_mxl 23) (am_ret 23) ∈ tables_1_3 := List.mem_of_getElem? (i := 3) rfl
theorem am_cw24 : Cond.code (am_name 24) (am_bytes 24) (am_mxl 24) (am_ret 24) ∈ tables_1_3 := List.mem_of_getElem? (i := 7) rfl
theorem am_cw25 : Cond.code (am_name 25) (am_bytes 25) (am_mxl 25) (am_ret 25) ∈ tables_1_3 := List.mem_of_getElem? (i := 11) rfl
theorem am_cw26 : Cond.code (am_name 26) (am_bytes 26) (am_mxl 26) (am_ret 26) ∈ tables_1_3 := List.mem_of_getElem? (i := 15) rfl
theorem am_cw27 : Cond.code (am_name 27) (am_bytes 27) (am_mxl 27) (am_ret 27) ∈ tables_1_3 := List.mem_of_getElem? (i := 19) rfl
theorem am_cw29 : Cond.code (am_name 29) (am_bytes 29) (am_mxl 29) (am_ret 29) ∈ tables_1_3 := List.mem_of_getElem? (i := 27) rfl
theorem am_cw30 : Cond.code (am_name 30) (am_bytes 30) (am_mxl 30) (am_ret 30) ∈ tables_1_3 := List.mem_of_getElem? (i := 31) rfl
theorem am_cw31 : Cond.code (am_name 31) (am_bytes 31) (am_mxl 31) (am_ret 31) ∈ tables_1_3 := List.mem_of_getElem? (i := 35) rfl
theorem am_cw32 : Cond.code (am_name 32) (am_bytes 32) (am_mxl 32) (am_ret 32) ∈ tables_1_3 := List.mem_of_getElem? (i := 39) rfl
theorem am_cw33 : Cond.code (am_name 33) (am_bytes 33) (am_mxl 33) (am_ret 33) ∈ tables_1_3 := List.mem_of_getElem? (i := 43) rfl
theorem am_cw34 : Cond.code (am_name 34) (am_bytes 34) (am_mxl 34) (am_ret 34) ∈ tables_1_3 := List.mem_of_getElem? (i := 47) rfl
theorem am_cw35 : Cond.code (am_name 35) (am_bytes 35) (am_mxl 35) (am_ret 35) ∈ tables_1_3 := List.mem_of_getElem? (i := 51) rfl
theorem am_cw36 : Cond.code (am_name 36) (am_bytes 36) (am_mxl 36) (am_ret 36) ∈ tables_1_3 := List.mem_of_getElem? (i := 54) rfl
theorem am_cw37 : Cond.code (am_name 37) (am_bytes 37) (am_mxl 37) (am_ret 37) ∈ tables_1_3 := List.mem_of_getElem? (i := 58) rfl
theorem am_cw38 : Cond.code (am_name 38) (am_bytes 38) (am_mxl 38) (am_ret 38) ∈ tables_1_3 := List.mem_of_getElem? (i := 62) rfl
theorem am_cw39 : Cond.code (am_name 39) (am_bytes 39) (am_mxl 39) (am_ret 39) ∈ tables_1_3 := List.mem_of_getElem? (i := 65) rfl
theorem am_cw40 : Cond.code (am_name 40) (am_bytes 40) (am_mxl 40) (am_ret 40) ∈ tables_1_3 := List.mem_of_getElem? (i := 69) rfl
theorem am_cw41 : Cond.code (am_name 41) (am_bytes 41) (am_mxl 41) (am_ret 41) ∈ tables_1_3 := List.mem_of_getElem? (i := 72) rfl
theorem am_cw42 : Cond.code (am_name 42) (am_bytes 42) (am_mxl 42) (am_ret 42) ∈ tables_1_3 := List.mem_of_getElem? (i := 78) rfl
theorem am_cw43 : Cond.code (am_name 43) (am_bytes 43) (am_mxl 43) (am_ret 43) ∈ tables_1_3 := List.mem_of_getElem? (i := 83) rfl
theorem am_cw44 : Cond.code (am_name 44) (am_bytes 44) (am_mxl 44) (am_ret 44) ∈ tables_1_3 := List.mem_of_getElem? (i := 87) rfl
theorem am_cw45 : Cond.code (am_name 45) (am_bytes 45) (am_mxl 45) (am_ret 45) ∈ tables_1_3 := List.mem_of_getElem? (i := 91) rfl
theorem am_cw46 : Cond.code (am_name 46) (am_bytes 46) (am_mxl 46) (am_ret 46) ∈ tables_1_3 := List.mem_of_getElem? (i := 95) rfl
theorem am_cw47 : Cond.code (am_name 47) (am_bytes 47) (am_mxl 47) (am_ret 47) ∈ tables_1_3 := List.mem_of_getElem? (i := 99) rfl
theorem am_cw48 : Cond.code (am_name 48) (am_bytes 48) (am_mxl 48) (am_ret 48) ∈ tables_1_3 := List.mem_of_getElem? (i := 104) rfl
theorem am_cw49 : Cond.code (am_name 49) (am_bytes 49) (am_mxl 49) (am_ret 49) ∈ tables_1_3 := List.mem_of_getElem? (i := 108) rfl
theorem am_cw50 : Cond.code (am_name 50) (am_bytes 50) (am_mxl 50) (am_ret 50) ∈ tables_1_3 := List.mem_of_getElem? (i := 112) rfl
theorem am_cw51 : Cond.code (am_name 51) (am_bytes 51) (am_mxl 51) (am_ret 51) ∈ tables_1_3 := List.mem_of_getElem? (i := 116) rfl
theorem am_cw52 : Cond.code (am_name 52) (am_bytes 52) (am_mxl 52) (am_ret 52) ∈ tables_1_3 := List.mem_of_getElem? (i := 123) rfl
theorem am_cw53 : Cond.code (am_name 53) (am_bytes 53) (am_mxl 53) (am_ret 53) ∈ tables_1_3 := List.mem_of_getElem? (i := 126) rfl
theorem am_cw54 : Cond.code (am_name 54) (am_bytes 54) (am_mxl 54) (am_ret 54) ∈ tables_1_3 := List.mem_of_getElem? (i := 130) rfl
theorem am_cw55 : Cond.code (am_name 55) (am_bytes 55) (am_mxl 55) (am_ret 55) ∈ tables_1_3 := List.mem_of_getElem? (i := 134) rfl
theorem am_cw56 : Cond.code (am_name 56) (am_bytes 56) (am_mxl 56) (am_ret 56) ∈ tables_1_3 := List.mem_of_getElem? (i := 139) rfl
theorem am_cw57 : Cond.code (am_name 57) (am_bytes 57) (am_mxl 57) (am_ret 57) ∈ tables_1_3 := List.mem_of_getElem? (i := 143) rfl
theorem am_cw58 : Cond.code (am_name 58) (am_bytes 58) (am_mxl 58) (am_ret 58) ∈ tables_1_3 := List.mem_of_getElem? (i := 147) rfl
theorem am_cw59 : Cond.code (am_name 59) (am_bytes 59) (am_mxl 59) (am_ret 59) ∈ tables_1_3 := List.mem_of_getElem? (i := 151) rfl
theorem am_cw60 : Cond.code (am_name 60) (am_bytes 60) (am_mxl 60) (am_ret 60) ∈ tables_1_3 := List.mem_of_getElem? (i := 155) rfl
theorem am_cw61 : Cond.code (am_name 61) (am_bytes 61) (am_mxl 61) (am_ret 61) ∈ tables_1_3 := List.mem_of_getElem? (i := 159) rfl
theorem am_cw62 : Cond.code (am_name 62) (am_bytes 62) (am_mxl 62) (am_ret 62) ∈ tables_1_3 := List.mem_of_getElem? (i := 164) rfl
theorem am_cw63 : Cond.code (am_name 63) (am_bytes 63) (am_mxl 63) (am_ret 63) ∈ tables_1_3 := List.mem_of_getElem? (i := 168) rfl
theorem am_cw64 : Cond.code (am_name 64) (am_bytes 64) (am_mxl 64) (am_ret 64) ∈ tables_1_3 := List.mem_of_getElem? (i := 172) rfl
theorem am_cw65 : Cond.code (am_name 65) (am_bytes 65) (am_mxl 65) (am_ret 65) ∈ tables_1_3 := List.mem_of_getElem? (i := 176) rfl
theorem am_cw66 : Cond.code (am_name 66) (am_bytes 66) (am_mxl 66) (am_ret 66) ∈ tables_1_3 := List.mem_of_getElem? (i := 180) rfl
theorem am_cw67 : Cond.code (am_name 67) (am_bytes 67) (am_mxl 67) (am_ret 67) ∈ tables_1_3 := List.mem_of_getElem? (i := 184) rfl
theorem am_cw68 : Cond.code (am_name 68) (am_bytes 68) (am_mxl 68) (am_ret 68) ∈ tables_1_3 := List.mem_of_getElem? (i := 188) rfl
theorem am_cw69 : Cond.code (am_name 69) (am_bytes 69) (am_mxl 69) (am_ret 69) ∈ tables_1_3 := List.mem_of_getElem? (i := 195) rfl
theorem am_cw70 : Cond.code (am_name 70) (am_bytes 70) (am_mxl 70) (am_ret 70) ∈ tables_1_3 := List.mem_of_getElem? (i := 199) rfl
theorem am_cw71 : Cond.code (am_name 71) (am_bytes 71) (am_mxl 71) (am_ret 71) ∈ tables_1_3 := List.mem_of_getElem? (i := 203) rfl
theorem am_cw72 : Cond.code (am_name 72) (am_bytes 72) (am_mxl 72) (am_ret 72) ∈ tables_1_3 := List.mem_of_getElem? (i := 207) rfl
theorem am_cw74 : Cond.code (am_name 74) (am_bytes 74) (am_mxl 74) (am_ret 74) ∈ tables_1_3 := List.mem_of_getElem? (i := 214) rfl
theorem am_cw75 : Cond.code (am_name 75) (am_bytes 75) (am_mxl 75) (am_ret 75) ∈ tables_1_3 := List.mem_of_getElem? (i := 218) rfl
theorem am_cw76 : Cond.code (am_name 76) (am_bytes 76) (am_mxl 76) (am_ret 76) ∈ tables_1_3 := List.mem_of_getElem? (i := 222) rfl
theorem am_cw77 : Cond.code (am_name 77) (am_bytes 77) (am_mxl 77) (am_ret 77) ∈ tables_1_3 := List.mem_of_getElem? (i := 226) rfl
theorem am_cw78 : Cond.code (am_name 78) (am_bytes 78) (am_mxl 78) (am_ret 78) ∈ tables_1_3 := List.mem_of_getElem? (i := 229) rfl
theorem am_cw79 : Cond.code (am_name 79) (am_bytes 79) (am_mxl 79) (am_ret 79) ∈ tables_1_3 := List.mem_of_getElem? (i := 233) rfl
theorem am_cw80 : Cond.code (am_name 80) (am_bytes 80) (am_mxl 80) (am_ret 80) ∈ tables_1_3 := List.mem_of_getElem? (i := 237) rfl
theorem am_cw81 : Cond.code (am_name 81) (am_bytes 81) (am_mxl 81) (am_ret 81) ∈ tables_1_4 := List.mem_of_getElem? (i := 4) rfl
theorem am_cw82 : Cond.code (am_name 82) (am_bytes 82) (am_mxl 82) (am_ret 82) ∈ tables_1_4 := List.mem_of_getElem? (i := 8) rfl
theorem am_cw83 : Cond.code (am_name 83) (am_bytes 83) (am_mxl 83) (am_ret 83) ∈ tables_1_4 := List.mem_of_getElem? (i := 12) rfl
theorem am_cw84 : Cond.code (am_name 84) (am_bytes 84) (am_mxl 84) (am_ret 84) ∈ tables_1_4 := List.mem_of_getElem? (i := 16) rfl
theorem am_cw85 : Cond.code (am_name 85) (am_bytes 85) (am_mxl 85) (am_ret 85) ∈ tables_1_4 := List.mem_of_getElem? (i := 20) rfl
theorem am_cw86 : Cond.code (am_name 86) (am_bytes 86) (am_mxl 86) (am_ret 86) ∈ tables_1_4 := List.mem_of_getElem? (i := 24) rfl
theorem am_cw87 : Cond.code (am_name 87) (am_bytes 87) (am_mxl 87) (am_ret 87) ∈ tables_1_4 := List.mem_of_getElem? (i := 28) rfl
theorem am_cw88 : Cond.code (am_name 88) (am_bytes 88) (am_mxl 88) (am_ret 88) ∈ tables_1_4 := List.mem_of_getElem? (i := 32) rfl
theorem am_cw89 : Cond.code (am_name 89) (am_bytes 89) (am_mxl 89) (am_ret 89) ∈ tables_1_4 := List.mem_of_getElem? (i := 36) rfl
theorem am_cw90 : Cond.code (am_name 90) (am_bytes 90) (am_mxl 90) (am_ret 90) ∈ tables_1_4 := List.mem_of_getElem? (i := 40) rfl
theorem am_cw91 : Cond.code (am_name 91) (am_bytes 91) (am_mxl 91) (am_ret 91) ∈ tables_1_4 := List.mem_of_getElem? (i := 44) rfl
theorem am_cw92 : Cond.code (am_name 92) (am_bytes 92) (am_mxl 92) (am_ret 92) ∈ tables_1_4 := List.mem_of_getElem? (i := 48) rfl
theorem am_cw93 : Cond.code (am_name 93) (am_bytes 93) (am_mxl 93) (am_ret 93) ∈ tables_1_4 := List.mem_of_getElem? (i := 52) rfl
theorem am_cw94 : Cond.code (am_name 94) (am_bytes 94) (am_mxl 94) (am_ret 94) ∈ tables_1_4 := List.mem_of_getElem? (i := 56) rfl
theorem am_cw95 : Cond.code (am_name 95) (am_bytes 95) (am_mxl 95) (am_ret 95) ∈ tables_1_4 := List.mem_of_getElem? (i := 61) rfl
theorem am_cw96 : Cond.code (am_name 96) (am_bytes 96) (am_mxl 96) (am_ret 96) ∈ tables_1_4 := List.mem_of_getElem? (i := 65) rfl
theorem am_cw97 : Cond.code (am_name 97) (am_bytes 97) (am_mxl 97) (am_ret 97) ∈ tables_1_4 := List.mem_of_getElem? (i := 69) rfl
theorem am_cw98 : Cond.code (am_name 98) (am_bytes 98) (am_mxl 98) (am_ret 98) ∈ tables_1_4 := List.mem_of_getElem? (i := 73) rfl
theorem am_cw99 : Cond.code (am_name 99) (am_bytes 99) (am_mxl 99) (am_ret 99) ∈ tables_1_4 := List.mem_of_getElem? (i := 77) rfl
theorem am_cw100 : Cond.code (am_name 100) (am_bytes 100) (am_mxl 100) (am_ret 100) ∈ tables_1_4 := List.mem_of_getElem? (i := 81) rfl
theorem am_cw101 : Cond.code (am_name 101) (am_bytes 101) (am_mxl 101) (am_ret 101) ∈ tables_1_4 := List.mem_of_getElem? (i := 85) rfl
theorem am_cw102 : Cond.code (am_name 102) (am_bytes 102) (am_mxl 102) (am_ret 102) ∈ tables_1_4 := List.mem_of_getElem? (i := 89) rfl
theorem am_cw103 : Cond.code (am_name 103) (am_bytes 103) (am_mxl 103) (am_ret 103) ∈ tables_1_4 := List.mem_of_getElem? (i := 93) rfl
theorem am_cw104 : Cond.code (am_name 104) (am_bytes 104) (am_mxl 104) (am_ret 104) ∈ tables_1_4 := List.mem_of_getElem? (i := 97) rfl
theorem am_cw105 : Cond.code (am_name 105) (am_bytes 105) (am_mxl 105) (am_ret 105) ∈ tables_1_4 := List.mem_of_getElem? (i := 101) rfl
theorem am_cw106 : Cond.code (am_name 106) (am_bytes 106) (am_mxl 106) (am_ret 106) ∈ tables_1_4 := List.mem_of_getElem? (i := 105) rfl
theorem am_cw107 : Cond.code (am_name 107) (am_bytes 107) (am_mxl 107) (am_ret 107) ∈ tables_1_4 := List.mem_of_getElem? (i := 108) rfl
theorem am_cw108 : Cond.code (am_name 108) (am_bytes 108) (am_mxl 108) (am_ret 108) ∈ tables_1_4 := List.mem_of_getElem? (i := 114) rfl
theorem am_cw109 : Cond.code (am_name 109) (am_bytes 109) (am_mxl 109) (am_ret 109) ∈ tables_1_4 := List.mem_of_getElem? (i := 118) rfl
theorem am_cw110 : Cond.code (am_name 110) (am_bytes 110) (am_mxl 110) (am_ret 110) ∈ tables_1_4 := List.mem_of_getElem? (i := 122) rfl
theorem am_cw111 : Cond.code (am_name 111) (am_bytes 111) (am_mxl 111) (am_ret 111) ∈ tables_1_4 := List.mem_of_getElem? (i := 125) rfl
theorem am_cw112 : Cond.code (am_name 112) (am_bytes 112) (am_mxl 112) (am_ret 112) ∈ tables_1_4 := List.mem_of_getElem? (i := 133) rfl
theorem am_cw113 : Cond.code (am_name 113) (am_bytes 113) (am_mxl 113) (am_ret 113) ∈ tables_1_4 := List.mem_of_getElem? (i := 137) rfl
theorem am_cw114 : Cond.code (am_name 114) (am_bytes 114) (am_mxl 114) (am_ret 114) ∈ tables_1_4 := List.mem_of_getElem? (i := 141) rfl
theorem am_cw115 : Cond.code (am_name 115) (am_bytes 115) (am_mxl 115) (am_ret 115) ∈ tables_1_4 := List.mem_of_getElem? (i := 145) rfl
theorem am_cw116 : Cond.code (am_name 116) (am_bytes 116) (am_mxl 116) (am_ret 116) ∈ tables_1_4 := List.mem_of_getElem? (i := 149) rfl
theorem am_cw117 : Cond.code (am_name 117) (am_bytes 117) (am_mxl 117) (am_ret 117) ∈ tables_1_4 := List.mem_of_getElem? (i := 153) rfl
theorem am_cw118 : Cond.code (am_name 118) (am_bytes 118) (am_mxl 118) (am_ret 118) ∈ tables_1_4 := List.mem_of_getElem? (i := 158) rfl
theorem am_cw119 : Cond.code (am_name 119) (am_bytes 119) (am_mxl 119) (am_ret 119) ∈ tables_1_4 := List.mem_of_getElem? (i := 164) rfl
theorem am_cw120 : Cond.code (am_name 120) (am_bytes 120) (am_mxl 120) (am_ret 120) ∈ tables_1_4 := List.mem_of_getElem? (i := 168) rfl
theorem am_cw121 : Cond.code (am_name 121) (am_bytes 121) (am_mxl 121) (am_ret 121) ∈ tables_1_4 := List.mem_of_getElem? (i := 172) rfl
theorem am_cw122 : Cond.code (am_name 122) (am_bytes 122) (am_mxl 122) (am_ret 122) ∈ tables_1_4 := List.mem_of_getElem? (i := 176) rfl
theorem am_cw123 : Cond.code (am_name 123) (am_bytes 123) (am_mxl 123) (am_ret 123) ∈ tables_1_4 := List.mem_of_getElem? (i := 181) rfl
theorem am_cw124 : Cond.code (am_name 124) (am_bytes 124) (am_mxl 124) (am_ret 124) ∈ tables_1_4 := List.mem_of_getElem? (i := 186) rfl
theorem am_cw125 : Cond.code (am_name 125) (am_bytes 125) (am_mxl 125) (am_ret 125) ∈ tables_1_4 := List.mem_of_getElem? (i := 191) rfl
theorem am_cw126 : Cond.code (am_name 126) (am_bytes 126) (am_mxl 126) (am_ret 126) ∈ tables_1_4 := List.mem_of_getElem? (i := 195) rfl
theorem am_cw127 : Cond.code (am_name 127) (am_bytes 127) (am_mxl 127) (am_ret 127) ∈ tables_1_4 := List.mem_of_getElem? (i := 201) rfl
theorem am_cw128 : Cond.code (am_name 128) (am_bytes 128) (am_mxl 128) (am_ret 128) ∈ tables_1_4 := List.mem_of_getElem? (i := 206) rfl
theorem am_cw129 : Cond.code (am_name 129) (am_bytes 129) (am_mxl 129) (am_ret 129) ∈ tables_1_4 := List.mem_of_getElem? (i := 211) rfl
theorem am_cw130 : Cond.code (am_name 130) (am_bytes 130) (am_mxl 130) (am_ret 130) ∈ tables_1_4 := List.mem_of_getElem? (i := 215) rfl
theorem am_cw131 : Cond.code (am_name 131) (am_bytes 131) (am_mxl 131) (am_ret 131) ∈ tables_1_4 := List.mem_of_getElem? (i := 226) rfl
theorem am_cw132 : Cond.code (am_name 132) (am_bytes 132) (am_mxl 132) (am_ret 132) ∈ tables_1_4 := List.mem_of_getElem? (i := 230) rfl
theorem am_cw133 : Cond.code (am_name 133) (am_bytes 133) (am_mxl 133) (am_ret 133) ∈ tables_1_4 := List.mem_of_getElem? (i := 234) rfl
theorem am_cw134 : Cond.code (am_name 134) (am_bytes 134) (am_mxl 134) (am_ret 134) ∈ tables_1_4 := List.mem_of_getElem? (i := 238) rfl
theorem am_cw135 : Cond.code (am_name 135) (am_bytes 135) (am_mxl 135) (am_ret 135) ∈ tables_1_5 := List.mem_of_getElem? (i := 5) rfl
theorem am_cw136 : Cond.code (am_name 136) (am_bytes 136) (am_mxl 136) (am_ret 136) ∈ tables_1_5 := List.mem_of_getElem? (i := 9) rfl
theorem am_cw137 : Cond.code (am_name 137) (am_bytes 137) (am_mxl 137) (am_ret 137) ∈ tables_1_5 := List.mem_of_getElem? (i := 20) rfl
theorem am_cw138 : Cond.code (am_name 138) (am_bytes 138) (am_mxl 138) (am_ret 138) ∈ tables_1_5 := List.mem_of_getElem? (i := 24) rfl
theorem am_cw139 : Cond.code (am_name 139) (am_bytes 139) (am_mxl 139) (am_ret 139) ∈ tables_1_5 := List.mem_of_getElem? (i := 29) rfl
theorem am_cw140 : Cond.code (am_name 140) (am_bytes 140) (am_mxl 140) (am_ret 140) ∈ tables_1_5 := List.mem_of_getElem? (i := 36) rfl
theorem am_cw141 : Cond.code (am_name 141) (am_bytes 141) (am_mxl 141) (am_ret 141) ∈ tables_1_5 := List.mem_of_getElem? (i := 39) rfl
theorem am_cw142 : Cond.code (am_name 142) (am_bytes 142) (am_mxl 142) (am_ret 142) ∈ tables_1_5 := List.mem_of_getElem? (i := 43) rfl
theorem am_cw143 : Cond.code (am_name 143) (am_bytes 143) (am_mxl 143) (am_ret 143) ∈ tables_1_5 := List.mem_of_getElem? (i := 48) rfl
theorem am_cw144 : Cond.code (am_name 144) (am_bytes 144) (am_mxl 144) (am_ret 144) ∈ tables_1_5 := List.mem_of_getElem? (i := 52) rfl
theorem am_cw145 : Cond.code (am_name 145) (am_bytes 145) (am_mxl 145) (am_ret 145) ∈ tables_1_5 := List.mem_of_getElem? (i := 56) rfl
theorem am_cw146 : Cond.code (am_name 146) (am_bytes 146) (am_mxl 146) (am_ret 146) ∈ tables_1_5 := List.mem_of_getElem? (i := 60) rfl
theorem am_cw147 : Cond.code (am_name 147) (am_bytes 147) (am_mxl 147) (am_ret 147) ∈ tables_1_5 := List.mem_of_getElem? (i := 64) rfl
theorem am_cw148 : Cond.code (am_name 148) (am_bytes 148) (am_mxl 148) (am_ret 148) ∈ tables_1_5 := List.mem_of_getElem? (i := 69) rfl
theorem am_cw149 : Cond.code (am_name 149) (am_bytes 149) (am_mxl 149) (am_ret 149) ∈ tables_1_5 := List.mem_of_getElem? (i := 73) rfl
theorem am_cw150 : Cond.code (am_name 150) (am_bytes 150) (am_mxl 150) (am_ret 150) ∈ tables_1_5 := List.mem_of_getElem? (i := 77) rfl
theorem am_cw151 : Cond.code (am_name 151) (am_bytes 151) (am_mxl 151) (am_ret 151) ∈ tables_1_5 := List.mem_of_getElem? (i := 81) rfl
theorem am_cw152 : Cond.code (am_name 152) (am_bytes 152) (am_mxl 152) (am_ret 152) ∈ tables_1_5 := List.mem_of_getElem? (i := 86) rfl
theorem am_cw153 : Cond.code (am_name 153) (am_bytes 153) (am_mxl 153) (am_ret 153) ∈ tables_1_5 := List.mem_of_getElem? (i := 209) rfl
theorem am_cw154 : Cond.code (am_name 154) (am_bytes 154) (am_mxl 154) (am_ret 154) ∈ tables_1_5 := List.mem_of_getElem? (i := 213) rfl
theorem am_cw155 : Cond.code (am_name 155) (am_bytes 155) (am_mxl 155) (am_ret 155) ∈ tables_1_5 := List.mem_of_getElem? (i := 217) rfl
theorem am_cw156 : Cond.code (am_name 156) (am_bytes 156) (am_mxl 156) (am_ret 156) ∈ tables_1_5 := List.mem_of_getElem? (i := 221) rfl
theorem am_cw157 : Cond.code (am_name 157) (am_bytes 157) (am_mxl 157) (am_ret 157) ∈ tables_1_5 := List.mem_of_getElem? (i := 225) rfl
theorem am_cw158 : Cond.code (am_name 158) (am_bytes 158) (am_mxl 158) (am_ret 158) ∈ tables_1_5 := List.mem_of_getElem? (i := 229) rfl
theorem am_cw159 : Cond.code (am_name 159) (am_bytes 159) (am_mxl 159) (am_ret 159) ∈ tables_1_5 := List.mem_of_getElem? (i := 233) rfl
theorem am_cw160 : Cond.code (am_name 160) (am_bytes 160) (am_mxl 160) (am_ret 160) ∈ tables_1_6 := List.mem_of_getElem? (i := 0) rfl
theorem am_cw161 : Cond.code (am_name 161) (am_bytes 161) (am_mxl 161) (am_ret 161) ∈ tables_1_6 := List.mem_of_getElem? (i := 4) rfl
theorem am_cw162 : Cond.code (am_name 162) (am_bytes 162) (am_mxl 162) (am_ret 162) ∈ tables_1_6 := List.mem_of_getElem? (i := 8) rfl
theorem am_cw163 : Cond.code (am_name 163) (am_bytes 163) (am_mxl 163) (am_ret 163) ∈ tables_1_6 := List.mem_of_getElem? (i := 12) rfl
theorem am_cw164 : Cond.code (am_name 164) (am_bytes 164) (am_mxl 164) (am_ret 164) ∈ tables_1_6 := List.mem_of_getElem? (i := 16) rfl
theorem am_cw165 : Cond.code (am_name 165) (am_bytes 165) (am_mxl 165) (am_ret 165) ∈ tables_1_6 := List.mem_of_getElem? (i := 21) rfl
theorem am_cw166 : Cond.code (am_name 166) (am_bytes 166) (am_mxl 166) (am_ret 166) ∈ tables_1_6 := List.mem_of_getElem? (i := 25) rfl
theorem am_cw167 : Cond.code (am_name 167) (am_bytes 167) (am_mxl 167) (am_ret 167) ∈ tables_1_6 := List.mem_of_getElem? (i := 29) rfl
theorem am_cw168 : Cond.code (am_name 168) (am_bytes 168) (am_mxl 168) (am_ret 168) ∈ tables_1_6 := List.mem_of_getElem? (i := 33) rfl
theorem am_cw169 : Cond.code (am_name 169) (am_bytes 169) (am_mxl 169) (am_ret 169) ∈ tables_1_6 := List.mem_of_getElem? (i := 37) rfl
theorem am_cw170 : Cond.code (am_name 170) (am_bytes 170) (am_mxl 170) (am_ret 170) ∈ tables_1_6 := List.mem_of_getElem? (i := 41) rfl
theorem am_cw171 : Cond.code (am_name 171) (am_bytes 171) (am_mxl 171) (am_ret 171) ∈ tables_1_6 := List.mem_of_getElem? (i := 46) rfl
theorem am_cw172 : Cond.code (am_name 172) (am_bytes 172) (am_mxl 172) (am_ret 172) ∈ tables_1_6 := List.mem_of_getElem? (i := 50) rfl
theorem am_cw173 : Cond.code (am_name 173) (am_bytes 173) (am_mxl 173) (am_ret 173) ∈ tables_1_6 := List.mem_of_getElem? (i := 54) rfl
theorem am_cw174 : Cond.code (am_name 174) (am_bytes 174) (am_mxl 174) (am_ret 174) ∈ tables_1_6 := List.mem_of_getElem? (i := 58) rfl
theorem am_cw175 : Cond.code (am_name 175) (am_bytes 175) (am_mxl 175) (am_ret 175) ∈ tables_1_6 := List.mem_of_getElem? (i := 62) rfl
theorem am_cw176 : Cond.code (am_name 176) (am_bytes 176) (am_mxl 176) (am_ret 176) ∈ tables_1_6 := List.mem_of_getElem? (i := 66) rfl
theorem am_cw177 : Cond.code (am_name 177) (am_bytes 177) (am_mxl 177) (am_ret 177) ∈ tables_1_6 := List.mem_of_getElem? (i := 70) rfl
theorem am_cw178 : Cond.code (am_name 178) (am_bytes 178) (am_mxl 178) (am_ret 178) ∈ tables_1_6 := List.mem_of_getElem? (i := 74) rfl
theorem am_cw179 : Cond.code (am_name 179) (am_bytes 179) (am_mxl 179) (am_ret 179) ∈ tables_1_6 := List.mem_of_getElem? (i := 78) rfl
theorem am_cw180 : Cond.code (am_name 180) (am_bytes 180) (am_mxl 180) (am_ret 180) ∈ tables_1_6 := List.mem_of_getElem? (i := 82) rfl
theorem am_cw181 : Cond.code (am_name 181) (am_bytes 181) (am_mxl 181) (am_ret 181) ∈ tables_1_6 := List.mem_of_getElem? (i := 86) rfl
theorem am_cw182 : Cond.code (am_name 182) (am_bytes 182) (am_mxl 182) (am_ret 182) ∈ tables_1_6 := List.mem_of_getElem? (i := 90) rfl
theorem am_cw183 : Cond.code (am_name 183) (am_bytes 183) (am_mxl 183) (am_ret 183) ∈ tables_1_6 := List.mem_of_getElem? (i := 94) rfl
theorem am_cw184 : Cond.code (am_name 184) (am_bytes 184) (am_mxl 184) (am_ret 184) ∈ tables_1_6 := List.mem_of_getElem? (i := 98) rfl
theorem am_cw185 : Cond.code (am_name 185) (am_bytes 185) (am_mxl 185) (am_ret 185) ∈ tables_1_6 := List.mem_of_getElem? (i := 102) rfl
theorem am_cw186 : Cond.code (am_name 186) (am_bytes 186) (am_mxl 186) (am_ret 186) ∈ tables_1_6 := List.mem_of_getElem? (i := 106) rfl
theorem am_cw187 : Cond.code (am_name 187) (am_bytes 187) (am_mxl 187) (am_ret 187) ∈ tables_1_6 := List.mem_of_getElem? (i := 110) rfl
theorem am_cw188 : Cond.code (am_name 188) (am_bytes 188) (am_mxl 188) (am_ret 188) ∈ tables_1_6 := List.mem_of_getElem? (i := 114) rfl
theorem am_cw189 : Cond.code (am_name 189) (am_bytes 189) (am_mxl 189) (am_ret 189) ∈ tables_1_6 := List.mem_of_getElem? (i := 118) rfl
theorem am_cw190 : Cond.code (am_name 190) (am_bytes 190) (am_mxl 190) (am_ret 190) ∈ tables_1_6 := List.mem_of_getElem? (i := 122) rfl
theorem am_cw191 : Cond.code (am_name 191) (am_bytes 191) (am_mxl 191) (am_ret 191) ∈ tables_1_6 := List.mem_of_getElem? (i := 126) rfl
theorem am_cw192 : Cond.code (am_name 192) (am_bytes 192) (am_mxl 192) (am_ret 192) ∈ tables_1_6 := List.mem_of_getElem? (i := 130) rfl
theorem am_cw193 : Cond.code (am_name 193) (am_bytes 193) (am_mxl 193) (am_ret 193) ∈ tables_1_6 := List.mem_of_getElem? (i := 135) rfl
theorem am_cw194 : Cond.code (am_name 194) (am_bytes 194) (am_mxl 194) (am_ret 194) ∈ tables_1_6 := List.mem_of_getElem? (i := 139) rfl
theorem am_cw195 : Cond.code (am_name 195) (am_bytes 195) (am_mxl 195) (am_ret 195) ∈ tables_1_6 := List.mem_of_getElem? (i := 142) rfl
theorem am_cw196 : Cond.code (am_name 196) (am_bytes 196) (am_mxl 196) (am_ret 196) ∈ tables_1_6 := List.mem_of_getElem? (i := 147) rfl
theorem am_cw197 : Cond.code (am_name 197) (am_bytes 197) (am_mxl 197) (am_ret 197) ∈ tables_1_6 := List.mem_of_getElem? (i := 151) rfl
theorem am_cw198 : Cond.code (am_name 198) (am_bytes 198) (am_mxl 198) (am_ret 198) ∈ tables_1_6 := List.mem_of_getElem? (i := 155) rfl
theorem am_cw199 : Cond.code (am_name 199) (am_bytes 199) (am_mxl 199) (am_ret 199) ∈ tables_1_6 := List.mem_of_getElem? (i := 159) rfl
theorem am_cw200 : Cond.code (am_name 200) (am_bytes 200) (am_mxl 200) (am_ret 200) ∈ tables_1_6 := List.mem_of_getElem? (i := 163) rfl
theorem am_cw201 : Cond.code (am_name 201) (am_bytes 201) (am_mxl 201) (am_ret 201) ∈ tables_1_6 := List.mem_of_getElem? (i := 167) rfl
theorem am_cw202 : Cond.code (am_name 202) (am_bytes 202) (am_mxl 202) (am_ret 202) ∈ tables_1_6 := List.mem_of_getElem? (i := 171) rfl
theorem am_cw203 : Cond.code (am_name 203) (am_bytes 203) (am_mxl 203) (am_ret 203) ∈ tables_1_6 := List.mem_of_getElem? (i := 175) rfl
theorem am_cw204 : Cond.code (am_name 204) (am_bytes 204) (am_mxl 204) (am_ret 204) ∈ tables_1_6 := List.mem_of_getElem? (i := 179) rfl
theorem am_cw205 : Cond.code (am_name 205) (am_bytes 205) (am_mxl 205) (am_ret 205) ∈ tables_1_6 := List.mem_of_getElem? (i := 183) rfl
theorem am_cw206 : Cond.code (am_name 206) (am_bytes 206) (am_mxl 206) (am_ret 206) ∈ tables_1_6 := List.mem_of_getElem? (i := 187) rfl
theorem am_cw207 : Cond.code (am_name 207) (am_bytes 207) (am_mxl 207) (am_ret 207) ∈ tables_1_6 := List.mem_of_getElem? (i := 192) rfl
def am_mks0 : List Nat := [0, 1, 2, 3, 4, 5, 7, 8, 9, 10, 11, 12, 13, 14, 15, 16, 17, 18, 19, 20, 21, 22, 23, 24, 25, 26, 27, 29, 30, 31]
theorem am_mks0_ok : ∀ k ∈ am_mks0, Cond.code (am_name k) (am_bytes k) (am_mxl k) (am_ret k) ∈ lw_tbl := List.forall_mem_cons.mpr ⟨am_tb1 am_cw0, List.forall_mem_cons.mpr ⟨am_tb1 am_cw1, List.forall_mem_cons.mpr ⟨am_tb1 am_cw2, List.forall_mem_cons.mpr ⟨am_tb1 am_cw3, List.forall_mem_cons.mpr ⟨am_tb1 am_cw4, List.forall_mem_cons.mpr ⟨am_tb1 am_cw5, List.forall_mem_cons.mpr ⟨am_tb1 am_cw7, List.forall_mem_cons.mpr ⟨am_tb1 am_cw8, List.forall_mem_cons.mpr ⟨am_tb1 am_cw9, List.forall_mem_cons.mpr ⟨am_tb1 am_cw10, List.forall_mem_cons.mpr ⟨am_tb2 am_cw11, List.forall_mem_cons.mpr ⟨am_tb2 am_cw12, List.forall_mem_cons.mpr ⟨am_tb2 am_cw13, List.forall_mem_cons.mpr ⟨am_tb2 am_cw14, List.forall_mem_cons.mpr ⟨am_tb2 am_cw15, List.forall_mem_cons.mpr ⟨am_tb2 am_cw16, List.forall_mem_cons.mpr ⟨am_tb2 am_cw17, List.forall_mem_cons.mpr ⟨am_tb2 am_cw18, List.forall_mem_cons.mpr ⟨am_tb2 am_cw19, List.forall_mem_cons.mpr ⟨am_tb2 am_cw20, List.forall_mem_cons.mpr ⟨am_tb2 am_cw21, List.forall_mem_cons.mpr ⟨am_tb2 am_cw22, List.forall_mem_cons.mpr ⟨am_tb3 am_cw23, List.forall_mem_cons.mpr ⟨am_tb3 am_cw24, List.forall_mem_cons.mpr ⟨am_tb3 am_cw25, List.forall_mem_cons.mpr ⟨am_tb3 am_cw26, List.forall_mem_cons.mpr ⟨am_tb3 am_cw27, List.forall_mem_cons.mpr ⟨am_tb3 am_cw29, List.forall_mem_cons.mpr ⟨am_tb3 am_cw30, List.forall_mem_cons.mpr ⟨am_tb3 am_cw31, fun _ h => absurd h List.not_mem_nil⟩⟩⟩⟩⟩⟩⟩⟩⟩⟩⟩⟩⟩⟩⟩⟩⟩⟩⟩⟩⟩⟩⟩⟩⟩⟩⟩⟩⟩⟩
def am_mks1 : List Nat := [32, 33, 34, 35, 36, 37, 38, 39, 40, 41, 42, 43, 44, 45, 46, 47, 48, 49, 50, 51, 52, 53, 54, 55, 56, 57, 58, 59, 60, 61]
theorem am_mks1_ok : ∀ k ∈ am_mks1, Cond.code (am_name k) (am_bytes k) (am_mxl k) (am_ret k) ∈ lw_tbl := List.forall_mem_cons.mpr ⟨am_tb3 am_cw32, List.forall_mem_cons.mpr ⟨am_tb3 am_cw33, List.forall_mem_cons.mpr ⟨am_tb3 am_cw34, List.forall_mem_cons.mpr ⟨am_tb3 am_cw35, List.forall_mem_cons.mpr ⟨am_tb3 am_cw36, List.forall_mem_cons.mpr ⟨am_tb3 am_cw37, List.forall_mem_cons.mpr ⟨am_tb3 am_cw38, List.forall_mem_cons.mpr ⟨am_tb3 am_cw39, List.forall_mem_cons.mpr ⟨am_tb3 am_cw40, List.forall_mem_cons.mpr ⟨am_tb3 am_cw41, List.forall_mem_cons.mpr ⟨am_tb3 am_cw42, List.forall_mem_cons.mpr ⟨am_tb3 am_cw43, List.forall_mem_cons.mpr ⟨am_tb3 am_cw44, List.forall_mem_cons.mpr ⟨am_tb3 am_cw45, List.forall_mem_cons.mpr ⟨am_tb3 am_cw46, List.forall_mem_cons.mpr ⟨am_tb3 am_cw47, List.forall_mem_cons.mpr ⟨am_tb3 am_cw48, List.forall_mem_cons.mpr ⟨am_tb3 am_cw49, List.forall_mem_cons.mpr ⟨am_tb3 am_cw50, List.forall_mem_cons.mpr ⟨am_tb3 am_cw51, List.forall_mem_cons.mpr ⟨am_tb3 am_cw52, List.forall_mem_cons.mpr ⟨am_tb3 am_cw53, List.forall_mem_cons.mpr ⟨am_tb3 am_cw54, List.forall_mem_cons.mpr ⟨am_tb3 am_cw55, List.forall_mem_cons.mpr ⟨am_tb3 am_cw56, List.forall_mem_cons.mpr ⟨am_tb3 am_cw57, List.forall_mem_cons.mpr ⟨am_tb3 am_cw58, List.forall_mem_cons.mpr ⟨am_tb3 am_cw59, List.forall_mem_cons.mpr ⟨am_tb3 am_cw60, List.forall_mem_cons.mpr ⟨am_tb3 am_cw61, fun _ h => absurd h List.not_mem_nil⟩⟩⟩⟩⟩⟩⟩⟩⟩⟩⟩⟩⟩⟩⟩⟩⟩⟩⟩⟩⟩⟩⟩⟩⟩⟩⟩⟩⟩⟩
def am_mks2 : List Nat := [62, 63, 64, 65, 66, 67, 68, 69, 70, 71, 72, 74, 75, 76, 77, 78, 79, 80, 81, 82, 83, 84, 85, 86, 87, 88, 89, 90, 91, 92]
theorem am_mks2_ok : ∀ k ∈ am_mks2, Cond.code (am_name k) (am_bytes k) (am_mxl k) (am_ret k) ∈ lw_tbl := List.forall_mem_cons.mpr ⟨am_tb3 am_cw62, List.forall_mem_cons.mpr ⟨am_tb3 am_cw63, List.forall_mem_cons.mpr ⟨am_tb3 am_cw64, List.forall_mem_cons.mpr ⟨am_tb3 am_cw65, List.forall_mem_cons.mpr ⟨am_tb3 am_cw66, List.forall_mem_cons.mpr ⟨am_tb3 am_cw67, List.forall_mem_cons.mpr ⟨am_tb3 am_cw68, List.forall_mem_cons.mpr ⟨am_tb3 am_cw69, List.forall_mem_cons.mpr ⟨am_tb3 am_cw70, List.forall_mem_cons.mpr ⟨am_tb3 am_cw71, List.forall_mem_cons.mpr ⟨am_tb3 am_cw72, List.forall_mem_cons.mpr ⟨am_tb3 am_cw74, List.forall_mem_cons.mpr ⟨am_tb3 am_cw75, List.forall_mem_cons.mpr ⟨am_tb3 am_cw76, List.forall_mem_cons.mpr ⟨am_tb3 am_cw77, List.forall_mem_cons.mpr ⟨am_tb3 am_cw78, List.forall_mem_cons.mpr ⟨am_tb3 am_cw79, List.forall_mem_cons.mpr ⟨am_tb3 am_cw80, List.forall_mem_cons.mpr ⟨am_tb4 am_cw81, List.forall_mem_cons.mpr ⟨am_tb4 am_cw82, List.forall_mem_cons.mpr ⟨am_tb4 am_cw83, List.forall_mem_cons.mpr ⟨am_tb4 am_cw84, List.forall_mem_cons.mpr ⟨am_tb4 am_cw85, List.forall_mem_cons.mpr ⟨am_tb4 am_cw86, List.forall_mem_cons.mpr ⟨am_tb4 am_cw87, List.forall_mem_cons.mpr ⟨am_tb4 am_cw88, List.forall_mem_cons.mpr ⟨am_tb4 am_cw89, List.forall_mem_cons.mpr ⟨am_tb4 am_cw90, List.forall_mem_cons.mpr ⟨am_tb4 am_cw91, List.forall_mem_cons.mpr ⟨am_tb4 am_cw92, fun _ h => absurd h List.not_mem_nil⟩⟩⟩⟩⟩⟩⟩⟩⟩⟩⟩⟩⟩⟩⟩⟩⟩⟩⟩⟩⟩⟩⟩⟩⟩⟩⟩⟩⟩⟩
def am_mks3 : List Nat := [93, 94, 95, 96, 97, 98, 99, 100, 101, 102, 103, 104, 105, 106, 107, 108, 109, 110, 111, 112, 113, 114, 115, 116, 117, 118, 119, 120, 121, 122]
theorem am_mks3_ok : ∀ k ∈ am_mks3, Cond.code (am_name k) (am_bytes k) (am_mxl k) (am_ret k) ∈ lw_tbl := List.forall_mem_cons.mpr ⟨am_tb4 am_cw93, List.forall_mem_cons.mpr ⟨am_tb4 am_cw94, List.forall_mem_cons.mpr ⟨am_tb4 am_cw95, List.forall_mem_cons.mpr ⟨am_tb4 am_cw96, List.forall_mem_cons.mpr ⟨am_tb4 am_cw97, List.forall_mem_cons.mpr ⟨am_tb4 am_cw98, List.forall_mem_cons.mpr ⟨am_tb4 am_cw99, List.forall_mem_cons.mpr ⟨am_tb4 am_cw100, List.forall_mem_cons.mpr ⟨am_tb4 am_cw101, List.forall_mem_cons.mpr ⟨am_tb4 am_cw102, List.forall_mem_cons.mpr ⟨am_tb4 am_cw103, List.forall_mem_cons.mpr ⟨am_tb4 am_cw104, List.forall_mem_cons.mpr ⟨am_tb4 am_cw105, List.forall_mem_cons.mpr ⟨am_tb4 am_cw106, List.forall_mem_cons.mpr ⟨am_tb4 am_cw107, List.forall_mem_cons.mpr ⟨am_tb4 am_cw108, List.forall_mem_cons.mpr ⟨am_tb4 am_cw109, List.forall_mem_cons.mpr ⟨am_tb4 am_cw110, List.forall_mem_cons.mpr ⟨am_tb4 am_cw111, List.forall_mem_cons.mpr ⟨am_tb4 am_cw112, List.forall_mem_cons.mpr ⟨am_tb4 am_cw113, List.forall_mem_cons.mpr ⟨am_tb4 am_cw114, List.forall_mem_cons.mpr ⟨am_tb4 am_cw115, List.forall_mem_cons.mpr ⟨am_tb4 am_cw116, List.forall_mem_cons.mpr ⟨am_tb4 am_cw117, List.forall_mem_cons.mpr ⟨am_tb4 am_cw118, List.forall_mem_cons.mpr ⟨am_tb4 am_cw119, List.forall_mem_cons.mpr ⟨am_tb4 am_cw120, List.forall_mem_cons.mpr ⟨am_tb4 am_cw121, List.forall_mem_cons.mpr ⟨am_tb4 am_cw122, fun _ h => absurd h List.not_mem_nil⟩⟩⟩⟩⟩⟩⟩⟩⟩⟩⟩⟩⟩⟩⟩⟩⟩⟩⟩⟩⟩⟩⟩⟩⟩⟩⟩⟩⟩⟩
def am_mks4 : List Nat := [123, 124, 125, 126, 127, 128, 129, 130, 131, 132, 133, 134, 135, 136, 137, 138, 139, 140, 141, 142, 143, 144, 145, 146, 147, 148, 149, 150, 151, 152]
theorem am_mks4_ok : ∀ k ∈ am_mks4, Cond.code (am_name k) (am_bytes k) (am_mxl k) (am_ret k) ∈ lw_tbl := List.forall_mem_cons.mpr ⟨am_tb4 am_cw123, List.forall_mem_cons.mpr ⟨am_tb4 am_cw124, List.forall_mem_cons.mpr ⟨am_tb4 am_cw125, List.forall_mem_cons.mpr ⟨am_tb4 am_cw126, List.forall_mem_cons.mpr ⟨am_tb4 am_cw127, List.forall_mem_cons.mpr ⟨am_tb4 am_cw128, List.forall_mem_cons.mpr ⟨am_tb4 am_cw129, List.forall_mem_cons.mpr ⟨am_tb4 am_cw130, List.forall_mem_cons.mpr ⟨am_tb4 am_cw131, List.forall_mem_cons.mpr ⟨am_tb4 am_cw132, List.forall_mem_cons.mpr ⟨am_tb4 am_cw133, List.forall_mem_cons.mpr ⟨am_tb4 am_cw134, List.forall_mem_cons.mpr ⟨am_tb5 am_cw135, List.forall_mem_cons.mpr ⟨am_tb5 am_cw136, List.forall_mem_cons.mpr ⟨am_tb5 am_cw137, List.forall_mem_cons.mpr ⟨am_tb5 am_cw138, List.forall_mem_cons.mpr ⟨am_tb5 am_cw139, List.forall_mem_cons.mpr ⟨am_tb5 am_cw140, List.forall_mem_cons.mpr ⟨am_tb5 am_cw141, List.forall_mem_cons.mpr ⟨am_tb5 am_cw142, List.forall_mem_cons.mpr ⟨am_tb5 am_cw143, List.forall_mem_cons.mpr ⟨am_tb5 am_cw144, List.forall_mem_cons.mpr ⟨am_tb5 am_cw145, List.forall_mem_cons.mpr ⟨am_tb5 am_cw146, List.forall_mem_cons.mpr ⟨am_tb5 am_cw147, List.forall_mem_cons.mpr ⟨am_tb5 am_cw148, List.forall_mem_cons.mpr ⟨am_tb5 am_cw149, List.forall_mem_cons.mpr ⟨am_tb5 am_cw150, List.forall_mem_cons.mpr ⟨am_tb5 am_cw151, List.forall_mem_cons.mpr ⟨am_tb5 am_cw152, fun _ h => absurd h List.not_mem_nil⟩⟩⟩⟩⟩⟩⟩⟩⟩⟩⟩⟩⟩⟩⟩⟩⟩⟩⟩⟩⟩⟩⟩⟩⟩⟩⟩⟩⟩⟩
def am_mks5 : List Nat := [153, 154, 155, 156, 157, 158, 159, 160, 161, 162, 163, 164, 165, 166, 167, 168, 169, 170, 171, 172, 173, 174, 175, 176, 177, 178, 179, 180, 181, 182]
theorem am_mks5_ok : ∀ k ∈ am_mks5, Cond.code (am_name k) (am_bytes k) (am_mxl k) (am_ret k) ∈ lw_tbl := List.forall_mem_cons.mpr ⟨am_tb5 am_cw153, List.forall_mem_cons.mpr ⟨am_tb5 am_cw154, List.forall_mem_cons.mpr ⟨am_tb5 am_cw155, List.forall_mem_cons.mpr ⟨am_tb5 am_cw156, List.forall_mem_cons.mpr ⟨am_tb5 am_cw157, List.forall_mem_cons.mpr ⟨am_tb5 am_cw158, List.forall_mem_cons.mpr ⟨am_tb5 am_cw159, List.forall_mem_cons.mpr ⟨am_tb6 am_cw160, List.forall_mem_cons.mpr ⟨am_tb6 am_cw161, List.forall_mem_cons.mpr ⟨am_tb6 am_cw162, List.forall_mem_cons.mpr ⟨am_tb6 am_cw163, List.forall_mem_cons.mpr ⟨am_tb6 am_cw164, List.forall_mem_cons.mpr ⟨am_tb6 am_cw165, List.forall_mem_cons.mpr ⟨am_tb6 am_cw166, List.forall_mem_cons.mpr ⟨am_tb6 am_cw167, List.forall_mem_cons.mpr ⟨am_tb6 am_cw168, List.forall_mem_cons.mpr ⟨am_tb6 am_cw169, List.forall_mem_cons.mpr ⟨am_tb6 am_cw170, List.forall_mem_cons.mpr ⟨am_tb6 am_cw171, List.forall_mem_cons.mpr ⟨am_tb6 am_cw172, List.forall_mem_cons.mpr ⟨am_tb6 am_cw173, List.forall_mem_cons.mpr ⟨am_tb6 am_cw174, List.forall_mem_cons.mpr ⟨am_tb6 am_cw175, List.forall_mem_cons.mpr ⟨am_tb6 am_cw176, List.forall_mem_cons.mpr ⟨am_tb6 am_cw177, List.forall_mem_cons.mpr ⟨am_tb6 am_cw178, List.forall_mem_cons.mpr ⟨am_tb6 am_cw179, List.forall_mem_cons.mpr ⟨am_tb6 am_cw180, List.forall_mem_cons.mpr ⟨am_tb6 am_cw181, List.forall_mem_cons.mpr ⟨am_tb6 am_cw182, fun _ h => absurd h List.not_mem_nil⟩⟩⟩⟩⟩⟩⟩⟩⟩⟩⟩⟩⟩⟩⟩⟩⟩⟩⟩⟩⟩⟩⟩⟩⟩⟩⟩⟩⟩⟩
def am_mks6 : List Nat := [183, 184, 185, 186, 187, 188, 189, 190, 191, 192, 193, 194, 195, 196, 197, 198, 199, 200, 201, 202, 203, 204, 205, 206, 207]
theorem am_mks6_ok : ∀ k ∈ am_mks6, Cond.code (am_name k) (am_bytes k) (am_mxl k) (am_ret k) ∈ lw_tbl := List.forall_mem_cons.mpr ⟨am_tb6 am_cw183, List.forall_mem_cons.mpr ⟨am_tb6 am_cw184, List.forall_mem_cons.mpr ⟨am_tb6 am_cw185, List.forall_mem_cons.mpr ⟨am_tb6 am_cw186, List.forall_mem_cons.mpr ⟨am_tb6 am_cw187, List.forall_mem_cons.mpr ⟨am_tb6 am_cw188, List.forall_mem_cons.mpr ⟨am_tb6 am_cw189, List.forall_mem_cons.mpr ⟨am_tb6 am_cw190, List.forall_mem_cons.mpr ⟨am_tb6 am_cw191, List.forall_mem_cons.mpr ⟨am_tb6 am_cw192, List.forall_mem_cons.mpr ⟨am_tb6 am_cw193, List.forall_mem_cons.mpr ⟨am_tb6 am_cw194, List.forall_mem_cons.mpr ⟨am_tb6 am_cw195, List.forall_mem_cons.mpr ⟨am_tb6 am_cw196, List.forall_mem_cons.mpr ⟨am_tb6 am_cw197, List.forall_mem_cons.mpr ⟨am_tb6 am_cw198, List.forall_mem_cons.mpr ⟨am_tb6 am_cw199, List.forall_mem_cons.mpr ⟨am_tb6 am_cw200, List.forall_mem_cons.mpr ⟨am_tb6 am_cw201, List.forall_mem_cons.mpr ⟨am_tb6 am_cw202, List.forall_mem_cons.mpr ⟨am_tb6 am_cw203, List.forall_mem_cons.mpr ⟨am_tb6 am_cw204, List.forall_mem_cons.mpr ⟨am_tb6 am_cw205, List.forall_mem_cons.mpr ⟨am_tb6 am_cw206, List.forall_mem_cons.mpr ⟨am_tb6 am_cw207, fun _ h => absurd h List.not_mem_nil⟩⟩⟩⟩⟩⟩⟩⟩⟩⟩⟩⟩⟩⟩⟩⟩⟩⟩⟩⟩⟩⟩⟩⟩⟩
theorem am_mks_eq : am_mks = am_mks0 ++ (am_mks1 ++ (am_mks2 ++ (am_mks3 ++ (am_mks4 ++ (am_mks5 ++ (am_mks6)))))) := by decide +kernel
theorem am_mks_code : ∀ k ∈ am_mks, Cond.code (am_name k) (am_bytes k) (am_mxl k) (am_ret k) ∈ lw_tbl := by
  intro k h
  rw [am_mks_eq] at h
  exact (List.mem_append.mp h).elim (am_mks0_ok k) (fun h => (List.mem_append.mp h).elim (am_mks1_ok k) (fun h => (List.mem_append.mp h).elim (am_mks2_ok k) (fun h => (List.mem_append.mp h).elim (am_mks3_ok k) (fun h => (List.mem_append.mp h).elim (am_mks4_ok k) (fun h => (List.mem_append.mp h).elim (am_mks5_ok k) (fun h => am_mks6_ok k h))))))
theorem am_code_good (y : MethodName) (bs : ByteArray) (n : Nat) (r : Option FieldType) : goodWord (.code y bs n r) = true := rfl
theorem am_mk {k : Nat} (h : k ∈ am_mks) : am_mok k := by
  have h1 := List.all_eq_true.mp am_mk1 k h
  simp only [Bool.and_eq_true] at h1
  obtain ⟨⟨⟨⟨⟨g1, g2⟩, g3⟩, g4⟩, g5⟩, g6⟩ := h1
  refine ⟨am_at_in g1, List.mem_filter.mpr ⟨am_mks_code k h, am_code_good _ _ _ _⟩, of_decide_eq_true g2, of_decide_eq_true g3, g4, of_decide_eq_true g5, fun hi => ?_⟩
  rw [hi] at g6
  simpa using g6
def am_mck (q : (Nat × Nat) × (Nat × Nat × Nat × Nat × Nat × Nat)) : Bool := match q with
  | ((o, j), (kd, k, np, p1, p2, p3)) => match kd with
    | 3 => am_at p1 (.methodLink (am_cn o) j Lib.objectInit)
    | 4 => match k with
      | 0 => am_at p1 (.methodLink (am_cn o) j Lib.Math.max.name) && am_at p2 (.static Lib.Math.max.name)
      | 1 => am_at p1 (.methodLink (am_cn o) j Lib.Math.min.name) && am_at p2 (.static Lib.Math.min.name)
      | 5 => am_at p1 (.methodLink (am_cn o) j Lib.MathLoose.abs_long.x) && am_at p2 (.static Lib.MathLoose.abs_long.x)
      | _ => false
    | 0 => decide (k ∈ am_mks) && decide ((parseMethodDescriptor (am_name k).desc).map (fun d => d.parameters.length) = some np) && (am_at p1 (.methodLink (am_cn o) j (am_name k)) || decide ((am_cn o, j, am_name k, "SectionTemplates") ∈ am_NM)) && am_at p2 (.static (am_name k))
    | 1 => decide (k ∈ am_mks) && decide ((parseMethodDescriptor (am_name k).desc).map (fun d => d.parameters.length) = some np) && (am_at p1 (.methodLink (am_cn o) j (am_name k)) || decide ((am_cn o, j, am_name k, "SectionTemplates") ∈ am_NM)) && am_at p2 (.instanceMethod (am_name k)) && (match vwCl[am_rcv k]? with
      | some (C, _, _) => am_at p3 (.selects C (am_name k) (am_name k))
      | none => false)
    | 2 => decide (k ∈ am_mks) && decide ((parseMethodDescriptor (am_name k).desc).map (fun d => d.parameters.length) = some np) && (am_at p1 (.methodLink (am_cn o) j (am_name k)) || decide ((am_cn o, j, am_name k, "SectionTemplates") ∈ am_NM)) && am_at p2 (.instanceMethod (am_name k)) && decide ((am_name k).name = "<init>") && decide (am_ret k = none)
    | _ => false
end
section
/-! EACH CALL IS THE STATEMENT'S -/
theorem am_mck0 : am_met_0.all am_mck = true := by decide +kernel
theorem am_mck1 : am_met_1.all am_mck = true := by decide +kernel
theorem am_mck2 : am_met_2.all am_mck = true := by decide +kernel
theorem am_mck3 : am_met_3.all am_mck = true := by decide +kernel
theorem am_mck4 : am_met_4.all am_mck = true := by decide +kernel
theorem am_mck5 : am_met_5.all am_mck = true := by decide +kernel
theorem am_mck6 : am_met_6.all am_mck = true := by decide +kernel
theorem am_mck7 : am_met_7.all am_mck = true := by decide +kernel
theorem am_mck8 : am_met_8.all am_mck = true := by decide +kernel
theorem am_mck9 : am_met_9.all am_mck = true := by decide +kernel
theorem am_mck10 : am_met_10.all am_mck = true := by decide +kernel
theorem am_mck_ok : am_metL.all am_mck = true := by
  unfold am_metL
  simp only [List.all_append, am_mck0, am_mck1, am_mck2, am_mck3, am_mck4, am_mck5, am_mck6, am_mck7, am_mck8, am_mck9, am_mck10, Bool.and_self]
theorem am_mmax_c : Cond.code Lib.Math.max.name Lib.Math.max.code 2 (some .int) ∈ am_WT := List.mem_filter.mpr ⟨am_tb1 (List.mem_of_getElem? (i := 120) rfl), rfl⟩
theorem am_mmin_c : Cond.code Lib.Math.min.name Lib.Math.min.code 2 (some .int) ∈ am_WT := List.mem_filter.mpr ⟨am_tb3 (List.mem_of_getElem? (i := 22) rfl), rfl⟩
theorem am_mabs_c : Cond.code Lib.MathLoose.abs_long.x Lib.MathLoose.abs_long.code 2 (some .long) ∈ am_WT := List.mem_filter.mpr ⟨am_tb3 (List.mem_of_getElem? (i := 210) rfl), rfl⟩
theorem am_math_i : Cond.initialized "java/lang/Math" ∈ am_WT := am_at_in (p := 85) (by decide +kernel)
theorem am_met_ok3 {o j a b : Nat} (h : am_met o j = some (3, a, b)) : Cond.methodLink (am_cn o) j Lib.objectInit ∈ am_WT := by
  obtain ⟨⟨kd, k, np, p1, p2, p3⟩, h1, h2⟩ := am_map_inv h
  have e1 : kd = 3 := congrArg Prod.fst h2
  subst e1
  exact am_at_in (List.all_eq_true.mp am_mck_ok _ (am_fnd_mem h1))
theorem am_met_max {o j b : Nat} (h : am_met o j = some (4, 0, b)) : Cond.methodLink (am_cn o) j Lib.Math.max.name ∈ am_WT ∧ Cond.static Lib.Math.max.name ∈ am_WT := by
  obtain ⟨⟨kd, k, np, p1, p2, p3⟩, h1, h2⟩ := am_map_inv h
  have e1 : kd = 4 := congrArg Prod.fst h2
  have e2 : k = 0 := congrArg (fun q => q.2.1) h2
  subst e1 e2
  have h3 := List.all_eq_true.mp am_mck_ok _ (am_fnd_mem h1)
  have h4 : (am_at p1 (.methodLink (am_cn o) j Lib.Math.max.name) && am_at p2 (.static Lib.Math.max.name)) = true := h3
  rw [Bool.and_eq_true] at h4
  exact ⟨am_at_in h4.1, am_at_in h4.2⟩
theorem am_met_min {o j b : Nat} (h : am_met o j = some (4, 1, b)) : Cond.methodLink (am_cn o) j Lib.Math.min.name ∈ am_WT ∧ Cond.static Lib.Math.min.name ∈ am_WT := by
  obtain ⟨⟨kd, k, np, p1, p2, p3⟩, h1, h2⟩ := am_map_inv h
  have e1 : kd = 4 := congrArg Prod.fst h2
  have e2 : k = 1 := congrArg (fun q => q.2.1) h2
  subst e1 e2
  have h3 := List.all_eq_true.mp am_mck_ok _ (am_fnd_mem h1)
  have h4 : (am_at p1 (.methodLink (am_cn o) j Lib.Math.min.name) && am_at p2 (.static Lib.Math.min.name)) = true := h3
  rw [Bool.and_eq_true] at h4
  exact ⟨am_at_in h4.1, am_at_in h4.2⟩
theorem am_met_abs {o j b : Nat} (h : am_met o j = some (4, 5, b)) : Cond.methodLink (am_cn o) j Lib.MathLoose.abs_long.x ∈ am_WT ∧ Cond.static Lib.MathLoose.abs_long.x ∈ am_WT := by
  obtain ⟨⟨kd, k, np, p1, p2, p3⟩, h1, h2⟩ := am_map_inv h
  have e1 : kd = 4 := congrArg Prod.fst h2
  have e2 : k = 5 := congrArg (fun q => q.2.1) h2
  subst e1 e2
  have h3 := List.all_eq_true.mp am_mck_ok _ (am_fnd_mem h1)
  have h4 : (am_at p1 (.methodLink (am_cn o) j Lib.MathLoose.abs_long.x) && am_at p2 (.static Lib.MathLoose.abs_long.x)) = true := h3
  rw [Bool.and_eq_true] at h4
  exact ⟨am_at_in h4.1, am_at_in h4.2⟩
theorem am_met_ok {o j kd k np : Nat} (h : am_met o j = some (kd, k, np)) (hk : kd < 3) : am_mok k ∧ (parseMethodDescriptor (am_name k).desc).map (fun d => d.parameters.length) = some np ∧ (Cond.methodLink (am_cn o) j (am_name k) ∈ am_WT ∨ ∃ host, (am_cn o, j, am_name k, host) ∈ am_NM) ∧ (kd = 0 → Cond.static (am_name k) ∈ am_WT) ∧ (kd = 1 → Cond.instanceMethod (am_name k) ∈ am_WT ∧ ∃ (C : String) (T : u_T) (N : Nat), vwCl[am_rcv k]? = some (C, T, N) ∧ Cond.selects C (am_name k) (am_name k) ∈ am_WT) ∧ (kd = 2 → Cond.instanceMethod (am_name k) ∈ am_WT ∧ (am_name k).name = "<init>" ∧ am_ret k = none) := by
  obtain ⟨⟨kd1, k1, np1, p1, p2, p3⟩, h1, h2⟩ := am_map_inv h
  have e1 : kd1 = kd := congrArg Prod.fst h2
  have e2 : k1 = k := congrArg (fun q => q.2.1) h2
  have e3 : np1 = np := congrArg (fun q => q.2.2) h2
  subst e1 e2 e3
  have h3 := List.all_eq_true.mp am_mck_ok _ (am_fnd_mem h1)
  have lk : (am_at p1 (Cond.methodLink (am_cn o) j (am_name k1)) || decide ((am_cn o, j, am_name k1, "SectionTemplates") ∈ am_NM)) = true → (Cond.methodLink (am_cn o) j (am_name k1) ∈ am_WT ∨ ∃ host, (am_cn o, j, am_name k1, host) ∈ am_NM) := by
    intro hq
    rw [Bool.or_eq_true] at hq
    rcases hq with q | q
    · exact Or.inl (am_at_in q)
    · exact Or.inr ⟨_, of_decide_eq_true q⟩
  match kd1, hk, h3 with
  | 0, _, h3 =>
    simp only [am_mck, Bool.and_eq_true] at h3
    obtain ⟨⟨⟨g1, g2⟩, g3⟩, g4⟩ := h3
    exact ⟨am_mk (of_decide_eq_true g1), of_decide_eq_true g2, lk g3, fun _ => am_at_in g4, (fun q => by cases q), (fun q => by cases q)⟩
  | 1, _, h3 =>
    simp only [am_mck, Bool.and_eq_true] at h3
    obtain ⟨⟨⟨⟨g1, g2⟩, g3⟩, g4⟩, g5⟩ := h3
    refine ⟨am_mk (of_decide_eq_true g1), of_decide_eq_true g2, lk g3, (fun q => by cases q), fun _ => ⟨am_at_in g4, ?_⟩, (fun q => by cases q)⟩
    split at g5
    · rename_i C T N hc
      exact ⟨C, T, N, hc, am_at_in g5⟩
    · cases g5
  | 2, _, h3 =>
    simp only [am_mck, Bool.and_eq_true] at h3
    obtain ⟨⟨⟨⟨⟨g1, g2⟩, g3⟩, g4⟩, g5⟩, g6⟩ := h3
    exact ⟨am_mk (of_decide_eq_true g1), of_decide_eq_true g2, lk g3, (fun q => by cases q), (fun q => by cases q), fun _ => ⟨am_at_in g4, of_decide_eq_true g5, of_decide_eq_true g6⟩⟩
theorem am_cls_ok {ci : Nat} {C : String} {T : u_T} {N : Nat} (h : vwCl[ci]? = some (C, T, N)) : (∀ w ∈ u_ws C T N, w ∈ am_WT) ∧ (∀ k, k < N → parseFieldDescriptor (T k).2.2.1 = some (am_fty ci k)) ∧ (∀ a, a < N → ∀ b, b < N → a ≠ b → (T a).2.1 ≠ (T b).2.1) := by
  obtain ⟨⟨⟨⟨⟨⟨g1, g2⟩, g3⟩, g4⟩, g5⟩, g6⟩, g7⟩ := am_cls7 h
  refine ⟨fun w hw => ?_, g2, fun a ha b hb hne => (g3 a ha b hb).resolve_left hne⟩
  obtain ⟨k, hk, rfl⟩ := List.mem_map.mp hw
  exact am_at_in (g1 k (List.mem_range.mp hk))
theorem am_ctor_own {k ci : Nat} {C : String} {T : u_T} {N : Nat} (h : am_ctor k ci = true) (hc : vwCl[ci]? = some (C, T, N)) : am_isi k = true ∧ ∀ f, f < N → (T f).1 = am_cn (am_own k) := by
  have h' := h
  unfold am_ctor at h'
  rw [Bool.and_eq_true] at h'
  have hr : am_rcv k = ci := eq_of_beq h'.2
  have hk : k < 209 := by
    rcases Nat.lt_or_ge k 209 with q | q
    · exact q
    · have h1 : am_isi k = false := by
        unfold am_isi am_m
        rw [List.getElem?_eq_none (by exact q)]
        rfl
      rw [h1] at h'
      cases h'.1
  have h2 := List.all_eq_true.mp am_kck_ok k (List.mem_range.mpr hk)
  unfold am_kck at h2
  rw [h'.1, hr, hc] at h2
  exact am_ctor_ok h hc (by simpa using h2)
end
section
/-! EACH INSTRUCTION IS THE STATEMENT'S -/
/-- the standard length of an instruction; 0: not looked at -/
def am_len (i : Instr) : Nat := match i with
  | .tableswitch .. | .lookupswitch .. => 0
  | .bipush _ | .ldc _ | .iload _ | .lload _ | .aload _ | .istore _ | .lstore _ | .astore _ | .newarray _ => 2
  | .sipush _ | .ldc2_w _ | .iinc _ _ | .ifCond .. | .if_icmp .. | .if_acmp .. | .goto _ | .new _ | .getfield _ | .putfield _ | .invokestatic _ | .invokevirtual _ | .invokespecial _ => 3
  | _ => 1
def am_chk (bs : ByteArray) (q : Nat × Instr) : Bool := match decode bs q.1 with
  | .ok (i, len) => decide (i = q.2) && (am_len i == 0 || len == am_len i)
  | .error _ => false
theorem am_chk0 : am_cd0.all (am_chk prog_1_method_1_code) = true := by decide +kernel
theorem am_chk1 : am_cd1.all (am_chk prog_10_method_1_code) = true := by decide +kernel
theorem am_chk2 : am_cd2.all (am_chk prog_7_method_1_code) = true := by decide +kernel
theorem am_chk3 : am_cd3.all (am_chk prog_6_method_1_code) = true := by decide +kernel
theorem am_chk4 : am_cd4.all (am_chk prog_3_method_1_code) = true := by decide +kernel
theorem am_chk5 : am_cd5.all (am_chk prog_12_method_1_code) = true := by decide +kernel
theorem am_chk6 : am_cd6.all (am_chk prog_16_method_65_code) = true := by decide +kernel
theorem am_chk7 : am_cd7.all (am_chk prog_8_method_1_code) = true := by decide +kernel
theorem am_chk8 : am_cd8.all (am_chk prog_9_method_1_code) = true := by decide +kernel
theorem am_chk9 : am_cd9.all (am_chk prog_5_method_1_code) = true := by decide +kernel
theorem am_chk10 : am_cd10.all (am_chk prog_12_method_2_code) = true := by decide +kernel
theorem am_chk11 : am_cd11.all (am_chk prog_11_method_1_code) = true := by decide +kernel
theorem am_chk12 : am_cd12.all (am_chk prog_2_method_1_code) = true := by decide +kernel
theorem am_chk13 : am_cd13.all (am_chk prog_4_method_1_code) = true := by decide +kernel
theorem am_chk14 : am_cd14.all (am_chk prog_1_method_2_code) = true := by decide +kernel
theorem am_chk15 : am_cd15.all (am_chk prog_7_method_2_code) = true := by decide +kernel
theorem am_chk16 : am_cd16.all (am_chk prog_1_method_3_code) = true := by decide +kernel
theorem am_chk17 : am_cd17.all (am_chk prog_7_method_4_code) = true := by decide +kernel
theorem am_chk18 : am_cd18.all (am_chk prog_10_method_2_code) = true := by decide +kernel
theorem am_chk19 : am_cd19.all (am_chk prog_7_method_14_code) = true := by decide +kernel
theorem am_chk20 : am_cd20.all (am_chk prog_7_method_5_code) = true := by decide +kernel
theorem am_chk21 : am_cd21.all (am_chk prog_10_method_3_code) = true := by decide +kernel
theorem am_chk22 : am_cd22.all (am_chk prog_7_method_13_code) = true := by decide +kernel
theorem am_chk23 : am_cd23.all (am_chk prog_7_method_15_code) = true := by decide +kernel
theorem am_chk24 : am_cd24.all (am_chk prog_10_method_5_code) = true := by decide +kernel
theorem am_chk25 : am_cd25.all (am_chk prog_7_method_10_code) = true := by decide +kernel
theorem am_chk26 : am_cd26.all (am_chk prog_10_method_12_code) = true := by decide +kernel
theorem am_chk27 : am_cd27.all (am_chk prog_10_method_17_code) = true := by decide +kernel
theorem am_chk28 : am_cd28.all (am_chk prog_16_method_69_code) = true := by decide +kernel
theorem am_chk29 : am_cd29.all (am_chk prog_10_method_9_code) = true := by decide +kernel
theorem am_chk30 : am_cd30.all (am_chk prog_7_method_8_code) = true := by decide +kernel
theorem am_chk31 : am_cd31.all (am_chk prog_10_method_16_code) = true := by decide +kernel
theorem am_chk32 : am_cd32.all (am_chk prog_10_method_8_code) = true := by decide +kernel
theorem am_chk33 : am_cd33.all (am_chk prog_7_method_9_code) = true := by decide +kernel
theorem am_chk34 : am_cd34.all (am_chk prog_10_method_6_code) = true := by decide +kernel
theorem am_chk35 : am_cd35.all (am_chk prog_7_method_6_code) = true := by decide +kernel
theorem am_chk36 : am_cd36.all (am_chk prog_7_method_17_code) = true := by decide +kernel
theorem am_chk37 : am_cd37.all (am_chk prog_10_method_4_code) = true := by decide +kernel
theorem am_chk38 : am_cd38.all (am_chk prog_7_method_7_code) = true := by decide +kernel
theorem am_chk39 : am_cd39.all (am_chk prog_7_method_18_code) = true := by decide +kernel
theorem am_chk40 : am_cd40.all (am_chk prog_7_method_12_code) = true := by decide +kernel
theorem am_chk41 : am_cd41.all (am_chk prog_7_method_16_code) = true := by decide +kernel
theorem am_chk42 : am_cd42.all (am_chk prog_10_method_7_code) = true := by decide +kernel
theorem am_chk43 : am_cd43.all (am_chk prog_7_method_11_code) = true := by decide +kernel
theorem am_chk44 : am_cd44.all (am_chk prog_7_method_3_code) = true := by decide +kernel
theorem am_chk45 : am_cd45.all (am_chk prog_8_method_3_code) = true := by decide +kernel
theorem am_chk46 : am_cd46.all (am_chk prog_1_method_4_code) = true := by decide +kernel
theorem am_chk47 : am_cd47.all (am_chk prog_6_method_2_code) = true := by decide +kernel
theorem am_chk48 : am_cd48.all (am_chk prog_1_method_20_code) = true := by decide +kernel
theorem am_chk49 : am_cd49.all (am_chk prog_1_method_5_code) = true := by decide +kernel
theorem am_chk50 : am_cd50.all (am_chk prog_6_method_3_code) = true := by decide +kernel
theorem am_chk51 : am_cd51.all (am_chk prog_1_method_6_code) = true := by decide +kernel
theorem am_chk52 : am_cd52.all (am_chk prog_1_method_7_code) = true := by decide +kernel
theorem am_chk53 : am_cd53.all (am_chk prog_1_method_19_code) = true := by decide +kernel
theorem am_chk54 : am_cd54.all (am_chk prog_1_method_8_code) = true := by decide +kernel
theorem am_chk55 : am_cd55.all (am_chk prog_6_method_4_code) = true := by decide +kernel
theorem am_chk56 : am_cd56.all (am_chk prog_8_method_2_code) = true := by decide +kernel
theorem am_chk57 : am_cd57.all (am_chk prog_9_method_2_code) = true := by decide +kernel
theorem am_chk58 : am_cd58.all (am_chk prog_2_method_2_code) = true := by decide +kernel
theorem am_chk59 : am_cd59.all (am_chk prog_11_method_2_code) = true := by decide +kernel
theorem am_chk60 : am_cd60.all (am_chk prog_10_method_10_code) = true := by decide +kernel
theorem am_chk61 : am_cd61.all (am_chk prog_10_method_11_code) = true := by decide +kernel
theorem am_chk62 : am_cd62.all (am_chk prog_10_method_13_code) = true := by decide +kernel
theorem am_chk63 : am_cd63.all (am_chk prog_10_method_14_code) = true := by decide +kernel
theorem am_chk64 : am_cd64.all (am_chk prog_10_method_15_code) = true := by decide +kernel
theorem am_chk65 : am_cd65.all (am_chk prog_11_method_5_code) = true := by decide +kernel
theorem am_chk66 : am_cd66.all (am_chk prog_11_method_6_code) = true := by decide +kernel
theorem am_chk67 : am_cd67.all (am_chk prog_9_method_7_code) = true := by decide +kernel
theorem am_chk68 : am_cd68.all (am_chk prog_9_method_13_code) = true := by decide +kernel
theorem am_chk69 : am_cd69.all (am_chk prog_6_method_7_code) = true := by decide +kernel
theorem am_chk70 : am_cd70.all (am_chk prog_6_method_5_code) = true := by decide +kernel
theorem am_chk71 : am_cd71.all (am_chk prog_9_method_8_code) = true := by decide +kernel
theorem am_chk72 : am_cd72.all (am_chk prog_6_method_6_code) = true := by decide +kernel
theorem am_chk73 : am_cd73.all (am_chk prog_16_method_61_code) = true := by decide +kernel
theorem am_chk74 : am_cd74.all (am_chk prog_11_method_7_code) = true := by decide +kernel
theorem am_chk75 : am_cd75.all (am_chk prog_11_method_4_code) = true := by decide +kernel
theorem am_chk76 : am_cd76.all (am_chk prog_8_method_8_code) = true := by decide +kernel
theorem am_chk77 : am_cd77.all (am_chk prog_11_method_9_code) = true := by decide +kernel
theorem am_chk78 : am_cd78.all (am_chk prog_15_method_42_code) = true := by decide +kernel
theorem am_chk79 : am_cd79.all (am_chk prog_3_method_2_code) = true := by decide +kernel
theorem am_chk80 : am_cd80.all (am_chk prog_3_method_8_code) = true := by decide +kernel
theorem am_chk81 : am_cd81.all (am_chk prog_11_method_10_code) = true := by decide +kernel
theorem am_chk82 : am_cd82.all (am_chk prog_6_method_8_code) = true := by decide +kernel
theorem am_chk83 : am_cd83.all (am_chk prog_6_method_9_code) = true := by decide +kernel
theorem am_chk84 : am_cd84.all (am_chk prog_6_method_10_code) = true := by decide +kernel
theorem am_chk85 : am_cd85.all (am_chk prog_3_method_3_code) = true := by decide +kernel
theorem am_chk86 : am_cd86.all (am_chk prog_3_method_7_code) = true := by decide +kernel
theorem am_chk87 : am_cd87.all (am_chk prog_12_method_3_code) = true := by decide +kernel
theorem am_chk88 : am_cd88.all (am_chk prog_12_method_4_code) = true := by decide +kernel
theorem am_chk89 : am_cd89.all (am_chk prog_3_method_6_code) = true := by decide +kernel
theorem am_chk90 : am_cd90.all (am_chk prog_12_method_9_code) = true := by decide +kernel
theorem am_chk91 : am_cd91.all (am_chk prog_12_method_10_code) = true := by decide +kernel
theorem am_chk92 : am_cd92.all (am_chk prog_12_method_12_code) = true := by decide +kernel
theorem am_chk93 : am_cd93.all (am_chk prog_12_method_14_code) = true := by decide +kernel
theorem am_chk94 : am_cd94.all (am_chk prog_12_method_15_code) = true := by decide +kernel
theorem am_chk95 : am_cd95.all (am_chk prog_12_method_13_code) = true := by decide +kernel
theorem am_chk96 : am_cd96.all (am_chk prog_12_method_11_code) = true := by decide +kernel
theorem am_chk97 : am_cd97.all (am_chk prog_12_method_8_code) = true := by decide +kernel
theorem am_chk98 : am_cd98.all (am_chk prog_12_method_5_code) = true := by decide +kernel
theorem am_chk99 : am_cd99.all (am_chk prog_12_method_6_code) = true := by decide +kernel
theorem am_chk100 : am_cd100.all (am_chk prog_12_method_7_code) = true := by decide +kernel
theorem am_chk101 : am_cd101.all (am_chk prog_3_method_4_code) = true := by decide +kernel
theorem am_chk102 : am_cd102.all (am_chk prog_9_method_3_code) = true := by decide +kernel
theorem am_chk103 : am_cd103.all (am_chk prog_11_method_8_code) = true := by decide +kernel
theorem am_chk104 : am_cd104.all (am_chk prog_11_method_3_code) = true := by decide +kernel
theorem am_chk105 : am_cd105.all (am_chk prog_8_method_4_code) = true := by decide +kernel
theorem am_chk106 : am_cd106.all (am_chk prog_1_method_9_code) = true := by decide +kernel
theorem am_chk107 : am_cd107.all (am_chk prog_1_method_21_code) = true := by decide +kernel
theorem am_chk108 : am_cd108.all (am_chk prog_8_method_6_code) = true := by decide +kernel
theorem am_chk109 : am_cd109.all (am_chk prog_8_method_7_code) = true := by decide +kernel
theorem am_chk110 : am_cd110.all (am_chk prog_9_method_4_code) = true := by decide +kernel
theorem am_chk111 : am_cd111.all (am_chk prog_1_method_22_code) = true := by decide +kernel
theorem am_chk112 : am_cd112.all (am_chk prog_1_method_10_code) = true := by decide +kernel
theorem am_chk113 : am_cd113.all (am_chk prog_9_method_6_code) = true := by decide +kernel
theorem am_chk114 : am_cd114.all (am_chk prog_1_method_11_code) = true := by decide +kernel
theorem am_chk115 : am_cd115.all (am_chk prog_8_method_5_code) = true := by decide +kernel
theorem am_chk116 : am_cd116.all (am_chk prog_1_method_12_code) = true := by decide +kernel
theorem am_chk117 : am_cd117.all (am_chk prog_9_method_5_code) = true := by decide +kernel
theorem am_chk118 : am_cd118.all (am_chk prog_3_method_5_code) = true := by decide +kernel
theorem am_chk119 : am_cd119.all (am_chk prog_1_method_13_code) = true := by decide +kernel
theorem am_chk120 : am_cd120.all (am_chk prog_8_method_9_code) = true := by decide +kernel
theorem am_chk121 : am_cd121.all (am_chk prog_1_method_14_code) = true := by decide +kernel
theorem am_chk122 : am_cd122.all (am_chk prog_2_method_3_code) = true := by decide +kernel
theorem am_chk123 : am_cd123.all (am_chk prog_2_method_4_code) = true := by decide +kernel
theorem am_chk124 : am_cd124.all (am_chk prog_2_method_5_code) = true := by decide +kernel
theorem am_chk125 : am_cd125.all (am_chk prog_2_method_6_code) = true := by decide +kernel
theorem am_chk126 : am_cd126.all (am_chk prog_2_method_7_code) = true := by decide +kernel
theorem am_chk127 : am_cd127.all (am_chk prog_9_method_11_code) = true := by decide +kernel
theorem am_chk128 : am_cd128.all (am_chk prog_9_method_10_code) = true := by decide +kernel
theorem am_chk129 : am_cd129.all (am_chk prog_9_method_9_code) = true := by decide +kernel
theorem am_chk130 : am_cd130.all (am_chk prog_9_method_12_code) = true := by decide +kernel
theorem am_chk131 : am_cd131.all (am_chk prog_2_method_9_code) = true := by decide +kernel
theorem am_chk132 : am_cd132.all (am_chk prog_2_method_10_code) = true := by decide +kernel
theorem am_chk133 : am_cd133.all (am_chk prog_2_method_8_code) = true := by decide +kernel
theorem am_chk134 : am_cd134.all (am_chk prog_1_method_15_code) = true := by decide +kernel
theorem am_chk135 : am_cd135.all (am_chk prog_1_method_16_code) = true := by decide +kernel
theorem am_chk136 : am_cd136.all (am_chk prog_4_method_2_code) = true := by decide +kernel
theorem am_chk137 : am_cd137.all (am_chk prog_1_method_17_code) = true := by decide +kernel
theorem am_chk138 : am_cd138.all (am_chk prog_1_method_18_code) = true := by decide +kernel
theorem am_chk139 : am_cd139.all (am_chk prog_14_method_25_code) = true := by decide +kernel
theorem am_chk140 : am_cd140.all (am_chk prog_14_method_14_code) = true := by decide +kernel
theorem am_chk141 : am_cd141.all (am_chk prog_14_method_13_code) = true := by decide +kernel
theorem am_chk142 : am_cd142.all (am_chk prog_14_method_1_code) = true := by decide +kernel
theorem am_chk143 : am_cd143.all (am_chk prog_14_method_12_code) = true := by decide +kernel
theorem am_chk144 : am_cd144.all (am_chk prog_14_method_11_code) = true := by decide +kernel
theorem am_chk145 : am_cd145.all (am_chk prog_14_method_2_code) = true := by decide +kernel
theorem am_chk146 : am_cd146.all (am_chk prog_14_method_9_code) = true := by decide +kernel
theorem am_chk147 : am_cd147.all (am_chk prog_14_method_8_code) = true := by decide +kernel
theorem am_chk148 : am_cd148.all (am_chk prog_14_method_5_code) = true := by decide +kernel
theorem am_chk149 : am_cd149.all (am_chk prog_14_method_3_code) = true := by decide +kernel
theorem am_chk150 : am_cd150.all (am_chk prog_14_method_6_code) = true := by decide +kernel
theorem am_chk151 : am_cd151.all (am_chk prog_14_method_4_code) = true := by decide +kernel
theorem am_chk152 : am_cd152.all (am_chk prog_14_method_10_code) = true := by decide +kernel
theorem am_chk153 : am_cd153.all (am_chk prog_14_method_26_code) = true := by decide +kernel
theorem am_chk154 : am_cd154.all (am_chk prog_14_method_36_code) = true := by decide +kernel
theorem am_chk155 : am_cd155.all (am_chk prog_14_method_27_code) = true := by decide +kernel
theorem am_chk156 : am_cd156.all (am_chk prog_14_method_28_code) = true := by decide +kernel
theorem am_chk157 : am_cd157.all (am_chk prog_14_method_35_code) = true := by decide +kernel
theorem am_chk158 : am_cd158.all (am_chk prog_14_method_33_code) = true := by decide +kernel
theorem am_chk159 : am_cd159.all (am_chk prog_14_method_29_code) = true := by decide +kernel
theorem am_chk160 : am_cd160.all (am_chk prog_14_method_32_code) = true := by decide +kernel
theorem am_chk161 : am_cd161.all (am_chk prog_14_method_30_code) = true := by decide +kernel
theorem am_chk162 : am_cd162.all (am_chk prog_14_method_31_code) = true := by decide +kernel
theorem am_chk163 : am_cd163.all (am_chk prog_14_method_34_code) = true := by decide +kernel
theorem am_chk164 : am_cd164.all (am_chk prog_14_method_38_code) = true := by decide +kernel
theorem am_chk165 : am_cd165.all (am_chk prog_14_method_37_code) = true := by decide +kernel
theorem am_chk166 : am_cd166.all (am_chk prog_14_method_39_code) = true := by decide +kernel
theorem am_chk167 : am_cd167.all (am_chk prog_14_method_40_code) = true := by decide +kernel
theorem am_chk168 : am_cd168.all (am_chk prog_14_method_41_code) = true := by decide +kernel
theorem am_chk169 : am_cd169.all (am_chk prog_14_method_51_code) = true := by decide +kernel
theorem am_chk170 : am_cd170.all (am_chk prog_14_method_49_code) = true := by decide +kernel
theorem am_chk171 : am_cd171.all (am_chk prog_14_method_45_code) = true := by decide +kernel
theorem am_chk172 : am_cd172.all (am_chk prog_14_method_48_code) = true := by decide +kernel
theorem am_chk173 : am_cd173.all (am_chk prog_14_method_43_code) = true := by decide +kernel
theorem am_chk174 : am_cd174.all (am_chk prog_14_method_42_code) = true := by decide +kernel
theorem am_chk175 : am_cd175.all (am_chk prog_14_method_47_code) = true := by decide +kernel
theorem am_chk176 : am_cd176.all (am_chk prog_14_method_16_code) = true := by decide +kernel
theorem am_chk177 : am_cd177.all (am_chk prog_14_method_7_code) = true := by decide +kernel
theorem am_chk178 : am_cd178.all (am_chk prog_14_method_19_code) = true := by decide +kernel
theorem am_chk179 : am_cd179.all (am_chk prog_14_method_18_code) = true := by decide +kernel
theorem am_chk180 : am_cd180.all (am_chk prog_14_method_46_code) = true := by decide +kernel
theorem am_chk181 : am_cd181.all (am_chk prog_14_method_20_code) = true := by decide +kernel
theorem am_chk182 : am_cd182.all (am_chk prog_14_method_44_code) = true := by decide +kernel
theorem am_chk183 : am_cd183.all (am_chk prog_14_method_50_code) = true := by decide +kernel
theorem am_chk184 : am_cd184.all (am_chk prog_14_method_15_code) = true := by decide +kernel
theorem am_chk185 : am_cd185.all (am_chk prog_14_method_57_code) = true := by decide +kernel
theorem am_chk186 : am_cd186.all (am_chk prog_14_method_21_code) = true := by decide +kernel
theorem am_chk187 : am_cd187.all (am_chk prog_14_method_56_code) = true := by decide +kernel
theorem am_chk188 : am_cd188.all (am_chk prog_14_method_54_code) = true := by decide +kernel
theorem am_chk189 : am_cd189.all (am_chk prog_14_method_52_code) = true := by decide +kernel
theorem am_chk190 : am_cd190.all (am_chk prog_14_method_53_code) = true := by decide +kernel
theorem am_chk191 : am_cd191.all (am_chk prog_14_method_17_code) = true := by decide +kernel
theorem am_chk192 : am_cd192.all (am_chk prog_14_method_55_code) = true := by decide +kernel
theorem am_chk193 : am_cd193.all (am_chk prog_14_method_59_code) = true := by decide +kernel
theorem am_chk194 : am_cd194.all (am_chk prog_14_method_58_code) = true := by decide +kernel
theorem am_chk195 : am_cd195.all (am_chk prog_14_method_24_code) = true := by decide +kernel
theorem am_chk196 : am_cd196.all (am_chk prog_14_method_23_code) = true := by decide +kernel
theorem am_chk197 : am_cd197.all (am_chk prog_14_method_22_code) = true := by decide +kernel
theorem am_chk198 : am_cd198.all (am_chk prog_14_method_60_code) = true := by decide +kernel
theorem am_chk199 : am_cd199.all (am_chk prog_14_method_61_code) = true := by decide +kernel
theorem am_chk200 : am_cd200.all (am_chk prog_14_method_62_code) = true := by decide +kernel
theorem am_chk201 : am_cd201.all (am_chk prog_14_method_63_code) = true := by decide +kernel
theorem am_chk202 : am_cd202.all (am_chk prog_14_method_64_code) = true := by decide +kernel
theorem am_chk203 : am_cd203.all (am_chk prog_14_method_65_code) = true := by decide +kernel
theorem am_chk204 : am_cd204.all (am_chk prog_14_method_67_code) = true := by decide +kernel
theorem am_chk205 : am_cd205.all (am_chk prog_14_method_66_code) = true := by decide +kernel
theorem am_chk206 : am_cd206.all (am_chk prog_14_method_68_code) = true := by decide +kernel
theorem am_chk207 : am_cd207.all (am_chk prog_14_method_69_code) = true := by decide +kernel
theorem am_chk208 : am_cd208.all (am_chk code) = true := by decide +kernel
end
section
/-! what am_code says is what decode says -/
def am_prs0 : List (ByteArray × List (Nat × Instr)) := [(prog_1_method_1_code, am_cd0), (prog_10_method_1_code, am_cd1), (prog_7_method_1_code, am_cd2), (prog_6_method_1_code, am_cd3), (prog_3_method_1_code, am_cd4), (prog_12_method_1_code, am_cd5), (prog_16_method_65_code, am_cd6), (prog_8_method_1_code, am_cd7), (prog_9_method_1_code, am_cd8), (prog_5_method_1_code, am_cd9), (prog_12_method_2_code, am_cd10), (prog_11_method_1_code, am_cd11), (prog_2_method_1_code, am_cd12), (prog_4_method_1_code, am_cd13), (prog_1_method_2_code, am_cd14), (prog_7_method_2_code, am_cd15), (prog_1_method_3_code, am_cd16), (prog_7_method_4_code, am_cd17), (prog_10_method_2_code, am_cd18), (prog_7_method_14_code, am_cd19), (prog_7_method_5_code, am_cd20), (prog_10_method_3_code, am_cd21), (prog_7_method_13_code, am_cd22), (prog_7_method_15_code, am_cd23), (prog_10_method_5_code, am_cd24), (prog_7_method_10_code, am_cd25), (prog_10_method_12_code, am_cd26), (prog_10_method_17_code, am_cd27), (prog_16_method_69_code, am_cd28), (prog_10_method_9_code, am_cd29)]
theorem am_prs0_ok : ∀ q ∈ am_prs0, q.2.all (am_chk q.1) = true := List.forall_mem_cons.mpr ⟨am_chk0, List.forall_mem_cons.mpr ⟨am_chk1, List.forall_mem_cons.mpr ⟨am_chk2, List.forall_mem_cons.mpr ⟨am_chk3, List.forall_mem_cons.mpr ⟨am_chk4, List.forall_mem_cons.mpr ⟨am_chk5, List.forall_mem_cons.mpr ⟨am_chk6, List.forall_mem_cons.mpr ⟨am_chk7, List.forall_mem_cons.mpr ⟨am_chk8, List.forall_mem_cons.mpr ⟨am_chk9, List.forall_mem_cons.mpr ⟨am_chk10, List.forall_mem_cons.mpr ⟨am_chk11, List.forall_mem_cons.mpr ⟨am_chk12, List.forall_mem_cons.mpr ⟨am_chk13, List.forall_mem_cons.mpr ⟨am_chk14, List.forall_mem_cons.mpr ⟨am_chk15, List.forall_mem_cons.mpr ⟨am_chk16, List.forall_mem_cons.mpr ⟨am_chk17, List.forall_mem_cons.mpr ⟨am_chk18, List.forall_mem_cons.mpr ⟨am_chk19, List.forall_mem_cons.mpr ⟨am_chk20, List.forall_mem_cons.mpr ⟨am_chk21, List.forall_mem_cons.mpr ⟨am_chk22, List.forall_mem_cons.mpr ⟨am_chk23, List.forall_mem_cons.mpr ⟨am_chk24, List.forall_mem_cons.mpr ⟨am_chk25, List.forall_mem_cons.mpr ⟨am_chk26, List.forall_mem_cons.mpr ⟨am_chk27, List.forall_mem_cons.mpr ⟨am_chk28, List.forall_mem_cons.mpr ⟨am_chk29, fun _ h => absurd h List.not_mem_nil⟩⟩⟩⟩⟩⟩⟩⟩⟩⟩⟩⟩⟩⟩⟩⟩⟩⟩⟩⟩⟩⟩⟩⟩⟩⟩⟩⟩⟩⟩
def am_prs1 : List (ByteArray × List (Nat × Instr)) := [(prog_7_method_8_code, am_cd30), (prog_10_method_16_code, am_cd31), (prog_10_method_8_code, am_cd32), (prog_7_method_9_code, am_cd33), (prog_10_method_6_code, am_cd34), (prog_7_method_6_code, am_cd35), (prog_7_method_17_code, am_cd36), (prog_10_method_4_code, am_cd37), (prog_7_method_7_code, am_cd38), (prog_7_method_18_code, am_cd39), (prog_7_method_12_code, am_cd40), (prog_7_method_16_code, am_cd41), (prog_10_method_7_code, am_cd42), (prog_7_method_11_code, am_cd43), (prog_7_method_3_code, am_cd44), (prog_8_method_3_code, am_cd45), (prog_1_method_4_code, am_cd46), (prog_6_method_2_code, am_cd47), (prog_1_method_20_code, am_cd48), (prog_1_method_5_code, am_cd49), (prog_6_method_3_code, am_cd50), (prog_1_method_6_code, am_cd51), (prog_1_method_7_code, am_cd52), (prog_1_method_19_code, am_cd53), (prog_1_method_8_code, am_cd54), (prog_6_method_4_code, am_cd55), (prog_8_method_2_code, am_cd56), (prog_9_method_2_code, am_cd57), (prog_2_method_2_code, am_cd58), (prog_11_method_2_code, am_cd59)]
theorem am_prs1_ok : ∀ q ∈ am_prs1, q.2.all (am_chk q.1) = true := List.forall_mem_cons.mpr ⟨am_chk30, List.forall_mem_cons.mpr ⟨am_chk31, List.forall_mem_cons.mpr ⟨am_chk32, List.forall_mem_cons.mpr ⟨am_chk33, List.forall_mem_cons.mpr ⟨am_chk34, List.forall_mem_cons.mpr ⟨am_chk35, List.forall_mem_cons.mpr ⟨am_chk36, List.forall_mem_cons.mpr ⟨am_chk37, List.forall_mem_cons.mpr ⟨am_chk38, List.forall_mem_cons.mpr ⟨am_chk39, List.forall_mem_cons.mpr ⟨am_chk40, List.forall_mem_cons.mpr ⟨am_chk41, List.forall_mem_cons.mpr ⟨am_chk42, List.forall_mem_cons.mpr ⟨am_chk43, List.forall_mem_cons.mpr ⟨am_chk44, List.forall_mem_cons.mpr ⟨am_chk45, List.forall_mem_cons.mpr ⟨am_chk46, List.forall_mem_cons.mpr ⟨am_chk47, List.forall_mem_cons.mpr ⟨am_chk48, List.forall_mem_cons.mpr ⟨am_chk49, List.forall_mem_cons.mpr ⟨am_chk50, List.forall_mem_cons.mpr ⟨am_chk51, List.forall_mem_cons.mpr ⟨am_chk52, List.forall_mem_cons.mpr ⟨am_chk53, List.forall_mem_cons.mpr ⟨am_chk54, List.forall_mem_cons.mpr ⟨am_chk55, List.forall_mem_cons.mpr ⟨am_chk56, List.forall_mem_cons.mpr ⟨am_chk57, List.forall_mem_cons.mpr ⟨am_chk58, List.forall_mem_cons.mpr ⟨am_chk59, fun _ h => absurd h List.not_mem_nil⟩⟩⟩⟩⟩⟩⟩⟩⟩⟩⟩⟩⟩⟩⟩⟩⟩⟩⟩⟩⟩⟩⟩⟩⟩⟩⟩⟩⟩⟩
def am_prs2 : List (ByteArray × List (Nat × Instr)) := [(prog_10_method_10_code, am_cd60), (prog_10_method_11_code, am_cd61), (prog_10_method_13_code, am_cd62), (prog_10_method_14_code, am_cd63), (prog_10_method_15_code, am_cd64), (prog_11_method_5_code, am_cd65), (prog_11_method_6_code, am_cd66), (prog_9_method_7_code, am_cd67), (prog_9_method_13_code, am_cd68), (prog_6_method_7_code, am_cd69), (prog_6_method_5_code, am_cd70), (prog_9_method_8_code, am_cd71), (prog_6_method_6_code, am_cd72), (prog_16_method_61_code, am_cd73), (prog_11_method_7_code, am_cd74), (prog_11_method_4_code, am_cd75), (prog_8_method_8_code, am_cd76), (prog_11_method_9_code, am_cd77), (prog_15_method_42_code, am_cd78), (prog_3_method_2_code, am_cd79), (prog_3_method_8_code, am_cd80), (prog_11_method_10_code, am_cd81), (prog_6_method_8_code, am_cd82), (prog_6_method_9_code, am_cd83), (prog_6_method_10_code, am_cd84), (prog_3_method_3_code, am_cd85), (prog_3_method_7_code, am_cd86), (prog_12_method_3_code, am_cd87), (prog_12_method_4_code, am_cd88), (prog_3_method_6_code, am_cd89)]
theorem am_prs2_ok : ∀ q ∈ am_prs2, q.2.all (am_chk q.1) = true := List.forall_mem_cons.mpr ⟨am_chk60, List.forall_mem_cons.mpr ⟨am_chk61, List.forall_mem_cons.mpr ⟨am_chk62, List.forall_mem_cons.mpr ⟨am_chk63, List.forall_mem_cons.mpr ⟨am_chk64, List.forall_mem_cons.mpr ⟨am_chk65, List.forall_mem_cons.mpr ⟨am_chk66, List.forall_mem_cons.mpr ⟨am_chk67, List.forall_mem_cons.mpr ⟨am_chk68, List.forall_mem_cons.mpr ⟨am_chk69, List.forall_mem_cons.mpr ⟨am_chk70, List.forall_mem_cons.mpr ⟨am_chk71, List.forall_mem_cons.mpr ⟨am_chk72, List.forall_mem_cons.mpr ⟨am_chk73, List.forall_mem_cons.mpr ⟨am_chk74, List.forall_mem_cons.mpr ⟨am_chk75, List.forall_mem_cons.mpr ⟨am_chk76, List.forall_mem_cons.mpr ⟨am_chk77, List.forall_mem_cons.mpr ⟨am_chk78, List.forall_mem_cons.mpr ⟨am_chk79, List.forall_mem_cons.mpr ⟨am_chk80, List.forall_mem_cons.mpr ⟨am_chk81, List.forall_mem_cons.mpr ⟨am_chk82, List.forall_mem_cons.mpr ⟨am_chk83, List.forall_mem_cons.mpr ⟨am_chk84, List.forall_mem_cons.mpr ⟨am_chk85, List.forall_mem_cons.mpr ⟨am_chk86, List.forall_mem_cons.mpr ⟨am_chk87, List.forall_mem_cons.mpr ⟨am_chk88, List.forall_mem_cons.mpr ⟨am_chk89, fun _ h => absurd h List.not_mem_nil⟩⟩⟩⟩⟩⟩⟩⟩⟩⟩⟩⟩⟩⟩⟩⟩⟩⟩⟩⟩⟩⟩⟩⟩⟩⟩⟩⟩⟩⟩
def am_prs3 : List (ByteArray × List (Nat × Instr)) := [(prog_12_method_9_code, am_cd90), (prog_12_method_10_code, am_cd91), (prog_12_method_12_code, am_cd92), (prog_12_method_14_code, am_cd93), (prog_12_method_15_code, am_cd94), (prog_12_method_13_code, am_cd95), (prog_12_method_11_code, am_cd96), (prog_12_method_8_code, am_cd97), (prog_12_method_5_code, am_cd98), (prog_12_method_6_code, am_cd99), (prog_12_method_7_code, am_cd100), (prog_3_method_4_code, am_cd101), (prog_9_method_3_code, am_cd102), (prog_11_method_8_code, am_cd103), (prog_11_method_3_code, am_cd104), (prog_8_method_4_code, am_cd105), (prog_1_method_9_code, am_cd106), (prog_1_method_21_code, am_cd107), (prog_8_method_6_code, am_cd108), (prog_8_method_7_code, am_cd109), (prog_9_method_4_code, am_cd110), (prog_1_method_22_code, am_cd111), (prog_1_method_10_code, am_cd112), (prog_9_method_6_code, am_cd113), (prog_1_method_11_code, am_cd114), (prog_8_method_5_code, am_cd115), (prog_1_method_12_code, am_cd116), (prog_9_method_5_code, am_cd117), (prog_3_method_5_code, am_cd118), (prog_1_method_13_code, am_cd119)]
theorem am_prs3_ok : ∀ q ∈ am_prs3, q.2.all (am_chk q.1) = true := List.forall_mem_cons.mpr ⟨am_chk90, List.forall_mem_cons.mpr ⟨am_chk91, List.forall_mem_cons.mpr ⟨am_chk92, List.forall_mem_cons.mpr ⟨am_chk93, List.forall_mem_cons.mpr ⟨am_chk94, List.forall_mem_cons.mpr ⟨am_chk95, List.forall_mem_cons.mpr ⟨am_chk96, List.forall_mem_cons.mpr ⟨am_chk97, List.forall_mem_cons.mpr ⟨am_chk98, List.forall_mem_cons.mpr ⟨am_chk99, List.forall_mem_cons.mpr ⟨am_chk100, List.forall_mem_cons.mpr ⟨am_chk101, List.forall_mem_cons.mpr ⟨am_chk102, List.forall_mem_cons.mpr ⟨am_chk103, List.forall_mem_cons.mpr ⟨am_chk104, List.forall_mem_cons.mpr ⟨am_chk105, List.forall_mem_cons.mpr ⟨am_chk106, List.forall_mem_cons.mpr ⟨am_chk107, List.forall_mem_cons.mpr ⟨am_chk108, List.forall_mem_cons.mpr ⟨am_chk109, List.forall_mem_cons.mpr ⟨am_chk110, List.forall_mem_cons.mpr ⟨am_chk111, List.forall_mem_cons.mpr ⟨am_chk112, List.forall_mem_cons.mpr ⟨am_chk113, List.forall_mem_cons.mpr ⟨am_chk114, List.forall_mem_cons.mpr ⟨am_chk115, List.forall_mem_cons.mpr ⟨am_chk116, List.forall_mem_cons.mpr ⟨am_chk117, List.forall_mem_cons.mpr ⟨am_chk118, List.forall_mem_cons.mpr ⟨am_chk119, fun _ h => absurd h List.not_mem_nil⟩⟩⟩⟩⟩⟩⟩⟩⟩⟩⟩⟩⟩⟩⟩⟩⟩⟩⟩⟩⟩⟩⟩⟩⟩⟩⟩⟩⟩⟩
def am_prs4 : List (ByteArray × List (Nat × Instr)) := [(prog_8_method_9_code, am_cd120), (prog_1_method_14_code, am_cd121), (prog_2_method_3_code, am_cd122), (prog_2_method_4_code, am_cd123), (prog_2_method_5_code, am_cd124), (prog_2_method_6_code, am_cd125), (prog_2_method_7_code, am_cd126), (prog_9_method_11_code, am_cd127), (prog_9_method_10_code, am_cd128), (prog_9_method_9_code, am_cd129), (prog_9_method_12_code, am_cd130), (prog_2_method_9_code, am_cd131), (prog_2_method_10_code, am_cd132), (prog_2_method_8_code, am_cd133), (prog_1_method_15_code, am_cd134), (prog_1_method_16_code, am_cd135), (prog_4_method_2_code, am_cd136), (prog_1_method_17_code, am_cd137), (prog_1_method_18_code, am_cd138), (prog_14_method_25_code, am_cd139), (prog_14_method_14_code, am_cd140), (prog_14_method_13_code, am_cd141), (prog_14_method_1_code, am_cd142), (prog_14_method_12_code, am_cd143), (prog_14_method_11_code, am_cd144), (prog_14_method_2_code, am_cd145), (prog_14_method_9_code, am_cd146), (prog_14_method_8_code, am_cd147), (prog_14_method_5_code, am_cd148), (prog_14_method_3_code, am_cd149)]
theorem am_prs4_ok : ∀ q ∈ am_prs4, q.2.all (am_chk q.1) = true := List.forall_mem_cons.mpr ⟨am_chk120, List.forall_mem_cons.mpr ⟨am_chk121, List.forall_mem_cons.mpr ⟨am_chk122, List.forall_mem_cons.mpr ⟨am_chk123, List.forall_mem_cons.mpr ⟨am_chk124, List.forall_mem_cons.mpr ⟨am_chk125, List.forall_mem_cons.mpr ⟨am_chk126, List.forall_mem_cons.mpr ⟨am_chk127, List.forall_mem_cons.mpr ⟨am_chk128, List.forall_mem_cons.mpr ⟨am_chk129, List.forall_mem_cons.mpr ⟨am_chk130, List.forall_mem_cons.mpr ⟨am_chk131, List.forall_mem_cons.mpr ⟨am_chk132, List.forall_mem_cons.mpr ⟨am_chk133, List.forall_mem_cons.mpr ⟨am_chk134, List.forall_mem_cons.mpr ⟨am_chk135, List.forall_mem_cons.mpr ⟨am_chk136, List.forall_mem_cons.mpr ⟨am_chk137, List.forall_mem_cons.mpr ⟨am_chk138, List.forall_mem_cons.mpr ⟨am_chk139, List.forall_mem_cons.mpr ⟨am_chk140, List.forall_mem_cons.mpr ⟨am_chk141, List.forall_mem_cons.mpr ⟨am_chk142, List.forall_mem_cons.mpr ⟨am_chk143, List.forall_mem_cons.mpr ⟨am_chk144, List.forall_mem_cons.mpr ⟨am_chk145, List.forall_mem_cons.mpr ⟨am_chk146, List.forall_mem_cons.mpr ⟨am_chk147, List.forall_mem_cons.mpr ⟨am_chk148, List.forall_mem_cons.mpr ⟨am_chk149, fun _ h => absurd h List.not_mem_nil⟩⟩⟩⟩⟩⟩⟩⟩⟩⟩⟩⟩⟩⟩⟩⟩⟩⟩⟩⟩⟩⟩⟩⟩⟩⟩⟩⟩⟩⟩
def am_prs5 : List (ByteArray × List (Nat × Instr)) := [(prog_14_method_6_code, am_cd150), (prog_14_method_4_code, am_cd151), (prog_14_method_10_code, am_cd152), (prog_14_method_26_code, am_cd153), (prog_14_method_36_code, am_cd154), (prog_14_method_27_code, am_cd155), (prog_14_method_28_code, am_cd156), (prog_14_method_35_code, am_cd157), (prog_14_method_33_code, am_cd158), (prog_14_method_29_code, am_cd159), (prog_14_method_32_code, am_cd160), (prog_14_method_30_code, am_cd161), (prog_14_method_31_code, am_cd162), (prog_14_method_34_code, am_cd163), (prog_14_method_38_code, am_cd164), (prog_14_method_37_code, am_cd165), (prog_14_method_39_code, am_cd166), (prog_14_method_40_code, am_cd167), (prog_14_method_41_code, am_cd168), (prog_14_method_51_code, am_cd169), (prog_14_method_49_code, am_cd170), (prog_14_method_45_code, am_cd171), (prog_14_method_48_code, am_cd172), (prog_14_method_43_code, am_cd173), (prog_14_method_42_code, am_cd174), (prog_14_method_47_code, am_cd175), (prog_14_method_16_code, am_cd176), (prog_14_method_7_code, am_cd177), (prog_14_method_19_code, am_cd178), (prog_14_method_18_code, am_cd179)]
theorem am_prs5_ok : ∀ q ∈ am_prs5, q.2.all (am_chk q.1) = true := List.forall_mem_cons.mpr ⟨am_chk150, List.forall_mem_cons.mpr ⟨am_chk151, List.forall_mem_cons.mpr ⟨am_chk152, List.forall_mem_cons.mpr ⟨am_chk153, List.forall_mem_cons.mpr ⟨am_chk154, List.forall_mem_cons.mpr ⟨am_chk155, List.forall_mem_cons.mpr ⟨am_chk156, List.forall_mem_cons.mpr ⟨am_chk157, List.forall_mem_cons.mpr ⟨am_chk158, List.forall_mem_cons.mpr ⟨am_chk159, List.forall_mem_cons.mpr ⟨am_chk160, List.forall_mem_cons.mpr ⟨am_chk161, List.forall_mem_cons.mpr ⟨am_chk162, List.forall_mem_cons.mpr ⟨am_chk163, List.forall_mem_cons.mpr ⟨am_chk164, List.forall_mem_cons.mpr ⟨am_chk165, List.forall_mem_cons.mpr ⟨am_chk166, List.forall_mem_cons.mpr ⟨am_chk167, List.forall_mem_cons.mpr ⟨am_chk168, List.forall_mem_cons.mpr ⟨am_chk169, List.forall_mem_cons.mpr ⟨am_chk170, List.forall_mem_cons.mpr ⟨am_chk171, List.forall_mem_cons.mpr ⟨am_chk172, List.forall_mem_cons.mpr ⟨am_chk173, List.forall_mem_cons.mpr ⟨am_chk174, List.forall_mem_cons.mpr ⟨am_chk175, List.forall_mem_cons.mpr ⟨am_chk176, List.forall_mem_cons.mpr ⟨am_chk177, List.forall_mem_cons.mpr ⟨am_chk178, List.forall_mem_cons.mpr ⟨am_chk179, fun _ h => absurd h List.not_mem_nil⟩⟩⟩⟩⟩⟩⟩⟩⟩⟩⟩⟩⟩⟩⟩⟩⟩⟩⟩⟩⟩⟩⟩⟩⟩⟩⟩⟩⟩⟩
def am_prs6 : List (ByteArray × List (Nat × Instr)) := [(prog_14_method_46_code, am_cd180), (prog_14_method_20_code, am_cd181), (prog_14_method_44_code, am_cd182), (prog_14_method_50_code, am_cd183), (prog_14_method_15_code, am_cd184), (prog_14_method_57_code, am_cd185), (prog_14_method_21_code, am_cd186), (prog_14_method_56_code, am_cd187), (prog_14_method_54_code, am_cd188), (prog_14_method_52_code, am_cd189), (prog_14_method_53_code, am_cd190), (prog_14_method_17_code, am_cd191), (prog_14_method_55_code, am_cd192), (prog_14_method_59_code, am_cd193), (prog_14_method_58_code, am_cd194), (prog_14_method_24_code, am_cd195), (prog_14_method_23_code, am_cd196), (prog_14_method_22_code, am_cd197), (prog_14_method_60_code, am_cd198), (prog_14_method_61_code, am_cd199), (prog_14_method_62_code, am_cd200), (prog_14_method_63_code, am_cd201), (prog_14_method_64_code, am_cd202), (prog_14_method_65_code, am_cd203), (prog_14_method_67_code, am_cd204), (prog_14_method_66_code, am_cd205), (prog_14_method_68_code, am_cd206), (prog_14_method_69_code, am_cd207), (code, am_cd208)]
theorem am_prs6_ok : ∀ q ∈ am_prs6, q.2.all (am_chk q.1) = true := List.forall_mem_cons.mpr ⟨am_chk180, List.forall_mem_cons.mpr ⟨am_chk181, List.forall_mem_cons.mpr ⟨am_chk182, List.forall_mem_cons.mpr ⟨am_chk183, List.forall_mem_cons.mpr ⟨am_chk184, List.forall_mem_cons.mpr ⟨am_chk185, List.forall_mem_cons.mpr ⟨am_chk186, List.forall_mem_cons.mpr ⟨am_chk187, List.forall_mem_cons.mpr ⟨am_chk188, List.forall_mem_cons.mpr ⟨am_chk189, List.forall_mem_cons.mpr ⟨am_chk190, List.forall_mem_cons.mpr ⟨am_chk191, List.forall_mem_cons.mpr ⟨am_chk192, List.forall_mem_cons.mpr ⟨am_chk193, List.forall_mem_cons.mpr ⟨am_chk194, List.forall_mem_cons.mpr ⟨am_chk195, List.forall_mem_cons.mpr ⟨am_chk196, List.forall_mem_cons.mpr ⟨am_chk197, List.forall_mem_cons.mpr ⟨am_chk198, List.forall_mem_cons.mpr ⟨am_chk199, List.forall_mem_cons.mpr ⟨am_chk200, List.forall_mem_cons.mpr ⟨am_chk201, List.forall_mem_cons.mpr ⟨am_chk202, List.forall_mem_cons.mpr ⟨am_chk203, List.forall_mem_cons.mpr ⟨am_chk204, List.forall_mem_cons.mpr ⟨am_chk205, List.forall_mem_cons.mpr ⟨am_chk206, List.forall_mem_cons.mpr ⟨am_chk207, List.forall_mem_cons.mpr ⟨am_chk208, fun _ h => absurd h List.not_mem_nil⟩⟩⟩⟩⟩⟩⟩⟩⟩⟩⟩⟩⟩⟩⟩⟩⟩⟩⟩⟩⟩⟩⟩⟩⟩⟩⟩⟩⟩
theorem am_prs_eq : am_prs = am_prs0 ++ (am_prs1 ++ (am_prs2 ++ (am_prs3 ++ (am_prs4 ++ (am_prs5 ++ (am_prs6)))))) := by
  simp only [am_prs, am_prs0, am_prs1, am_prs2, am_prs3, am_prs4, am_prs5, am_prs6, List.cons_append, List.nil_append]
theorem am_prs_ok : ∀ q ∈ am_prs, q.2.all (am_chk q.1) = true := by
  intro q h
  rw [am_prs_eq] at h
  exact (List.mem_append.mp h).elim (am_prs0_ok q) (fun h => (List.mem_append.mp h).elim (am_prs1_ok q) (fun h => (List.mem_append.mp h).elim (am_prs2_ok q) (fun h => (List.mem_append.mp h).elim (am_prs3_ok q) (fun h => (List.mem_append.mp h).elim (am_prs4_ok q) (fun h => (List.mem_append.mp h).elim (am_prs5_ok q) (fun h => am_prs6_ok q h))))))
theorem am_fdc_mem : ∀ {l : List (Nat × Instr)} {x : Nat} {i : Instr}, am_fdc l x = some i → (x, i) ∈ l
  | [], _, _, h => by cases h
  | q :: r, x, i, h => by
    unfold am_fdc at h
    split at h
    · rename_i hb
      have e1 := Nat.eq_of_beq_eq_true hb
      have e2 : q.2 = i := Option.some.inj h
      have e3 : q = (x, i) := by rw [← e1, ← e2]
      rw [e3]
      exact List.mem_cons_self
    · exact List.mem_cons_of_mem _ (am_fdc_mem h)
theorem am_code_ok {k pc : Nat} {i : Instr} (h : am_code k pc = some i) : ∃ len, decode (am_bytes k) pc = .ok (i, len) ∧ (am_len i = 0 ∨ len = am_len i) := by
  unfold am_code at h
  split at h
  · rename_i q hq
    have h1 := List.all_eq_true.mp (am_prs_ok q (List.mem_of_getElem? hq)) _ (am_fdc_mem h)
    have hb : am_bytes k = q.1 := by unfold am_bytes; rw [hq]
    rw [hb]
    unfold am_chk at h1
    dsimp only at h1
    split at h1
    · rename_i i1 len hd
      rw [Bool.and_eq_true, Bool.or_eq_true] at h1
      have e1 : i1 = i := of_decide_eq_true h1.1
      subst e1
      refine ⟨len, hd, ?_⟩
      rcases h1.2 with g | g
      · exact Or.inl (eq_of_beq g)
      · exact Or.inr (eq_of_beq g)
    · cases h1
  · cases h
end
section
/-! THE PLAIN MACHINE. A heap is a list of cells, a reference is a cell's place in it; am_step does one instruction.
What is proved of it here (am_sound): whatever the plain machine comes to, the machine of the claim comes to. -/
abbrev am_H : Type := List va_E
/-- pc, locals, stack, heap -/
abbrev am_S : Type := Nat × List Value × List Value × am_H
/-- a local that holds nothing that may be read -/
abbrev am_U : Value := .retAddr 1
/-- the script, seen from the law -/
abbrev am_X : Value := .retAddr 0
/-- the same without the locals -/
abbrev am_P : Type := Nat × List Value × am_H
def am_nx (pc : Nat) (st : List Value) (h : am_H) : Option am_P := some (pc, st, h)
def am_nl (pc : Nat) (ls st : List Value) (h : am_H) : Option am_S := some (pc, ls, st, h)
def am_jmp (pc : Nat) (off : Int) : Option Nat := if 0 ≤ (pc : Int) + off then some ((pc : Int) + off).toNat else none
def am_go (pc : Nat) (off : Int) (st : List Value) (h : am_H) : Option am_P := match am_jmp pc off with
  | some t => am_nx t st h
  | none => none
def am_br (b : Bool) (pc : Nat) (off : Int) (st : List Value) (h : am_H) : Option am_P := match am_jmp pc off with
  | some t => match b with
    | true => am_nx t st h
    | false => am_nx (pc + 3) st h
  | none => none
/-- a value of two slots just below place x is spoilt by a store at x -/
def am_cut (ls : List Value) (x : Nat) : List Value := match x with
  | 0 => ls
  | y + 1 => match ls[y]? with
    | some (.long _) => ls.set y am_U
    | some (.double _) => ls.set y am_U
    | _ => ls
def am_p1 (ls : List Value) (x : Nat) (v : Value) : List Value := (am_cut ls x).set x v
def am_p2 (ls : List Value) (x : Nat) (v : Value) : List Value := ((am_cut ls x).set x v).set (x + 1) am_U
def am_i1 {α : Type} (st : List Value) (f : Int32 → List Value → Option α) : Option α := match st with
  | .int x :: r => f x r
  | _ => none
def am_i2 {α : Type} (st : List Value) (f : Int32 → Int32 → List Value → Option α) : Option α := match st with
  | .int y :: .int x :: r => f x y r
  | _ => none
def am_l1 {α : Type} (st : List Value) (f : Int64 → List Value → Option α) : Option α := match st with
  | .long x :: r => f x r
  | _ => none
def am_l2 {α : Type} (st : List Value) (f : Int64 → Int64 → List Value → Option α) : Option α := match st with
  | .long y :: .long x :: r => f x y r
  | _ => none
/-- a long below an int: shifts -/
def am_s2 {α : Type} (st : List Value) (f : Int64 → Int32 → List Value → Option α) : Option α := match st with
  | .int y :: .long x :: r => f x y r
  | _ => none
def am_r1 {α : Type} (st : List Value) (f : Nat → List Value → Option α) : Option α := match st with
  | .ref a :: r => f a r
  | _ => none
def am_r2 {α : Type} (st : List Value) (f : Nat → Nat → List Value → Option α) : Option α := match st with
  | .ref b :: .ref a :: r => f a b r
  | _ => none
def am_gi {α : Type} (ls : List Value) (x : Nat) (f : Int32 → Option α) : Option α := match ls[x]? with
  | some (.int v) => f v
  | _ => none
def am_gl {α : Type} (ls : List Value) (x : Nat) (f : Int64 → Option α) : Option α := match ls[x]? with
  | some (.long v) => f v
  | _ => none
def am_ga {α : Type} (ls : List Value) (x : Nat) (f : Value → Option α) : Option α := match ls[x]? with
  | some (.ref a) => f (.ref a)
  | some (.retAddr 0) => f am_X
  | _ => none
/-- is x outside of n places? -/
def am_out (x : Int32) (n : Nat) : Bool := decide (x < 0) || decide (n ≤ x.toNatClampNeg)
def am_iald {α : Type} (X : Nat × (Nat → Int32)) (st : List Value) (h : am_H) (k : Int32 → List Value → Option α) : Option α := match st with
  | .int i :: .ref a :: r => match h[a]? with
    | some (.inl (0, n, .inl f)) => match am_out i n with
      | true => none
      | false => k (f i.toNatClampNeg) r
    | _ => none
  | .int i :: .retAddr 0 :: r => match am_out i X.1 with
    | true => none
    | false => k (X.2 i.toNatClampNeg) r
  | _ => none
def am_lald {α : Type} (st : List Value) (h : am_H) (k : Int64 → List Value → Option α) : Option α := match st with
  | .int i :: .ref a :: r => match h[a]? with
    | some (.inl (1, n, .inr (.inl f))) => match am_out i n with
      | true => none
      | false => k (f i.toNatClampNeg) r
    | _ => none
  | _ => none
def am_iast {α : Type} (st : List Value) (h : am_H) (k : List Value → am_H → Option α) : Option α := match st with
  | .int x :: .int i :: .ref a :: r => match h[a]? with
    | some (.inl (0, n, .inl f)) => match am_out i n with
      | true => none
      | false => k r (h.set a (.inl (0, n, .inl (upd f i.toNatClampNeg x))))
    | _ => none
  | _ => none
def am_last {α : Type} (st : List Value) (h : am_H) (k : List Value → am_H → Option α) : Option α := match st with
  | .long x :: .int i :: .ref a :: r => match h[a]? with
    | some (.inl (1, n, .inr (.inl f))) => match am_out i n with
      | true => none
      | false => k r (h.set a (.inl (1, n, .inr (.inl (vp_updL f i.toNatClampNeg x)))))
    | _ => none
  | _ => none
def am_alen {α : Type} (X : Nat × (Nat → Int32)) (st : List Value) (h : am_H) (k : Int32 → List Value → Option α) : Option α := match st with
  | .ref a :: r => match h[a]? with
    | some (.inl (0, n, _)) => k (Int32.ofNat n) r
    | some (.inl (1, n, _)) => k (Int32.ofNat n) r
    | _ => none
  | .retAddr 0 :: r => k (Int32.ofNat X.1) r
  | _ => none
def am_zald {α : Type} (st : List Value) (h : am_H) (k : Int32 → List Value → Option α) : Option α := match st with
  | .int i :: .ref a :: r => match h[a]? with
    | some (.inl (2, n, .inl f)) => match am_out i n with
      | true => none
      | false => k (f i.toNatClampNeg) r
    | _ => none
  | _ => none
def am_zast {α : Type} (st : List Value) (h : am_H) (k : List Value → am_H → Option α) : Option α := match st with
  | .int x :: .int i :: .ref a :: r => match h[a]? with
    | some (.inl (2, n, .inl f)) => match am_out i n || !(decide (x &&& 1 = x)) with
      | true => none
      | false => k r (h.set a (.inl (2, n, .inl (upd f i.toNatClampNeg x))))
    | _ => none
  | _ => none
/-- a new array of a kind: ints, longs, booleans -/
def am_newa {α : Type} (t : ArrayType) (st : List Value) (h : am_H) (k : Nat → List Value → am_H → Option α) : Option α := match st with
  | .int x :: r => match decide (x < 0) || decide (1000000 < x.toNatClampNeg) with
    | true => none
    | false => match t with
      | .int => k h.length r (h ++ [.inl (0, x.toNatClampNeg, .inl fun _ => 0)])
      | .long => k h.length r (h ++ [.inl (1, x.toNatClampNeg, .inr (.inl fun _ => 0))])
      | .boolean => k h.length r (h ++ [.inl (2, x.toNatClampNeg, .inl fun _ => 0)])
      | _ => none
  | _ => none
def am_getf {α : Type} (q : Option (Nat × Nat)) (st : List Value) (h : am_H) (k : Value → List Value → Option α) : Option α := match q with
  | none => none
  | some (ci, f) => match st with
    | .ref a :: r => match h[a]? with
      | some (.inr (c, fs)) => match c == ci with
        | true => match fs[f]? with
          | some v => k v r
          | none => none
        | false => none
      | _ => none
    | _ => none
/-- a final field is written by a constructor of its own class alone -/
def am_putf {α : Type} (k0 : Nat) (q : Option (Nat × Nat)) (st : List Value) (h : am_H) (k : List Value → am_H → Option α) : Option α := match q with
  | none => none
  | some (ci, f) => match st with
    | v :: .ref a :: r => match h[a]? with
      | some (.inr (c, fs)) => match (c == ci) && decide (f < fs.length) && (!(am_fin ci f) || am_ctor k0 ci) && decide (narrow (am_fty ci f) v = v) && fits (am_fty ci f) v with
        | true => k r (h.set a (.inr (c, fs.set f v)))
        | false => none
      | _ => none
    | _ => none
def am_low (st : List Value) : Bool := decide ((st.map fun v => v.category).sum ≤ 8)
/-- method k may call method k' -/
def am_may (k k' : Nat) : Bool := Nat.ble (am_fr k' + 1) (am_fr k) && Nat.ble (19 + am_mxl k' + am_lc k') (am_lc k)
/-- a call: 0 static, 1 of an object, 2 a constructor: the method, its arguments, the state behind it without its answer -/
def am_inv (k kind : Nat) (q : Option (Nat × Nat × Nat)) (pc : Nat) (ls st : List Value) (h : am_H) : Option (Nat × List Value × am_S) := match q with
  | none => none
  | some (kd, k', np) => match (kd == kind) && decide (np ≤ st.length) && am_may k k' with
    | false => none
    | true => match kind with
      | 0 => match am_low (st.drop np) with
        | true => some (k', (st.take np).reverse, (pc + 3, ls, st.drop np, h))
        | false => none
      | 1 => match st.drop np with
        | .ref a :: r => match h[a]? with
          | some (.inr (c, _)) => match (c == am_rcv k') && am_low r with
            | true => some (k', .ref a :: (st.take np).reverse, (pc + 3, ls, r, h))
            | false => none
          | _ => none
        | _ => none
      | 2 => match st.drop np with
        | .ref a :: r => match am_low r with
          | true => some (k', .ref a :: (st.take np).reverse, (pc + 3, ls, r, h))
          | false => none
        | _ => none
      | _ => none
/-- Math's own: 0 max, 1 min of ints, 5 abs of a long -/
def am_math {α : Type} (op : Nat) (st : List Value) (k : Value → List Value → Option α) : Option α := match op with
  | 0 => am_i2 st fun x y r => k (.int (if x < y then y else x)) r
  | 1 => am_i2 st fun x y r => k (.int (if y < x then y else x)) r
  | 5 => am_l1 st fun x r => k (.long (if 0 < x then x else -x)) r
  | _ => none
/-- an instruction of method k that leaves the locals alone -/
def am_dp (X : Nat × (Nat → Int32)) (k : Nat) (i : Instr) (pc : Nat) (st : List Value) (h : am_H) : Option am_P := match i with
  | .aconst_null => am_nx (pc + 1) (.null :: st) h
  | .iconst n => am_nx (pc + 1) (.int (Int32.ofInt n) :: st) h
  | .bipush n => am_nx (pc + 2) (.int (Int8.ofInt n).toInt32 :: st) h
  | .sipush n => am_nx (pc + 3) (.int (Int16.ofInt n).toInt32 :: st) h
  | .lconst n => am_nx (pc + 1) (.long (Int64.ofNat (n : Nat)) :: st) h
  | .ldc j => match am_ldi (am_own k) j with
    | some v => am_nx (pc + 2) (.int v :: st) h
    | none => none
  | .ldc2_w j => match am_ldl (am_own k) j with
    | some v => am_nx (pc + 3) (.long v :: st) h
    | none => none
  | .dup => match st with
    | v :: r => if v.category = 1 then am_nx (pc + 1) (v :: v :: r) h else none
    | _ => none
  | .dup_x1 => match st with
    | v :: w :: r => if v.category = 1 ∧ w.category = 1 then am_nx (pc + 1) (v :: w :: v :: r) h else none
    | _ => none
  | .dup_x2 => match st with
    | v :: w :: u :: r => if v.category = 1 ∧ w.category = 1 ∧ u.category = 1 then am_nx (pc + 1) (v :: w :: u :: v :: r) h else none
    | _ => none
  | .dup2 => match st with
    | .long x :: r => am_nx (pc + 1) (.long x :: .long x :: r) h
    | v :: w :: r => if v.category = 1 ∧ w.category = 1 then am_nx (pc + 1) (v :: w :: v :: w :: r) h else none
    | _ => none
  | .dup2_x1 => match st with
    | .long x :: w :: r => if w.category = 1 then am_nx (pc + 1) (.long x :: w :: .long x :: r) h else none
    | _ => none
  | .dup2_x2 => match st with
    | .long x :: w :: u :: r => if w.category = 1 ∧ u.category = 1 then am_nx (pc + 1) (.long x :: w :: u :: .long x :: r) h else none
    | _ => none
  | .pop => match st with
    | v :: r => if v.category = 1 then am_nx (pc + 1) r h else none
    | _ => none
  | .pop2 => match st with
    | .long _ :: r => am_nx (pc + 1) r h
    | _ => none
  | .iadd => am_i2 st fun x y r => am_nx (pc + 1) (.int (x + y) :: r) h
  | .isub => am_i2 st fun x y r => am_nx (pc + 1) (.int (x - y) :: r) h
  | .imul => am_i2 st fun x y r => am_nx (pc + 1) (.int (x * y) :: r) h
  | .iand => am_i2 st fun x y r => am_nx (pc + 1) (.int (x &&& y) :: r) h
  | .ior => am_i2 st fun x y r => am_nx (pc + 1) (.int (x ||| y) :: r) h
  | .ixor => am_i2 st fun x y r => am_nx (pc + 1) (.int (x ^^^ y) :: r) h
  | .idiv => am_i2 st fun x y r => if y = 0 then none else am_nx (pc + 1) (.int (x / y) :: r) h
  | .irem => am_i2 st fun x y r => if y = 0 then none else am_nx (pc + 1) (.int (x - x / y * y) :: r) h
  | .ineg => am_i1 st fun x r => am_nx (pc + 1) (.int (-x) :: r) h
  | .ishl => am_i2 st fun x y r => am_nx (pc + 1) (.int (x <<< (y &&& 31)) :: r) h
  | .ishr => am_i2 st fun x y r => am_nx (pc + 1) (.int (x >>> (y &&& 31)) :: r) h
  | .iushr => am_i2 st fun x y r => am_nx (pc + 1) (.int ((x.toUInt32 >>> (y.toUInt32 &&& Int32.toUInt32 31)).toInt32) :: r) h
  | .ladd => am_l2 st fun x y r => am_nx (pc + 1) (.long (x + y) :: r) h
  | .lsub => am_l2 st fun x y r => am_nx (pc + 1) (.long (x - y) :: r) h
  | .lmul => am_l2 st fun x y r => am_nx (pc + 1) (.long (x * y) :: r) h
  | .land => am_l2 st fun x y r => am_nx (pc + 1) (.long (x &&& y) :: r) h
  | .lor => am_l2 st fun x y r => am_nx (pc + 1) (.long (x ||| y) :: r) h
  | .lxor => am_l2 st fun x y r => am_nx (pc + 1) (.long (x ^^^ y) :: r) h
  | .ldiv => am_l2 st fun x y r => if y = 0 then none else am_nx (pc + 1) (.long (x / y) :: r) h
  | .lrem => am_l2 st fun x y r => if y = 0 then none else am_nx (pc + 1) (.long (x - x / y * y) :: r) h
  | .lneg => am_l1 st fun x r => am_nx (pc + 1) (.long (-x) :: r) h
  | .lshl => am_s2 st fun x y r => am_nx (pc + 1) (.long (x <<< (y.toInt64 &&& 63)) :: r) h
  | .lshr => am_s2 st fun x y r => am_nx (pc + 1) (.long (x >>> (y.toInt64 &&& 63)) :: r) h
  | .lushr => am_s2 st fun x y r => am_nx (pc + 1) (.long ((x.toUInt64 >>> (y.toInt64.toUInt64 &&& Int64.toUInt64 63)).toInt64) :: r) h
  | .i2l => am_i1 st fun x r => am_nx (pc + 1) (.long x.toInt64 :: r) h
  | .l2i => am_l1 st fun x r => am_nx (pc + 1) (.int x.toInt32 :: r) h
  | .i2b => am_i1 st fun x r => am_nx (pc + 1) (.int x.toInt8.toInt32 :: r) h
  | .i2s => am_i1 st fun x r => am_nx (pc + 1) (.int x.toInt16.toInt32 :: r) h
  | .i2c => am_i1 st fun x r => am_nx (pc + 1) (.int (x.toUInt32 % 65536).toInt32 :: r) h
  | .lcmp => am_l2 st fun x y r => am_nx (pc + 1) (.int (lg_cmp x y) :: r) h
  | .ifCond cn off => am_i1 st fun x r => match cn with
    | .eq => am_br (decide (x = 0)) pc off r h
    | .ne => am_br (decide (¬ x = 0)) pc off r h
    | .lt => am_br (decide (x < 0)) pc off r h
    | .ge => am_br (decide (0 ≤ x)) pc off r h
    | .gt => am_br (decide (0 < x)) pc off r h
    | .le => am_br (decide (x ≤ 0)) pc off r h
  | .if_icmp cn off => am_i2 st fun x y r => match cn with
    | .eq => am_br (decide (x = y)) pc off r h
    | .ne => am_br (decide (¬ x = y)) pc off r h
    | .lt => am_br (decide (x < y)) pc off r h
    | .ge => am_br (decide (y ≤ x)) pc off r h
    | .gt => am_br (decide (y < x)) pc off r h
    | .le => am_br (decide (x ≤ y)) pc off r h
  | .if_acmp cn off => am_r2 st fun a b r => match cn with
    | .eq => am_br (decide (a = b)) pc off r h
    | .ne => am_br (decide (¬ a = b)) pc off r h
  | .goto off => am_go pc off st h
  | .tableswitch d lo hi offs => am_i1 st fun x r => if x.toInt < lo ∨ hi < x.toInt then am_go pc d r h else match offs[(x.toInt - lo).toNat]? with
    | some off => am_go pc off r h
    | none => none
  | .lookupswitch d ps => am_i1 st fun x r => if (ps.toList.zip (ps.toList.drop 1)).all (fun (a, next) => a.1 < next.1) = true then am_go pc (Op.lookupswitch.offset ps.toList d x.toInt) r h else none
  | .iaload => am_iald X st h fun v r => am_nx (pc + 1) (.int v :: r) h
  | .laload => am_lald st h fun v r => am_nx (pc + 1) (.long v :: r) h
  | .iastore => am_iast st h fun r h' => am_nx (pc + 1) r h'
  | .baload => am_zald st h fun v r => am_nx (pc + 1) (.int v :: r) h
  | .bastore => am_zast st h fun r h' => am_nx (pc + 1) r h'
  | .lastore => am_last st h fun r h' => am_nx (pc + 1) r h'
  | .arraylength => am_alen X st h fun v r => am_nx (pc + 1) (.int v :: r) h
  | .newarray t => am_newa t st h fun a r h' => am_nx (pc + 2) (.ref a :: r) h'
  | .new j => match am_newc (am_own k) j with
    | some ci => am_nx (pc + 3) (.ref h.length :: st) (h ++ [.inr (ci, am_dfl ci)])
    | none => none
  | .getfield j => am_getf (am_fld (am_own k) j) st h fun v r => am_nx (pc + 3) (v :: r) h
  | .putfield j => am_putf k (am_fld (am_own k) j) st h fun r h' => am_nx (pc + 3) r h'
  | .invokestatic j => match am_met (am_own k) j with
    | some (4, op, _) => am_math op st fun v r => if (am_low r && Nat.ble 1 (am_fr k) && Nat.ble 21 (am_lc k)) = true then am_nx (pc + 3) (v :: r) h else none
    | _ => none
  | .invokespecial j => match am_met (am_own k) j with
    | some (3, _, _) => am_r1 st fun _ r => if (am_low r && Nat.ble 1 (am_fr k) && Nat.ble 20 (am_lc k)) = true then am_nx (pc + 3) r h else none
    | _ => none
  | _ => none
/-- an instruction that reads or writes locals -/
def am_dl (i : Instr) (pc : Nat) (ls st : List Value) (h : am_H) : Option am_S := match i with
  | .iload x => am_gi ls x fun v => am_nl (pc + 2) ls (.int v :: st) h
  | .iload_n x => am_gi ls x fun v => am_nl (pc + 1) ls (.int v :: st) h
  | .lload x => am_gl ls x fun v => am_nl (pc + 2) ls (.long v :: st) h
  | .lload_n x => am_gl ls x fun v => am_nl (pc + 1) ls (.long v :: st) h
  | .aload x => am_ga ls x fun v => am_nl (pc + 2) ls (v :: st) h
  | .aload_n x => am_ga ls x fun v => am_nl (pc + 1) ls (v :: st) h
  | .istore x => am_i1 st fun v r => if x < ls.length then am_nl (pc + 2) (am_p1 ls x (.int v)) r h else none
  | .istore_n x => am_i1 st fun v r => if (x : Nat) < ls.length then am_nl (pc + 1) (am_p1 ls x (.int v)) r h else none
  | .lstore x => am_l1 st fun v r => if x + 1 < ls.length then am_nl (pc + 2) (am_p2 ls x (.long v)) r h else none
  | .lstore_n x => am_l1 st fun v r => if (x : Nat) + 1 < ls.length then am_nl (pc + 1) (am_p2 ls x (.long v)) r h else none
  | .astore x => am_r1 st fun a r => if x < ls.length then am_nl (pc + 2) (am_p1 ls x (.ref a)) r h else none
  | .astore_n x => am_r1 st fun a r => if (x : Nat) < ls.length then am_nl (pc + 1) (am_p1 ls x (.ref a)) r h else none
  | .iinc x n => am_gi ls x fun v => am_nl (pc + 3) (am_p1 ls x (.int (v + Int32.ofInt n))) st h
  | _ => none
/-- one instruction of method k -/
def am_do (X : Nat × (Nat → Int32)) (k : Nat) (i : Instr) (pc : Nat) (ls st : List Value) (h : am_H) : Option am_S := match am_dp X k i pc st h with
  | some (pc', st', h') => some (pc', ls, st', h')
  | none => am_dl i pc ls st h
/-- a return -/
def am_rt (k : Nat) (i : Instr) (st : List Value) (h : am_H) : Option (Option Value × am_H) := match i with
  | .ireturn => match st with
    | [.int v] => match am_ret k with
      | some ty => if narrow ty (.int v) = .int v then some (some (.int v), h) else none
      | none => none
    | _ => none
  | .lreturn => match st with
    | [.long v] => if am_ret k = some .long then some (some (.long v), h) else none
    | _ => none
  | .areturn => match st with
    | [.ref a] => match am_ret k with
      | some (.object _) => some (some (.ref a), h)
      | some (.array _) => some (some (.ref a), h)
      | _ => none
    | _ => none
  | .return_ => match st with
    | [] => if am_ret k = none then some (none, h) else none
    | _ => none
  | _ => none
/-- a call -/
def am_cl (k : Nat) (i : Instr) (pc : Nat) (ls st : List Value) (h : am_H) : Option (Nat × List Value × am_S) := match i with
  | .invokestatic j => am_inv k 0 (am_met (am_own k) j) pc ls st h
  | .invokevirtual j => am_inv k 1 (am_met (am_own k) j) pc ls st h
  | .invokespecial j => am_inv k 2 (am_met (am_own k) j) pc ls st h
  | _ => none
/-- n instructions of method k, from a state to an answer and a heap; C says what the methods that it calls come to -/
def am_run (X : Nat × (Nat → Int32)) (C : Nat → List Value → am_H → Option Value × am_H → Prop) (k : Nat) : Nat → am_S → Option Value × am_H → Prop
  | 0, _, _ => False
  | n + 1, σ, ρ => ∃ i, am_code k σ.1 = some i ∧
    ((∃ σ', am_do X k i σ.1 σ.2.1 σ.2.2.1 σ.2.2.2 = some σ' ∧ am_run X C k n σ' ρ) ∨ am_rt k i σ.2.2.1 σ.2.2.2 = some ρ ∨
      ∃ k' as pc ls st h r h', am_cl k i σ.1 σ.2.1 σ.2.2.1 σ.2.2.2 = some (k', as, (pc, ls, st, h)) ∧ C k' as h (r, h') ∧ am_run X C k n (pc, ls, r.toList ++ st, h') ρ)
def am_lay : List Value → List Value
  | [] => []
  | v :: r => if v.category = 2 then v :: am_U :: am_lay r else v :: am_lay r
def am_ent (as : List Value) (n : Nat) : List Value := am_lay as ++ List.replicate (n - (am_lay as).length) am_U
/-- method k on these arguments and this heap comes, with at most d frames, to this answer and this heap -/
def am_call (X : Nat × (Nat → Int32)) : Nat → Nat → List Value → am_H → Option Value × am_H → Prop
  | 0, _, _, _, _ => False
  | d + 1, k, as, h, ρ => (am_lay as).length ≤ am_mxl k ∧ ∃ n, am_run X (am_call X d) k n (0, am_ent as (am_mxl k), [], h) ρ
end
section
/-! THE PLAIN MACHINE AND THE CLAIM'S: how their states lie to each other -/
def am_v (b0 base : Nat) (v : Value) : Value := match v with
  | .ref i => .ref (base + i)
  | .retAddr _ => .ref b0
  | w => w
def am_e (dA : Nat → ClassId) (b0 base : Nat) (c : va_E) : va_E := match c with
  | .inl (k, a) => .inl (dA k, a)
  | .inr (ci, fs) => .inr (ci, fs.map (am_v b0 base))
def am_ws (dA : Nat → ClassId) (b0 base : Nat) (h : am_H) : va_W := h.mapIdx (fun i c => (base + i, am_e dA b0 base c))
/-- slots of a cell, of a heap -/
def am_cs (c : va_E) : Nat := match c with
  | .inl (_, n, _) => n
  | .inr (_, fs) => fs.length
def am_sz (h : am_H) : Nat := (h.map am_cs).sum
def am_A (base : Nat) : Nat → Prop := fun q => base ≤ q
def am_Wd (D : va_G) (dA : Nat → ClassId) (b0 base : Nat) (h : am_H) (H : Heap) : Prop := H.size = base + h.length ∧ va_P D vwCl (am_ws dA b0 base h) H
def am_L (b0 base : Nat) (ls : List Value) (rl : Array Slot) : Prop := ∃ lv : List (Nat × Value), lv_has rl ls.length lv ∧ ∀ (i : Nat) (v : Value), ls[i]? = some v → v ≠ am_U → (i, am_v b0 base v) ∈ lv
theorem am_v_cat (b0 base : Nat) (v : Value) : (am_v b0 base v).category = v.category := by cases v <;> rfl
theorem am_ws_get (dA : Nat → ClassId) (b0 base : Nat) (h : am_H) (i : Nat) : (am_ws dA b0 base h)[i]? = (h[i]?).map (fun c => (base + i, am_e dA b0 base c)) := by
  simp [am_ws, List.getElem?_mapIdx]
theorem am_ws_set (dA : Nat → ClassId) (b0 base : Nat) (h : am_H) (i : Nat) (c : va_E) : am_ws dA b0 base (h.set i c) = (am_ws dA b0 base h).set i (base + i, am_e dA b0 base c) := by
  apply List.ext_getElem?
  intro j
  rw [am_ws_get, List.getElem?_set, List.getElem?_set, am_ws_get]
  by_cases hij : i = j
  · subst hij
    simp only [if_true]
    by_cases hl : i < h.length
    · have hl2 : i < (am_ws dA b0 base h).length := by simpa [am_ws] using hl
      simp [hl, hl2]
    · have hl2 : ¬ i < (am_ws dA b0 base h).length := by simpa [am_ws] using hl
      simp [hl, hl2]
  · simp [hij]
theorem am_ws_len (dA : Nat → ClassId) (b0 base : Nat) (h : am_H) : (am_ws dA b0 base h).length = h.length := by simp [am_ws]
theorem am_ws_app (dA : Nat → ClassId) (b0 base : Nat) (h : am_H) (c : va_E) : am_ws dA b0 base (h ++ [c]) = am_ws dA b0 base h ++ [(base + h.length, am_e dA b0 base c)] := by
  simp [am_ws, List.mapIdx_append]
theorem am_D (dA : Nat → ClassId) (b0 base : Nat) (h : am_H) : va_D (am_A base) (am_ws dA b0 base h) := by
  have key : ∀ (i : Nat) (q : Nat × va_E), (am_ws dA b0 base h)[i]? = some q → q.1 = base + i := by
    intro i q hq
    rw [am_ws_get] at hq
    cases hc : h[i]? with
    | none => rw [hc] at hq; cases hq
    | some c => rw [hc] at hq; cases hq; rfl
  refine ⟨fun i j p q hp hq e => ?_, fun k q hq => ?_⟩
  · have h1 := key i p hp
    have h2 := key j q hq
    omega
  · show base ≤ q.1
    rw [key k q hq]
    omega
theorem am_sz_set {h : am_H} {i : Nat} {c c' : va_E} (hi : h[i]? = some c) (hc : am_cs c' = am_cs c) : am_sz (h.set i c') = am_sz h := by
  induction h generalizing i with
  | nil => cases hi
  | cons x r ih => cases i with
    | zero => cases hi; simp [am_sz, hc]
    | succ j =>
      have ih' := ih (i := j) hi
      unfold am_sz at ih' ⊢
      show (List.map am_cs (x :: r.set j c')).sum = (List.map am_cs (x :: r)).sum
      rw [List.map_cons, List.map_cons, List.sum_cons, List.sum_cons, ih']
theorem am_sz_app (h : am_H) (c : va_E) : am_sz (h ++ [c]) = am_sz h + am_cs c := by simp [am_sz]
theorem am_L.get {b0 base : Nat} {ls : List Value} {rl : Array Slot} (h : am_L b0 base ls rl) {i : Nat} {v : Value} (hi : ls[i]? = some v) (hv : v ≠ am_U) : rl[i]? = some (.val (am_v b0 base v)) := by
  obtain ⟨lv, h1, h2⟩ := h
  exact h1.2.2 _ (h2 i v hi hv)
theorem am_L.size {b0 base : Nat} {ls : List Value} {rl : Array Slot} (h : am_L b0 base ls rl) : rl.size = ls.length := h.choose_spec.1.1
theorem am_cut_len (ls : List Value) (x : Nat) : (am_cut ls x).length = ls.length := by
  cases x with
  | zero => rfl
  | succ y =>
    show (match ls[y]? with
      | some (.long _) => ls.set y am_U
      | some (.double _) => ls.set y am_U
      | _ => ls).length = ls.length
    split <;> simp
theorem am_p1_len (ls : List Value) (x : Nat) (v : Value) : (am_p1 ls x v).length = ls.length := by simp [am_p1, am_cut_len]
theorem am_p2_len (ls : List Value) (x : Nat) (v : Value) : (am_p2 ls x v).length = ls.length := by simp [am_p2, am_cut_len]
theorem am_cut_get {ls : List Value} {x i : Nat} {w : Value} (h : (am_cut ls x)[i]? = some w) (hw : w ≠ am_U) : ls[i]? = some w ∧ ¬ (i + 1 = x ∧ w.category = 2) := by
  cases x with
  | zero => exact ⟨h, fun q => by omega⟩
  | succ y =>
    have h' : (match ls[y]? with
      | some (.long _) => ls.set y am_U
      | some (.double _) => ls.set y am_U
      | _ => ls)[i]? = some w := h
    have side : ∀ h2 : (ls.set y am_U)[i]? = some w, ls[i]? = some w ∧ ¬ (i + 1 = y + 1 ∧ w.category = 2) := by
      intro h2
      rw [List.getElem?_set] at h2
      by_cases e : y = i
      · rw [if_pos e] at h2
        by_cases e2 : y < ls.length
        · rw [if_pos e2] at h2
          exact absurd (Option.some.inj h2).symm hw
        · rw [if_neg e2] at h2
          cases h2
      · rw [if_neg e] at h2
        exact ⟨h2, fun q => by omega⟩
    split at h'
    · exact side h'
    · exact side h'
    · rename_i hA hB
      refine ⟨h', fun q => ?_⟩
      have e : i = y := by omega
      subst e
      cases w <;> first | (exact absurd q.2 (by decide)) | (exact hA _ h') | (exact hB _ h') | (have := q.2; simp [Value.category] at this)
theorem am_L.p1 {b0 base : Nat} {ls : List Value} {rl : Array Slot} {lv : List (Nat × Value)} {x : Nat} {v : Value} (hc : ∀ (i : Nat) (v : Value), ls[i]? = some v → v ≠ am_U → (i, am_v b0 base v) ∈ lv) (hx : x < ls.length)
    (h : lv_has rl ls.length ((x, am_v b0 base v) :: lv.filter (fun q => !(q.1 == x) && !(q.1 + 1 == x && q.2.category == 2)))) : am_L b0 base (am_p1 ls x v) rl := by
  refine ⟨_, by rw [am_p1_len]; exact h, fun i w hi hw => ?_⟩
  unfold am_p1 at hi
  rw [List.getElem?_set] at hi
  by_cases e : x = i
  · rw [if_pos e, if_pos (by rw [am_cut_len]; exact hx)] at hi
    cases hi
    subst e
    exact List.mem_cons_self
  · rw [if_neg e] at hi
    obtain ⟨g1, g2⟩ := am_cut_get hi hw
    refine List.mem_cons_of_mem _ (List.mem_filter.mpr ⟨hc i w g1 hw, ?_⟩)
    have e1 : ¬ i = x := fun q => e q.symm
    rw [← am_v_cat b0 base w] at g2
    simp [e1]
    omega
theorem am_L.p2 {b0 base : Nat} {ls : List Value} {rl : Array Slot} {lv : List (Nat × Value)} {x : Nat} {v : Value} (hc : ∀ (i : Nat) (v : Value), ls[i]? = some v → v ≠ am_U → (i, am_v b0 base v) ∈ lv) (hx : x + 1 < ls.length)
    (h : lv_has rl ls.length ((x, am_v b0 base v) :: lv.filter (fun q => !(q.1 == x) && (!(q.1 == x + 1) && !(q.1 + 1 == x && q.2.category == 2))))) : am_L b0 base (am_p2 ls x v) rl := by
  refine ⟨_, by rw [am_p2_len]; exact h, fun i w hi hw => ?_⟩
  unfold am_p2 at hi
  rw [List.getElem?_set] at hi
  by_cases e2 : x + 1 = i
  · rw [if_pos e2, if_pos (by rw [List.length_set, am_cut_len]; exact hx)] at hi
    exact absurd (Option.some.inj hi).symm hw
  · rw [if_neg e2, List.getElem?_set] at hi
    by_cases e : x = i
    · rw [if_pos e, if_pos (by rw [am_cut_len]; omega)] at hi
      cases hi
      subst e
      exact List.mem_cons_self
    · rw [if_neg e] at hi
      obtain ⟨g1, g2⟩ := am_cut_get hi hw
      refine List.mem_cons_of_mem _ (List.mem_filter.mpr ⟨hc i w g1 hw, ?_⟩)
      have e1 : ¬ i = x := fun q => e q.symm
      have e3 : ¬ i = x + 1 := fun q => e2 q.symm
      rw [← am_v_cat b0 base w] at g2
      simp [e1, e3]
      omega
theorem am_lay_in (b0 base : Nat) : ∀ (as : List Value) (k i : Nat) (v : Value), (am_lay as)[i]? = some v → v ≠ am_U → (k + i, am_v b0 base v) ∈ lv_args k (as.map (am_v b0 base))
  | [], k, i, v, h, _ => by simp [am_lay] at h
  | a :: r, k, i, v, h, hv => by
    by_cases hc : a.category = 2
    · have e : am_lay (a :: r) = a :: am_U :: am_lay r := by simp [am_lay, hc]
      rw [e] at h
      have hcat : (am_v b0 base a).category = 2 := by rw [am_v_cat]; exact hc
      simp only [List.map_cons, lv_args, hcat, if_true]
      match i, h with
      | 0, h => cases h; exact List.mem_cons_self
      | 1, h => exact absurd (Option.some.inj h).symm hv
      | j + 2, h =>
        have := am_lay_in b0 base r (k + 2) j v (by simpa using h) hv
        exact List.mem_cons_of_mem _ (by rw [show k + (j + 2) = k + 2 + j by omega]; exact this)
    · have e : am_lay (a :: r) = a :: am_lay r := by simp [am_lay, hc]
      rw [e] at h
      have hcat : ¬ (am_v b0 base a).category = 2 := by rw [am_v_cat]; exact hc
      simp only [List.map_cons, lv_args, if_neg hcat]
      match i, h with
      | 0, h => cases h; exact List.mem_cons_self
      | j + 1, h =>
        have := am_lay_in b0 base r (k + 1) j v (by simpa using h) hv
        exact List.mem_cons_of_mem _ (by rw [show k + (j + 1) = k + 1 + j by omega]; exact this)
theorem am_lay_len (b0 base : Nat) : ∀ as : List Value, (lg_sl (as.map (am_v b0 base))).length = (am_lay as).length
  | [] => rfl
  | a :: r => by
    have ih := am_lay_len b0 base r
    by_cases hc : a.category = 2
    · have hcat : (am_v b0 base a).category = 2 := by rw [am_v_cat]; exact hc
      simp [lg_sl, am_lay, hc, hcat] at ih ⊢
      omega
    · have hcat : ¬ (am_v b0 base a).category = 2 := by rw [am_v_cat]; exact hc
      simp [lg_sl, am_lay, hc, hcat] at ih ⊢
      omega
theorem am_ent_L {b0 base : Nat} {as : List Value} {n : Nat} (h : (am_lay as).length ≤ n) : am_L b0 base (am_ent as n) ((lg_sl (as.map (am_v b0 base)) ++ List.replicate (n - (lg_sl (as.map (am_v b0 base))).length) Slot.unset).toArray) := by
  have hlen : (am_ent as n).length = n := by simp [am_ent]; omega
  refine ⟨_, by rw [hlen]; exact lv_entry (as.map (am_v b0 base)) (by rw [am_lay_len]; exact h), fun i v hi hv => ?_⟩
  unfold am_ent at hi
  by_cases hl : i < (am_lay as).length
  · rw [List.getElem?_append_left hl] at hi
    have := am_lay_in b0 base as 0 i v hi hv
    rwa [Nat.zero_add] at this
  · rw [List.getElem?_append_right (by omega)] at hi
    exact absurd (List.eq_of_mem_replicate (List.mem_of_getElem? hi)) hv
end
section
/-! STORES AND NEW CELLS, with the heap's size -/
section AMR
variable {p : Program} {l : Launch} {e : Env} {R : Room} {s : State} {m : MethodId} {args : Array Value} {below : List Frame} {meth : Method} {c : Code} {H : Heap} {locs : List Loc} {cells slots : Nat} {Q : State → Prop}
variable {cc : ByteArray} {pc : Nat} {ls : Array Slot} {rest : List Value} {D : va_G} {cl : List vw_C} {A : Nat → Prop} {a : Nat} {tys : List (ClassId × FieldType)} {ws : va_W} {H0 : Heap}
/-- what a class's table says, as the rows want it -/
def am_Cl (Ts : List Cond) (ty0 : Nat → FieldType) (C : String) (T : u_T) (N : Nat) : Prop :=
  (∀ w ∈ u_ws C T N, w ∈ Ts) ∧ (∀ k, k < N → parseFieldDescriptor (T k).2.2.1 = some (ty0 k)) ∧ (∀ a, a < N → ∀ b, b < N → a ≠ b → (T a).2.1 ≠ (T b).2.1)
theorem am_put (hexec : p.tables.exec = Jvm.exec) (hb : c.code = cc) {own C : String} {T : u_T} {N ci index : Nat} {Ts : List Cond} {ty0 : Nat → FieldType} (hts : ∀ w ∈ Ts, w.before args s = true) (hC : am_Cl Ts ty0 C T N) (hown : s.vm.findClass own = some m.cls) (hK : va_K D cl tys s) (hP : va_P D cl ws H) (hD : va_D A ws) (hS0 : va_S A H0 H locs) (q0 : Nat) {fs : List Value} (he : ws[q0]? = some (a, .inr (ci, fs))) (hc : cl[ci]? = some (C, T, N)) (k : Nat) (hk : k < N)
    (hlink : (Cond.fieldLink own index (T k).1 (T k).2.1 (T k).2.2.1).before args s = true ∨ ∃ host, (Cond.fieldLinkNest own index (T k).1 (T k).2.1 (T k).2.2.1 host).before args s = true) (hfin : (T k).2.2.2 = false) {v : Value} (hn : narrow (ty0 k) v = v) (hfit : fits (ty0 k) v = true) (hl : k < fs.length)
    (hdg : decode cc pc = .ok (.putfield index, 3)) (kk : ∀ (H1 : Heap) (locs1 : List Loc), H1.size = H.size → va_P D cl (ws.set q0 (a, .inr (ci, fs.set k v))) H1 → va_S A H0 H1 locs1 → W p l e R s m args below meth c H1 locs1 cells slots Q (F0 m (pc + 3) ls rest)) : W p l e R s m args below meth c H locs cells slots Q (F0 m pc ls (v :: .ref a :: rest)) := by
  obtain ⟨hin, hty, hnm⟩ := hC
  have hap := va_apart (own := own) hts hin ty0 hty hnm hK hc
  obtain ⟨r, h1, cell, q1, q2, q3, q4⟩ := hP q0 _ he
  have hr : r = (C, T, N) := Option.some.inj (h1.symm.trans hc)
  subst hr
  obtain ⟨hS, hfc, kC, hkC, hkind⟩ := hK.1 ci _ hc
  obtain ⟨cf, kf, fi, f, hi, hsl⟩ := hS k hk
  have hlay := hts _ (hin _ (u_in_lay hk))
  unfold u_lay at hlay
  rw [if_neg (by rw [hfin]; decide)] at hlay
  have hst := (u_facts hfc hkC (u_lays hts hin hk) hi).1
  have h6 := u_store hfc hkC hkind hlay hi (hty k hk) hn hfit
  have fin : ∀ H' : Heap, H'[a]? = some (cell.setSlot f.slot v) → H'.size = H.size → (∀ q, q ≠ a → H'[q]? = H[q]?) → W p l e R s m args below meth c H' (locs ++ [⟨a, f.slot⟩]) cells slots Q (F0 m (pc + 3) ls rest) := by
    intro H' e1 e2 e3
    rw [hsl] at e1 ⊢
    exact kk H' _ e2 (hP.set hD he ⟨_, hc, t_OB.to (V := updV (vp_V fs) k v) ⟨_, e1, q2, q3, t_set q4 hap hk v⟩ (fun j _ => vp_updV_set hl v j)⟩ e3) (hS0.put e2 e3 (hD.2 q0 _ he))
  rcases hlink with hlink | ⟨host, hlink⟩
  · exact W.putK hexec hb (f := f) ⟨hown, hlink, ⟨_, _, _, hi⟩, hst⟩ (by rw [q2]; exact h6) q1 q3 (by rw [hsl]; exact k2_hasslot (q4 k hk)) rfl rfl hdg fin
  · exact va_WputK hexec hb (f := f) hown hlink hi hst (by rw [q2]; exact h6) q1 q3 (by rw [hsl]; exact k2_hasslot (q4 k hk)) rfl rfl hdg fin
theorem am_putF (hexec : p.tables.exec = Jvm.exec) (hb : c.code = cc) {own C : String} {T : u_T} {N ci index : Nat} {Ts : List Cond} {ty0 : Nat → FieldType} (hts : ∀ w ∈ Ts, w.before args s = true) (hC : am_Cl Ts ty0 C T N) (hown : s.vm.findClass own = some m.cls) (hK : va_K D cl tys s) (hP : va_P D cl ws H) (hD : va_D A ws) (hS0 : va_S A H0 H locs) (q0 : Nat) {fs : List Value} (he : ws[q0]? = some (a, .inr (ci, fs))) (hc : cl[ci]? = some (C, T, N)) (k : Nat) (hk : k < N)
    (hlink : (Cond.fieldLink own index (T k).1 (T k).2.1 (T k).2.2.1).before args s = true) (hfin : (T k).2.2.2 = true) (hin2 : meth.name = "<init>") (hdecl : (T k).1 = own) {v : Value} (hn : narrow (ty0 k) v = v) (hfit : fits (ty0 k) v = true) (hl : k < fs.length)
    (hdg : decode cc pc = .ok (.putfield index, 3)) (kk : ∀ (H1 : Heap) (locs1 : List Loc), H1.size = H.size → va_P D cl (ws.set q0 (a, .inr (ci, fs.set k v))) H1 → va_S A H0 H1 locs1 → W p l e R s m args below meth c H1 locs1 cells slots Q (F0 m (pc + 3) ls rest)) : W p l e R s m args below meth c H locs cells slots Q (F0 m pc ls (v :: .ref a :: rest)) := by
  obtain ⟨hin, hty, hnm⟩ := hC
  have hap := va_apart (own := own) hts hin ty0 hty hnm hK hc
  obtain ⟨r, h1, cell, q1, q2, q3, q4⟩ := hP q0 _ he
  have hr : r = (C, T, N) := Option.some.inj (h1.symm.trans hc)
  subst hr
  obtain ⟨hS, hfc, kC, hkC, hkind⟩ := hK.1 ci _ hc
  obtain ⟨cf, kf, fi, f, hi, hsl⟩ := hS k hk
  have hlay := hts _ (hin _ (u_in_lay hk))
  unfold u_lay at hlay
  rw [if_pos hfin] at hlay
  have hst := (u_facts hfc hkC (u_lays hts hin hk) hi).1
  have hcf : m.cls = cf := by
    obtain ⟨_, _, c', _, _, _, -, -, hf', -, -, -, hown2, -⟩ := Cond.laysFinal_spec hlay
    have e1 : c' = cf := by have := hi.symm.trans hf'; simp at this; exact this.1.symm
    rw [hdecl] at hown2
    rw [← e1]; exact Option.some.inj (hown.symm.trans hown2)
  have h6 := u_fits hfc hkC hkind (Or.inr hlay) hi (hty k hk) hn hfit
  refine W.putFinK hexec hb hown hlink hi hst hcf hin2 (by rw [q2]; exact h6) q1 q3 (by rw [hsl]; exact k2_hasslot (q4 k hk)) rfl rfl hdg fun H' e1 e2 e3 => ?_
  rw [hsl] at e1 ⊢
  exact kk H' _ e2 (hP.set hD he ⟨_, hc, t_OB.to (V := updV (vp_V fs) k v) ⟨_, e1, q2, q3, t_set q4 hap hk v⟩ (fun j _ => vp_updV_set hl v j)⟩ e3) (hS0.put e2 e3 (hD.2 q0 _ he))
theorem am_newW (hexec : p.tables.exec = Jvm.exec) (hb : c.code = cc) {own C : String} {T : u_T} {N ci index : Nat} {Ts : List Cond} {ty0 : Nat → FieldType} (hts : ∀ w ∈ Ts, w.before args s = true) (hC : am_Cl Ts ty0 C T N) (hown : s.vm.findClass own = some m.cls) (hcl : (Cond.classLink own index C).before args s = true) (hinst : (Cond.instantiable C N).before args s = true) (hini : (Cond.initialized C).before args s = true)
    (hK : va_K D cl tys s) (hP : va_P D cl ws H) (hS : va_S A H0 H locs) (hc : cl[ci]? = some (C, T, N)) {fs : List Value} (hfs : ∀ j, j < N → defaultValue (ty0 j) = vp_V fs j) (hcells : cells + 1 ≤ R.cells) (hslots : slots + N ≤ R.slots) (hdg : decode cc pc = .ok (.new index, 3))
    (kk : ∀ H1 : Heap, H1.size = H.size + 1 → va_P D cl (ws ++ [(H.size, .inr (ci, fs))]) H1 → va_S A H0 H1 locs →
      W p l e R s m args below meth c H1 locs (cells + 1) (slots + N) Q (F0 m (pc + 3) ls (.ref H.size :: rest))) : W p l e R s m args below meth c H locs cells slots Q (F0 m pc ls rest) := by
  obtain ⟨hin, hty, hnm⟩ := hC
  have hKn := hK.1 ci _ hc
  refine W.newcK hexec hb hown hcl hinst hini rfl hdg hcells hslots hKn.2.1 rfl fun H1 kC hkC e1 z1 o1 => ?_
  have hk : ∀ (k : Nat) (x : Nat × va_E), ws[k]? = some x → H1[x.1]? = H[x.1]? := fun k x hx => o1 x.1 ((hP k x hx).lt)
  refine kk H1 z1 ((hP.kept hk).app (fun k x hx => ?_)) ⟨Nat.le_trans hS.1 (by omega), fun x h1 h2 => (o1 x (Nat.lt_of_lt_of_le h1 hS.1)).trans (hS.2.1 x h1 h2), hS.2.2⟩
  have hz : k < 1 := (List.getElem?_eq_some_iff.mp hx).1
  rw [show k = 0 by omega] at hx
  cases hx
  exact ⟨_, hc, (u_born ty0 hts hin hKn hkC e1 hty).to hfs⟩
theorem am_newaW (hexec : p.tables.exec = Jvm.exec) (hb : c.code = cc) {atype : ArrayType} (harr : (Cond.arrayClass (newarray.typeOf atype)).before args s = true) (hP : va_P D cl ws H) (hS : va_S A H0 H locs) {dk : ClassId} (hfc : s.vm.findClass ("[" ++ (newarray.typeOf atype).toString) = some dk)
    {n : Int32} {N : Nat} {a0 : vp_A} (ha : ∀ cA : ClassId, vp_cell cA a0 = arrV cA N (fun _ => defaultValue (newarray.typeOf atype))) (hn : ¬ n < 0) (hN : n.toNatClampNeg = N) (hbytes : N * componentBytes (newarray.typeOf atype) ≤ 536870912) (hcells : cells + 1 ≤ R.cells) (hslots : slots + N ≤ R.slots) (hdg : decode cc pc = .ok (.newarray atype, 2))
    (kk : ∀ H1 : Heap, H1.size = H.size + 1 → va_P D cl (ws ++ [(H.size, .inl (dk, a0))]) H1 → va_S A H0 H1 locs →
      W p l e R s m args below meth c H1 locs (cells + 1) (slots + N) Q (F0 m (pc + 2) ls (.ref H.size :: rest))) : W p l e R s m args below meth c H locs cells slots Q (F0 m pc ls (.int n :: rest)) := by
  refine va_newaK hexec hb harr rfl hdg rfl hn hN hbytes hcells hslots rfl fun H1 cA e1 z1 o1 hAr hNm => ?_
  have hcA : cA = dk := Option.some.inj (hNm.symm.trans hfc)
  subst hcA
  have hk : ∀ (k : Nat) (x : Nat × va_E), ws[k]? = some x → H1[x.1]? = H[x.1]? := fun k x hx => o1 x.1 ((hP k x hx).lt)
  refine kk H1 z1 ((hP.kept hk).app (fun k x hx => ?_)) ⟨Nat.le_trans hS.1 (by omega), fun x h1 h2 => (o1 x (Nat.lt_of_lt_of_le h1 hS.1)).trans (hS.2.1 x h1 h2), hS.2.2⟩
  have hz : k < 1 := (List.getElem?_eq_some_iff.mp hx).1
  rw [show k = 0 by omega] at hx
  cases hx
  show H1[H.size]? = some (vp_cell _ _)
  rw [ha]
  exact e1
theorem am_iastW (hexec : p.tables.exec = Jvm.exec) (hb : c.code = cc) {cA : ClassId} (hA : ArrOfT s cA .int) (hP : va_P D cl ws H) (hD : va_D A ws) (hS : va_S A H0 H locs) (q0 : Nat) {n : Nat} {f : Nat → Int32} (ha : ws[q0]? = some (a, .inl (cA, n, .inl f))) {i : Int32} {x : Int32} (hin : vp_in i n) (hdg : decode cc pc = .ok (.iastore, 1))
    (kk : ∀ (H1 : Heap) (locs1 : List Loc), H1.size = H.size → va_P D cl (ws.set q0 (a, .inl (cA, n, .inl (upd f i.toNatClampNeg x)))) H1 → va_S A H0 H1 locs1 → W p l e R s m args below meth c H1 locs1 cells slots Q (F0 m (pc + 1) ls rest)) : W p l e R s m args below meth c H locs cells slots Q (F0 m pc ls (.int x :: .int i :: .ref a :: rest)) := by
  refine W.iast hexec hb (hP q0 _ ha) (hA n (fun j => .int (f j))) (fun q => by cases q) (by show ¬ (i < 0 ∨ (arrV _ _ _).slots.size ≤ _); rw [arrV_size]; exact hin) rfl rfl hdg fun H1 e z oq => ?_
  refine kk H1 _ z (hP.set hD ha ?_ oq) (hS.put z oq (hD.2 q0 _ ha))
  show H1[a]? = some (vp_cell _ _)
  rw [e]
  rw [vp_cell_i, vp_cell_i, arrV_store]
  congr 2
  funext q
  by_cases hq : q = i.toNatClampNeg
  · subst hq
    simp [updV, upd]
  · simp [updV, upd, hq]
theorem am_lastW (hexec : p.tables.exec = Jvm.exec) (hb : c.code = cc) {cA : ClassId} (hA : ArrOfT s cA .long) (hP : va_P D cl ws H) (hD : va_D A ws) (hS : va_S A H0 H locs) (q0 : Nat) {n : Nat} {f : Nat → Int64} (ha : ws[q0]? = some (a, .inl (cA, n, .inr (.inl f)))) {i : Int32} {x : Int64} (hin : vp_in i n) (hdg : decode cc pc = .ok (.lastore, 1))
    (kk : ∀ (H1 : Heap) (locs1 : List Loc), H1.size = H.size → va_P D cl (ws.set q0 (a, .inl (cA, n, .inr (.inl (vp_updL f i.toNatClampNeg x))))) H1 → va_S A H0 H1 locs1 → W p l e R s m args below meth c H1 locs1 cells slots Q (F0 m (pc + 1) ls rest)) : W p l e R s m args below meth c H locs cells slots Q (F0 m pc ls (.long x :: .int i :: .ref a :: rest)) := by
  refine W.last hexec hb (hP q0 _ ha) (hA n (fun j => .long (f j))) (fun q => by cases q) (by show ¬ (i < 0 ∨ (arrV _ _ _).slots.size ≤ _); rw [arrV_size]; exact hin) rfl rfl hdg fun H1 e z oq => ?_
  refine kk H1 _ z (hP.set hD ha ?_ oq) (hS.put z oq (hD.2 q0 _ ha))
  show H1[a]? = some (vp_cell _ _)
  rw [e]
  rw [vp_cell_l, vp_cell_l, arrV_store]
  congr 2
  funext q
  by_cases hq : q = i.toNatClampNeg
  · subst hq
    simp [updV, vp_updL]
  · simp [updV, vp_updL, hq]
theorem am_zastW (hexec : p.tables.exec = Jvm.exec) (hb : c.code = cc) {cA : ClassId} (hA : ArrOfT s cA .boolean) (hP : va_P D cl ws H) (hD : va_D A ws) (hS : va_S A H0 H locs) (q0 : Nat) {n : Nat} {f : Nat → Int32} (ha : ws[q0]? = some (a, .inl (cA, n, .inl f))) {i : Int32} {x : Int32} (hx1 : x &&& 1 = x) (hin : vp_in i n) (hdg : decode cc pc = .ok (.bastore, 1))
    (kk : ∀ (H1 : Heap) (locs1 : List Loc), H1.size = H.size → va_P D cl (ws.set q0 (a, .inl (cA, n, .inl (upd f i.toNatClampNeg x)))) H1 → va_S A H0 H1 locs1 → W p l e R s m args below meth c H1 locs1 cells slots Q (F0 m (pc + 1) ls rest)) : W p l e R s m args below meth c H locs cells slots Q (F0 m pc ls (.int x :: .int i :: .ref a :: rest)) := by
  refine W.zast hexec hb (hP q0 _ ha) (hA n (fun j => .int (f j))) (fun q => by cases q) (by show ¬ (i < 0 ∨ (arrV _ _ _).slots.size ≤ _); rw [arrV_size]; exact hin) rfl rfl hdg fun H1 e z oq => ?_
  refine kk H1 _ z (hP.set hD ha ?_ oq) (hS.put z oq (hD.2 q0 _ ha))
  show H1[a]? = some (vp_cell _ _)
  rw [e]
  rw [vp_cell_i, vp_cell_i, arrV_store]
  congr 2
  funext q
  have hnar : narrow .boolean (.int x) = .int x := by show Value.int (x &&& 1) = _; rw [hx1]
  rw [hnar]
  by_cases hq : q = i.toNatClampNeg
  · subst hq
    simp [updV, upd]
  · simp [updV, upd, hq]
end AMR
end
section
/-! ONE INSTRUCTION OF THE PLAIN MACHINE IS ONE OF THE CLAIM'S -/
def am_tys (dA : Nat → ClassId) : List (ClassId × FieldType) := [(dA 0, .int), (dA 1, .long), (dA 2, .boolean)]
/-- the links between nest mates hold -/
def am_NW (U : State) : Prop := (∀ q ∈ am_NF, va_Nw (.fieldLinkNest q.1 q.2.1 q.2.2.1 q.2.2.2.1 q.2.2.2.2.1 q.2.2.2.2.2) U) ∧ ∀ q ∈ am_NM, va_Nw (.methodLinkNest q.1 q.2.1 q.2.2.1 q.2.2.2) U
def am_Cx (p : Program) (s : State) (m : MethodId) (args : Array Value) (meth : Method) (c : Code) (D : va_G) (dA : Nat → ClassId) (b0 base : Nat) (X : Nat × (Nat → Int32)) (k : Nat) : Prop :=
  p.tables.exec = Jvm.exec ∧ c.code = am_bytes k ∧ c.maxLocals = am_mxl k ∧ s.vm.findClass (am_cn (am_own k)) = some m.cls ∧ (∀ w ∈ am_WT, w.before args s = true) ∧ meth.sig.returnType = am_ret k ∧ meth.locks = false ∧ (am_isi k = true → meth.name = "<init>") ∧ va_K D vwCl (am_tys dA) s ∧ am_NW s ∧ va_X b0 X.1 X.2 s s.heap ∧ b0 < base ∧ base ≤ s.heap.size
/-- the claim's machine goes on from a plain state -/
def am_Go (p : Program) (l : Launch) (e : Env) (R : Room) (s : State) (m : MethodId) (args : Array Value) (below : List Frame) (meth : Method) (c : Code) (Q : State → Prop) (D : va_G) (dA : Nat → ClassId) (b0 base n0 z0 n : Nat) (σ : am_S) : Prop :=
  ∀ (H : Heap) (locs : List Loc) (rl : Array Slot) (cells slots : Nat), am_Wd D dA b0 base σ.2.2.2 H → va_S (am_A base) s.heap H locs → am_L b0 base σ.2.1 rl → σ.2.1.length = n → cells + n0 = σ.2.2.2.length → slots + z0 = am_sz σ.2.2.2 → W p l e R s m args below meth c H locs cells slots Q (F0 m σ.1 rl (σ.2.2.1.map (am_v b0 base)))
theorem am_nx_inv {pc : Nat} {st : List Value} {h : am_H} {σ' : am_P} (hf : am_nx pc st h = some σ') : σ' = (pc, st, h) := by
  cases hf; rfl
theorem am_nl_inv {pc : Nat} {ls st : List Value} {h : am_H} {σ' : am_S} (hf : am_nl pc ls st h = some σ') : σ' = (pc, ls, st, h) := by
  cases hf; rfl
theorem am_jmp_inv {pc t : Nat} {off : Int} (h : am_jmp pc off = some t) : (pc : Int) + off = (t : Int) := by
  unfold am_jmp at h
  split at h
  · cases h; omega
  · cases h
theorem am_go_inv {pc : Nat} {off : Int} {st : List Value} {h : am_H} {σ' : am_P} (hf : am_go pc off st h = some σ') : ∃ t : Nat, (pc : Int) + off = (t : Int) ∧ σ' = (t, st, h) := by
  unfold am_go at hf
  split at hf
  · rename_i t ht
    exact ⟨t, am_jmp_inv ht, am_nx_inv hf⟩
  · cases hf
theorem am_br_inv {b : Bool} {pc : Nat} {off : Int} {st : List Value} {h : am_H} {σ' : am_P} (hf : am_br b pc off st h = some σ') : ∃ t : Nat, (pc : Int) + off = (t : Int) ∧ ((b = true ∧ σ' = (t, st, h)) ∨ (b = false ∧ σ' = (pc + 3, st, h))) := by
  unfold am_br at hf
  split at hf
  · rename_i t ht
    refine ⟨t, am_jmp_inv ht, ?_⟩
    cases b
    · exact Or.inr ⟨rfl, am_nx_inv hf⟩
    · exact Or.inl ⟨rfl, am_nx_inv hf⟩
  · cases hf
theorem am_i1_inv {α : Type} {st : List Value} {f : Int32 → List Value → Option α} {ρ : α} (h : am_i1 st f = some ρ) : ∃ x r, st = .int x :: r ∧ f x r = some ρ := by
  unfold am_i1 at h
  split at h
  · exact ⟨_, _, rfl, h⟩
  · cases h
theorem am_i2_inv {α : Type} {st : List Value} {f : Int32 → Int32 → List Value → Option α} {ρ : α} (h : am_i2 st f = some ρ) : ∃ x y r, st = .int y :: .int x :: r ∧ f x y r = some ρ := by
  unfold am_i2 at h
  split at h
  · exact ⟨_, _, _, rfl, h⟩
  · cases h
theorem am_l1_inv {α : Type} {st : List Value} {f : Int64 → List Value → Option α} {ρ : α} (h : am_l1 st f = some ρ) : ∃ x r, st = .long x :: r ∧ f x r = some ρ := by
  unfold am_l1 at h
  split at h
  · exact ⟨_, _, rfl, h⟩
  · cases h
theorem am_l2_inv {α : Type} {st : List Value} {f : Int64 → Int64 → List Value → Option α} {ρ : α} (h : am_l2 st f = some ρ) : ∃ x y r, st = .long y :: .long x :: r ∧ f x y r = some ρ := by
  unfold am_l2 at h
  split at h
  · exact ⟨_, _, _, rfl, h⟩
  · cases h
theorem am_s2_inv {α : Type} {st : List Value} {f : Int64 → Int32 → List Value → Option α} {ρ : α} (h : am_s2 st f = some ρ) : ∃ x y r, st = .int y :: .long x :: r ∧ f x y r = some ρ := by
  unfold am_s2 at h
  split at h
  · exact ⟨_, _, _, rfl, h⟩
  · cases h
theorem am_r1_inv {α : Type} {st : List Value} {f : Nat → List Value → Option α} {ρ : α} (h : am_r1 st f = some ρ) : ∃ a r, st = .ref a :: r ∧ f a r = some ρ := by
  unfold am_r1 at h
  split at h
  · exact ⟨_, _, rfl, h⟩
  · cases h
theorem am_r2_inv {α : Type} {st : List Value} {f : Nat → Nat → List Value → Option α} {ρ : α} (h : am_r2 st f = some ρ) : ∃ a b r, st = .ref b :: .ref a :: r ∧ f a b r = some ρ := by
  unfold am_r2 at h
  split at h
  · exact ⟨_, _, _, rfl, h⟩
  · cases h
theorem am_gi_inv {α : Type} {ls : List Value} {x : Nat} {f : Int32 → Option α} {ρ : α} (h : am_gi ls x f = some ρ) : ∃ v, ls[x]? = some (.int v) ∧ f v = some ρ := by
  unfold am_gi at h
  split at h
  · rename_i hv
    exact ⟨_, hv, h⟩
  · cases h
theorem am_gl_inv {α : Type} {ls : List Value} {x : Nat} {f : Int64 → Option α} {ρ : α} (h : am_gl ls x f = some ρ) : ∃ v, ls[x]? = some (.long v) ∧ f v = some ρ := by
  unfold am_gl at h
  split at h
  · rename_i hv
    exact ⟨_, hv, h⟩
  · cases h
theorem am_ga_inv {α : Type} {ls : List Value} {x : Nat} {f : Value → Option α} {ρ : α} (h : am_ga ls x f = some ρ) : ∃ v, ls[x]? = some v ∧ ((∃ a, v = .ref a) ∨ v = am_X) ∧ f v = some ρ := by
  unfold am_ga at h
  split at h
  · rename_i a hv
    exact ⟨_, hv, Or.inl ⟨a, rfl⟩, h⟩
  · rename_i hv
    exact ⟨_, hv, Or.inr rfl, h⟩
  · cases h
theorem am_out_f {i : Int32} {n : Nat} (h : am_out i n = false) : vp_in i n := by
  unfold am_out at h
  rw [Bool.or_eq_false_iff] at h
  intro q
  rcases q with q | q
  · exact absurd q (of_decide_eq_false h.1)
  · exact absurd q (of_decide_eq_false h.2)
section AMT
variable {p : Program} {l : Launch} {e : Env} {R : Room} {s : State} {m : MethodId} {args : Array Value} {below : List Frame} {meth : Method} {c : Code} {Q : State → Prop}
variable {D : va_G} {dA : Nat → ClassId} {b0 base : Nat} {X : Nat × (Nat → Int32)} {k : Nat}

theorem am_k_aconst_null (Cx : am_Cx p s m args meth c D dA b0 base X k) {n0 z0 nl pc len : Nat} {ls st : List Value} {h : am_H} {σ' : am_P} (hdg : decode (am_bytes k) pc = .ok (.aconst_null, len)) (hlen : am_len (.aconst_null) = 0 ∨ len = am_len (.aconst_null)) (hdo : am_dp X k (.aconst_null) pc st h = some σ') (hR1 : σ'.2.2.length ≤ R.cells + n0) (hR2 : am_sz σ'.2.2 ≤ R.slots + z0) (hfr : am_fr k ≤ R.frames) (hlo : am_lc k ≤ R.locals) (hnl : nl = am_mxl k) (kk : am_Go p l e R s m args below meth c Q D dA b0 base n0 z0 nl (σ'.1, ls, σ'.2.1, σ'.2.2)) : am_Go p l e R s m args below meth c Q D dA b0 base n0 z0 nl (pc, ls, st, h) := by
  obtain ⟨hx, hb, hml, hown, hts, hr, hlk, hin, hK, hN, hX, hb0, hbs⟩ := Cx
  obtain rfl : len = 1 := hlen.resolve_left (fun q => absurd q (by show ¬ (1 : Nat) = 0; decide))
  simp only [am_dp] at hdo
  obtain rfl := am_nx_inv hdo
  intro H locs rl cells slots hW hS hl hn hc hz
  exact lv_null hx hb hdg (kk H locs rl cells slots hW hS hl hn hc hz)
theorem am_k_iconst (Cx : am_Cx p s m args meth c D dA b0 base X k) {n0 z0 nl pc len : Nat} {ls st : List Value} {h : am_H} {σ' : am_P} {n : Int} (hdg : decode (am_bytes k) pc = .ok (.iconst n, len)) (hlen : am_len (.iconst n) = 0 ∨ len = am_len (.iconst n)) (hdo : am_dp X k (.iconst n) pc st h = some σ') (hR1 : σ'.2.2.length ≤ R.cells + n0) (hR2 : am_sz σ'.2.2 ≤ R.slots + z0) (hfr : am_fr k ≤ R.frames) (hlo : am_lc k ≤ R.locals) (hnl : nl = am_mxl k) (kk : am_Go p l e R s m args below meth c Q D dA b0 base n0 z0 nl (σ'.1, ls, σ'.2.1, σ'.2.2)) : am_Go p l e R s m args below meth c Q D dA b0 base n0 z0 nl (pc, ls, st, h) := by
  obtain ⟨hx, hb, hml, hown, hts, hr, hlk, hin, hK, hN, hX, hb0, hbs⟩ := Cx
  obtain rfl : len = 1 := hlen.resolve_left (fun q => absurd q (by show ¬ (1 : Nat) = 0; decide))
  simp only [am_dp] at hdo
  obtain rfl := am_nx_inv hdo
  intro H locs rl cells slots hW hS hl hn hc hz
  exact lv_iconst hx hb hdg rfl (kk H locs rl cells slots hW hS hl hn hc hz)
theorem am_k_bipush (Cx : am_Cx p s m args meth c D dA b0 base X k) {n0 z0 nl pc len : Nat} {ls st : List Value} {h : am_H} {σ' : am_P} {n : Int} (hdg : decode (am_bytes k) pc = .ok (.bipush n, len)) (hlen : am_len (.bipush n) = 0 ∨ len = am_len (.bipush n)) (hdo : am_dp X k (.bipush n) pc st h = some σ') (hR1 : σ'.2.2.length ≤ R.cells + n0) (hR2 : am_sz σ'.2.2 ≤ R.slots + z0) (hfr : am_fr k ≤ R.frames) (hlo : am_lc k ≤ R.locals) (hnl : nl = am_mxl k) (kk : am_Go p l e R s m args below meth c Q D dA b0 base n0 z0 nl (σ'.1, ls, σ'.2.1, σ'.2.2)) : am_Go p l e R s m args below meth c Q D dA b0 base n0 z0 nl (pc, ls, st, h) := by
  obtain ⟨hx, hb, hml, hown, hts, hr, hlk, hin, hK, hN, hX, hb0, hbs⟩ := Cx
  obtain rfl : len = 2 := hlen.resolve_left (fun q => absurd q (by show ¬ (2 : Nat) = 0; decide))
  simp only [am_dp] at hdo
  obtain rfl := am_nx_inv hdo
  intro H locs rl cells slots hW hS hl hn hc hz
  exact lv_bipush hx hb hdg rfl (kk H locs rl cells slots hW hS hl hn hc hz)
theorem am_k_sipush (Cx : am_Cx p s m args meth c D dA b0 base X k) {n0 z0 nl pc len : Nat} {ls st : List Value} {h : am_H} {σ' : am_P} {n : Int} (hdg : decode (am_bytes k) pc = .ok (.sipush n, len)) (hlen : am_len (.sipush n) = 0 ∨ len = am_len (.sipush n)) (hdo : am_dp X k (.sipush n) pc st h = some σ') (hR1 : σ'.2.2.length ≤ R.cells + n0) (hR2 : am_sz σ'.2.2 ≤ R.slots + z0) (hfr : am_fr k ≤ R.frames) (hlo : am_lc k ≤ R.locals) (hnl : nl = am_mxl k) (kk : am_Go p l e R s m args below meth c Q D dA b0 base n0 z0 nl (σ'.1, ls, σ'.2.1, σ'.2.2)) : am_Go p l e R s m args below meth c Q D dA b0 base n0 z0 nl (pc, ls, st, h) := by
  obtain ⟨hx, hb, hml, hown, hts, hr, hlk, hin, hK, hN, hX, hb0, hbs⟩ := Cx
  obtain rfl : len = 3 := hlen.resolve_left (fun q => absurd q (by show ¬ (3 : Nat) = 0; decide))
  simp only [am_dp] at hdo
  obtain rfl := am_nx_inv hdo
  intro H locs rl cells slots hW hS hl hn hc hz
  exact lv_sipush hx hb hdg rfl (kk H locs rl cells slots hW hS hl hn hc hz)
theorem am_k_lconst (Cx : am_Cx p s m args meth c D dA b0 base X k) {n0 z0 nl pc len : Nat} {ls st : List Value} {h : am_H} {σ' : am_P} {n : Fin 2} (hdg : decode (am_bytes k) pc = .ok (.lconst n, len)) (hlen : am_len (.lconst n) = 0 ∨ len = am_len (.lconst n)) (hdo : am_dp X k (.lconst n) pc st h = some σ') (hR1 : σ'.2.2.length ≤ R.cells + n0) (hR2 : am_sz σ'.2.2 ≤ R.slots + z0) (hfr : am_fr k ≤ R.frames) (hlo : am_lc k ≤ R.locals) (hnl : nl = am_mxl k) (kk : am_Go p l e R s m args below meth c Q D dA b0 base n0 z0 nl (σ'.1, ls, σ'.2.1, σ'.2.2)) : am_Go p l e R s m args below meth c Q D dA b0 base n0 z0 nl (pc, ls, st, h) := by
  obtain ⟨hx, hb, hml, hown, hts, hr, hlk, hin, hK, hN, hX, hb0, hbs⟩ := Cx
  obtain rfl : len = 1 := hlen.resolve_left (fun q => absurd q (by show ¬ (1 : Nat) = 0; decide))
  simp only [am_dp] at hdo
  obtain rfl := am_nx_inv hdo
  intro H locs rl cells slots hW hS hl hn hc hz
  exact lv_lconst hx hb hdg rfl (kk H locs rl cells slots hW hS hl hn hc hz)
theorem am_k_ldc (Cx : am_Cx p s m args meth c D dA b0 base X k) {n0 z0 nl pc len : Nat} {ls st : List Value} {h : am_H} {σ' : am_P} {j : Nat} (hdg : decode (am_bytes k) pc = .ok (.ldc j, len)) (hlen : am_len (.ldc j) = 0 ∨ len = am_len (.ldc j)) (hdo : am_dp X k (.ldc j) pc st h = some σ') (hR1 : σ'.2.2.length ≤ R.cells + n0) (hR2 : am_sz σ'.2.2 ≤ R.slots + z0) (hfr : am_fr k ≤ R.frames) (hlo : am_lc k ≤ R.locals) (hnl : nl = am_mxl k) (kk : am_Go p l e R s m args below meth c Q D dA b0 base n0 z0 nl (σ'.1, ls, σ'.2.1, σ'.2.2)) : am_Go p l e R s m args below meth c Q D dA b0 base n0 z0 nl (pc, ls, st, h) := by
  obtain ⟨hx, hb, hml, hown, hts, hr, hlk, hin, hK, hN, hX, hb0, hbs⟩ := Cx
  obtain rfl : len = 2 := hlen.resolve_left (fun q => absurd q (by show ¬ (2 : Nat) = 0; decide))
  simp only [am_dp] at hdo
  split at hdo
  · rename_i v hv
    obtain rfl := am_nx_inv hdo
    intro H locs rl cells slots hW hS hl hn hc hz
    exact lv_ldc hx hb hown (hts _ (am_ldi_ok hv)) hdg (kk H locs rl cells slots hW hS hl hn hc hz)
  · cases hdo
theorem am_k_ldc2_w (Cx : am_Cx p s m args meth c D dA b0 base X k) {n0 z0 nl pc len : Nat} {ls st : List Value} {h : am_H} {σ' : am_P} {j : Nat} (hdg : decode (am_bytes k) pc = .ok (.ldc2_w j, len)) (hlen : am_len (.ldc2_w j) = 0 ∨ len = am_len (.ldc2_w j)) (hdo : am_dp X k (.ldc2_w j) pc st h = some σ') (hR1 : σ'.2.2.length ≤ R.cells + n0) (hR2 : am_sz σ'.2.2 ≤ R.slots + z0) (hfr : am_fr k ≤ R.frames) (hlo : am_lc k ≤ R.locals) (hnl : nl = am_mxl k) (kk : am_Go p l e R s m args below meth c Q D dA b0 base n0 z0 nl (σ'.1, ls, σ'.2.1, σ'.2.2)) : am_Go p l e R s m args below meth c Q D dA b0 base n0 z0 nl (pc, ls, st, h) := by
  obtain ⟨hx, hb, hml, hown, hts, hr, hlk, hin, hK, hN, hX, hb0, hbs⟩ := Cx
  obtain rfl : len = 3 := hlen.resolve_left (fun q => absurd q (by show ¬ (3 : Nat) = 0; decide))
  simp only [am_dp] at hdo
  split at hdo
  · rename_i v hv
    obtain rfl := am_nx_inv hdo
    intro H locs rl cells slots hW hS hl hn hc hz
    exact lv_ldc2 hx hb hown (hts _ (am_ldl_ok hv)) hdg (kk H locs rl cells slots hW hS hl hn hc hz)
  · cases hdo
theorem am_k_iload (Cx : am_Cx p s m args meth c D dA b0 base X k) {n0 z0 nl pc len : Nat} {ls st : List Value} {h : am_H} {σ' : am_S} {x : Nat} (hdg : decode (am_bytes k) pc = .ok (.iload x, len)) (hlen : am_len (.iload x) = 0 ∨ len = am_len (.iload x)) (hdo : am_dl (.iload x) pc ls st h = some σ') (hR1 : σ'.2.2.2.length ≤ R.cells + n0) (hR2 : am_sz σ'.2.2.2 ≤ R.slots + z0) (hfr : am_fr k ≤ R.frames) (hlo : am_lc k ≤ R.locals) (hnl : nl = am_mxl k) (kk : am_Go p l e R s m args below meth c Q D dA b0 base n0 z0 nl σ') : am_Go p l e R s m args below meth c Q D dA b0 base n0 z0 nl (pc, ls, st, h) := by
  obtain ⟨hx, hb, hml, hown, hts, hr, hlk, hin, hK, hN, hX, hb0, hbs⟩ := Cx
  obtain rfl : len = 2 := hlen.resolve_left (fun q => absurd q (by show ¬ (2 : Nat) = 0; decide))
  simp only [am_dl] at hdo
  obtain ⟨v, hv, hf⟩ := am_gi_inv hdo
  obtain rfl := am_nl_inv hf
  intro H locs rl cells slots hW hS hl hn hc hz
  exact lv_iload hx hb hdg (hl.get hv (fun q => by cases q)) (kk H locs rl cells slots hW hS hl hn hc hz)
theorem am_k_iload_n (Cx : am_Cx p s m args meth c D dA b0 base X k) {n0 z0 nl pc len : Nat} {ls st : List Value} {h : am_H} {σ' : am_S} {x : Fin 4} (hdg : decode (am_bytes k) pc = .ok (.iload_n x, len)) (hlen : am_len (.iload_n x) = 0 ∨ len = am_len (.iload_n x)) (hdo : am_dl (.iload_n x) pc ls st h = some σ') (hR1 : σ'.2.2.2.length ≤ R.cells + n0) (hR2 : am_sz σ'.2.2.2 ≤ R.slots + z0) (hfr : am_fr k ≤ R.frames) (hlo : am_lc k ≤ R.locals) (hnl : nl = am_mxl k) (kk : am_Go p l e R s m args below meth c Q D dA b0 base n0 z0 nl σ') : am_Go p l e R s m args below meth c Q D dA b0 base n0 z0 nl (pc, ls, st, h) := by
  obtain ⟨hx, hb, hml, hown, hts, hr, hlk, hin, hK, hN, hX, hb0, hbs⟩ := Cx
  obtain rfl : len = 1 := hlen.resolve_left (fun q => absurd q (by show ¬ (1 : Nat) = 0; decide))
  simp only [am_dl] at hdo
  obtain ⟨v, hv, hf⟩ := am_gi_inv hdo
  obtain rfl := am_nl_inv hf
  intro H locs rl cells slots hW hS hl hn hc hz
  exact lv_iload_n hx hb hdg rfl (hl.get hv (fun q => by cases q)) (kk H locs rl cells slots hW hS hl hn hc hz)
theorem am_k_lload (Cx : am_Cx p s m args meth c D dA b0 base X k) {n0 z0 nl pc len : Nat} {ls st : List Value} {h : am_H} {σ' : am_S} {x : Nat} (hdg : decode (am_bytes k) pc = .ok (.lload x, len)) (hlen : am_len (.lload x) = 0 ∨ len = am_len (.lload x)) (hdo : am_dl (.lload x) pc ls st h = some σ') (hR1 : σ'.2.2.2.length ≤ R.cells + n0) (hR2 : am_sz σ'.2.2.2 ≤ R.slots + z0) (hfr : am_fr k ≤ R.frames) (hlo : am_lc k ≤ R.locals) (hnl : nl = am_mxl k) (kk : am_Go p l e R s m args below meth c Q D dA b0 base n0 z0 nl σ') : am_Go p l e R s m args below meth c Q D dA b0 base n0 z0 nl (pc, ls, st, h) := by
  obtain ⟨hx, hb, hml, hown, hts, hr, hlk, hin, hK, hN, hX, hb0, hbs⟩ := Cx
  obtain rfl : len = 2 := hlen.resolve_left (fun q => absurd q (by show ¬ (2 : Nat) = 0; decide))
  simp only [am_dl] at hdo
  obtain ⟨v, hv, hf⟩ := am_gl_inv hdo
  obtain rfl := am_nl_inv hf
  intro H locs rl cells slots hW hS hl hn hc hz
  exact lv_lload hx hb hdg (hl.get hv (fun q => by cases q)) (kk H locs rl cells slots hW hS hl hn hc hz)
theorem am_k_lload_n (Cx : am_Cx p s m args meth c D dA b0 base X k) {n0 z0 nl pc len : Nat} {ls st : List Value} {h : am_H} {σ' : am_S} {x : Fin 4} (hdg : decode (am_bytes k) pc = .ok (.lload_n x, len)) (hlen : am_len (.lload_n x) = 0 ∨ len = am_len (.lload_n x)) (hdo : am_dl (.lload_n x) pc ls st h = some σ') (hR1 : σ'.2.2.2.length ≤ R.cells + n0) (hR2 : am_sz σ'.2.2.2 ≤ R.slots + z0) (hfr : am_fr k ≤ R.frames) (hlo : am_lc k ≤ R.locals) (hnl : nl = am_mxl k) (kk : am_Go p l e R s m args below meth c Q D dA b0 base n0 z0 nl σ') : am_Go p l e R s m args below meth c Q D dA b0 base n0 z0 nl (pc, ls, st, h) := by
  obtain ⟨hx, hb, hml, hown, hts, hr, hlk, hin, hK, hN, hX, hb0, hbs⟩ := Cx
  obtain rfl : len = 1 := hlen.resolve_left (fun q => absurd q (by show ¬ (1 : Nat) = 0; decide))
  simp only [am_dl] at hdo
  obtain ⟨v, hv, hf⟩ := am_gl_inv hdo
  obtain rfl := am_nl_inv hf
  intro H locs rl cells slots hW hS hl hn hc hz
  exact lv_lload_n hx hb hdg rfl (hl.get hv (fun q => by cases q)) (kk H locs rl cells slots hW hS hl hn hc hz)
theorem am_k_aload (Cx : am_Cx p s m args meth c D dA b0 base X k) {n0 z0 nl pc len : Nat} {ls st : List Value} {h : am_H} {σ' : am_S} {x : Nat} (hdg : decode (am_bytes k) pc = .ok (.aload x, len)) (hlen : am_len (.aload x) = 0 ∨ len = am_len (.aload x)) (hdo : am_dl (.aload x) pc ls st h = some σ') (hR1 : σ'.2.2.2.length ≤ R.cells + n0) (hR2 : am_sz σ'.2.2.2 ≤ R.slots + z0) (hfr : am_fr k ≤ R.frames) (hlo : am_lc k ≤ R.locals) (hnl : nl = am_mxl k) (kk : am_Go p l e R s m args below meth c Q D dA b0 base n0 z0 nl σ') : am_Go p l e R s m args below meth c Q D dA b0 base n0 z0 nl (pc, ls, st, h) := by
  obtain ⟨hx, hb, hml, hown, hts, hr, hlk, hin, hK, hN, hX, hb0, hbs⟩ := Cx
  obtain rfl : len = 2 := hlen.resolve_left (fun q => absurd q (by show ¬ (2 : Nat) = 0; decide))
  simp only [am_dl] at hdo
  obtain ⟨v, hv, hk, hf⟩ := am_ga_inv hdo
  obtain rfl := am_nl_inv hf
  intro H locs rl cells slots hW hS hl hn hc hz
  rcases hk with ⟨a, rfl⟩ | rfl
  · exact lv_aload hx hb hdg (hl.get hv (fun q => by cases q)) (kk H locs rl cells slots hW hS hl hn hc hz)
  · exact lv_aload hx hb hdg (hl.get hv (fun q => by cases q)) (kk H locs rl cells slots hW hS hl hn hc hz)
theorem am_k_aload_n (Cx : am_Cx p s m args meth c D dA b0 base X k) {n0 z0 nl pc len : Nat} {ls st : List Value} {h : am_H} {σ' : am_S} {x : Fin 4} (hdg : decode (am_bytes k) pc = .ok (.aload_n x, len)) (hlen : am_len (.aload_n x) = 0 ∨ len = am_len (.aload_n x)) (hdo : am_dl (.aload_n x) pc ls st h = some σ') (hR1 : σ'.2.2.2.length ≤ R.cells + n0) (hR2 : am_sz σ'.2.2.2 ≤ R.slots + z0) (hfr : am_fr k ≤ R.frames) (hlo : am_lc k ≤ R.locals) (hnl : nl = am_mxl k) (kk : am_Go p l e R s m args below meth c Q D dA b0 base n0 z0 nl σ') : am_Go p l e R s m args below meth c Q D dA b0 base n0 z0 nl (pc, ls, st, h) := by
  obtain ⟨hx, hb, hml, hown, hts, hr, hlk, hin, hK, hN, hX, hb0, hbs⟩ := Cx
  obtain rfl : len = 1 := hlen.resolve_left (fun q => absurd q (by show ¬ (1 : Nat) = 0; decide))
  simp only [am_dl] at hdo
  obtain ⟨v, hv, hk, hf⟩ := am_ga_inv hdo
  obtain rfl := am_nl_inv hf
  intro H locs rl cells slots hW hS hl hn hc hz
  rcases hk with ⟨a, rfl⟩ | rfl
  · exact lv_aload_n hx hb hdg rfl (hl.get hv (fun q => by cases q)) (kk H locs rl cells slots hW hS hl hn hc hz)
  · exact lv_aload_n hx hb hdg rfl (hl.get hv (fun q => by cases q)) (kk H locs rl cells slots hW hS hl hn hc hz)
theorem am_k_istore (Cx : am_Cx p s m args meth c D dA b0 base X k) {n0 z0 nl pc len : Nat} {ls st : List Value} {h : am_H} {σ' : am_S} {x : Nat} (hdg : decode (am_bytes k) pc = .ok (.istore x, len)) (hlen : am_len (.istore x) = 0 ∨ len = am_len (.istore x)) (hdo : am_dl (.istore x) pc ls st h = some σ') (hR1 : σ'.2.2.2.length ≤ R.cells + n0) (hR2 : am_sz σ'.2.2.2 ≤ R.slots + z0) (hfr : am_fr k ≤ R.frames) (hlo : am_lc k ≤ R.locals) (hnl : nl = am_mxl k) (kk : am_Go p l e R s m args below meth c Q D dA b0 base n0 z0 nl σ') : am_Go p l e R s m args below meth c Q D dA b0 base n0 z0 nl (pc, ls, st, h) := by
  obtain ⟨hx, hb, hml, hown, hts, hr, hlk, hin, hK, hN, hX, hb0, hbs⟩ := Cx
  obtain rfl : len = 2 := hlen.resolve_left (fun q => absurd q (by show ¬ (2 : Nat) = 0; decide))
  simp only [am_dl] at hdo
  obtain ⟨v, r, rfl, hf⟩ := am_i1_inv hdo
  by_cases hxl : (x : Nat) < ls.length
  · rw [if_pos hxl] at hf
    obtain rfl := am_nl_inv hf
    intro H locs rl cells slots hW hS hl hn hc hz
    obtain ⟨lv, hl1, hl2⟩ := hl
    exact lv_istore hx hb hdg hl1 hxl rfl (fun rl' hl' => kk H locs rl' cells slots hW hS (am_L.p1 (v := .int v) hl2 hxl hl') ((am_p1_len _ _ _).trans hn) hc hz)
  · rw [if_neg hxl] at hf
    cases hf
theorem am_k_istore_n (Cx : am_Cx p s m args meth c D dA b0 base X k) {n0 z0 nl pc len : Nat} {ls st : List Value} {h : am_H} {σ' : am_S} {x : Fin 4} (hdg : decode (am_bytes k) pc = .ok (.istore_n x, len)) (hlen : am_len (.istore_n x) = 0 ∨ len = am_len (.istore_n x)) (hdo : am_dl (.istore_n x) pc ls st h = some σ') (hR1 : σ'.2.2.2.length ≤ R.cells + n0) (hR2 : am_sz σ'.2.2.2 ≤ R.slots + z0) (hfr : am_fr k ≤ R.frames) (hlo : am_lc k ≤ R.locals) (hnl : nl = am_mxl k) (kk : am_Go p l e R s m args below meth c Q D dA b0 base n0 z0 nl σ') : am_Go p l e R s m args below meth c Q D dA b0 base n0 z0 nl (pc, ls, st, h) := by
  obtain ⟨hx, hb, hml, hown, hts, hr, hlk, hin, hK, hN, hX, hb0, hbs⟩ := Cx
  obtain rfl : len = 1 := hlen.resolve_left (fun q => absurd q (by show ¬ (1 : Nat) = 0; decide))
  simp only [am_dl] at hdo
  obtain ⟨v, r, rfl, hf⟩ := am_i1_inv hdo
  by_cases hxl : (x : Nat) < ls.length
  · rw [if_pos hxl] at hf
    obtain rfl := am_nl_inv hf
    intro H locs rl cells slots hW hS hl hn hc hz
    obtain ⟨lv, hl1, hl2⟩ := hl
    exact lv_istore_n hx hb hdg rfl hl1 hxl rfl (fun rl' hl' => kk H locs rl' cells slots hW hS (am_L.p1 (v := .int v) hl2 hxl hl') ((am_p1_len _ _ _).trans hn) hc hz)
  · rw [if_neg hxl] at hf
    cases hf
theorem am_k_lstore (Cx : am_Cx p s m args meth c D dA b0 base X k) {n0 z0 nl pc len : Nat} {ls st : List Value} {h : am_H} {σ' : am_S} {x : Nat} (hdg : decode (am_bytes k) pc = .ok (.lstore x, len)) (hlen : am_len (.lstore x) = 0 ∨ len = am_len (.lstore x)) (hdo : am_dl (.lstore x) pc ls st h = some σ') (hR1 : σ'.2.2.2.length ≤ R.cells + n0) (hR2 : am_sz σ'.2.2.2 ≤ R.slots + z0) (hfr : am_fr k ≤ R.frames) (hlo : am_lc k ≤ R.locals) (hnl : nl = am_mxl k) (kk : am_Go p l e R s m args below meth c Q D dA b0 base n0 z0 nl σ') : am_Go p l e R s m args below meth c Q D dA b0 base n0 z0 nl (pc, ls, st, h) := by
  obtain ⟨hx, hb, hml, hown, hts, hr, hlk, hin, hK, hN, hX, hb0, hbs⟩ := Cx
  obtain rfl : len = 2 := hlen.resolve_left (fun q => absurd q (by show ¬ (2 : Nat) = 0; decide))
  simp only [am_dl] at hdo
  obtain ⟨v, r, rfl, hf⟩ := am_l1_inv hdo
  by_cases hxl : (x : Nat) + 1 < ls.length
  · rw [if_pos hxl] at hf
    obtain rfl := am_nl_inv hf
    intro H locs rl cells slots hW hS hl hn hc hz
    obtain ⟨lv, hl1, hl2⟩ := hl
    exact lv_lstore hx hb hdg hl1 hxl rfl (fun rl' hl' => kk H locs rl' cells slots hW hS (am_L.p2 (v := .long v) hl2 hxl hl') ((am_p2_len _ _ _).trans hn) hc hz)
  · rw [if_neg hxl] at hf
    cases hf
theorem am_k_lstore_n (Cx : am_Cx p s m args meth c D dA b0 base X k) {n0 z0 nl pc len : Nat} {ls st : List Value} {h : am_H} {σ' : am_S} {x : Fin 4} (hdg : decode (am_bytes k) pc = .ok (.lstore_n x, len)) (hlen : am_len (.lstore_n x) = 0 ∨ len = am_len (.lstore_n x)) (hdo : am_dl (.lstore_n x) pc ls st h = some σ') (hR1 : σ'.2.2.2.length ≤ R.cells + n0) (hR2 : am_sz σ'.2.2.2 ≤ R.slots + z0) (hfr : am_fr k ≤ R.frames) (hlo : am_lc k ≤ R.locals) (hnl : nl = am_mxl k) (kk : am_Go p l e R s m args below meth c Q D dA b0 base n0 z0 nl σ') : am_Go p l e R s m args below meth c Q D dA b0 base n0 z0 nl (pc, ls, st, h) := by
  obtain ⟨hx, hb, hml, hown, hts, hr, hlk, hin, hK, hN, hX, hb0, hbs⟩ := Cx
  obtain rfl : len = 1 := hlen.resolve_left (fun q => absurd q (by show ¬ (1 : Nat) = 0; decide))
  simp only [am_dl] at hdo
  obtain ⟨v, r, rfl, hf⟩ := am_l1_inv hdo
  by_cases hxl : (x : Nat) + 1 < ls.length
  · rw [if_pos hxl] at hf
    obtain rfl := am_nl_inv hf
    intro H locs rl cells slots hW hS hl hn hc hz
    obtain ⟨lv, hl1, hl2⟩ := hl
    exact lv_lstore_n hx hb hdg rfl hl1 hxl rfl (fun rl' hl' => kk H locs rl' cells slots hW hS (am_L.p2 (v := .long v) hl2 hxl hl') ((am_p2_len _ _ _).trans hn) hc hz)
  · rw [if_neg hxl] at hf
    cases hf
theorem am_k_astore (Cx : am_Cx p s m args meth c D dA b0 base X k) {n0 z0 nl pc len : Nat} {ls st : List Value} {h : am_H} {σ' : am_S} {x : Nat} (hdg : decode (am_bytes k) pc = .ok (.astore x, len)) (hlen : am_len (.astore x) = 0 ∨ len = am_len (.astore x)) (hdo : am_dl (.astore x) pc ls st h = some σ') (hR1 : σ'.2.2.2.length ≤ R.cells + n0) (hR2 : am_sz σ'.2.2.2 ≤ R.slots + z0) (hfr : am_fr k ≤ R.frames) (hlo : am_lc k ≤ R.locals) (hnl : nl = am_mxl k) (kk : am_Go p l e R s m args below meth c Q D dA b0 base n0 z0 nl σ') : am_Go p l e R s m args below meth c Q D dA b0 base n0 z0 nl (pc, ls, st, h) := by
  obtain ⟨hx, hb, hml, hown, hts, hr, hlk, hin, hK, hN, hX, hb0, hbs⟩ := Cx
  obtain rfl : len = 2 := hlen.resolve_left (fun q => absurd q (by show ¬ (2 : Nat) = 0; decide))
  simp only [am_dl] at hdo
  obtain ⟨v, r, rfl, hf⟩ := am_r1_inv hdo
  by_cases hxl : (x : Nat) < ls.length
  · rw [if_pos hxl] at hf
    obtain rfl := am_nl_inv hf
    intro H locs rl cells slots hW hS hl hn hc hz
    obtain ⟨lv, hl1, hl2⟩ := hl
    exact lv_astore hx hb hdg hl1 hxl rfl (fun rl' hl' => kk H locs rl' cells slots hW hS (am_L.p1 (v := .ref v) hl2 hxl hl') ((am_p1_len _ _ _).trans hn) hc hz)
  · rw [if_neg hxl] at hf
    cases hf
theorem am_k_astore_n (Cx : am_Cx p s m args meth c D dA b0 base X k) {n0 z0 nl pc len : Nat} {ls st : List Value} {h : am_H} {σ' : am_S} {x : Fin 4} (hdg : decode (am_bytes k) pc = .ok (.astore_n x, len)) (hlen : am_len (.astore_n x) = 0 ∨ len = am_len (.astore_n x)) (hdo : am_dl (.astore_n x) pc ls st h = some σ') (hR1 : σ'.2.2.2.length ≤ R.cells + n0) (hR2 : am_sz σ'.2.2.2 ≤ R.slots + z0) (hfr : am_fr k ≤ R.frames) (hlo : am_lc k ≤ R.locals) (hnl : nl = am_mxl k) (kk : am_Go p l e R s m args below meth c Q D dA b0 base n0 z0 nl σ') : am_Go p l e R s m args below meth c Q D dA b0 base n0 z0 nl (pc, ls, st, h) := by
  obtain ⟨hx, hb, hml, hown, hts, hr, hlk, hin, hK, hN, hX, hb0, hbs⟩ := Cx
  obtain rfl : len = 1 := hlen.resolve_left (fun q => absurd q (by show ¬ (1 : Nat) = 0; decide))
  simp only [am_dl] at hdo
  obtain ⟨v, r, rfl, hf⟩ := am_r1_inv hdo
  by_cases hxl : (x : Nat) < ls.length
  · rw [if_pos hxl] at hf
    obtain rfl := am_nl_inv hf
    intro H locs rl cells slots hW hS hl hn hc hz
    obtain ⟨lv, hl1, hl2⟩ := hl
    exact lv_astore_n hx hb hdg rfl hl1 hxl rfl (fun rl' hl' => kk H locs rl' cells slots hW hS (am_L.p1 (v := .ref v) hl2 hxl hl') ((am_p1_len _ _ _).trans hn) hc hz)
  · rw [if_neg hxl] at hf
    cases hf
theorem am_k_iinc (Cx : am_Cx p s m args meth c D dA b0 base X k) {n0 z0 nl pc len : Nat} {ls st : List Value} {h : am_H} {σ' : am_S} {x : Nat} {n : Int} (hdg : decode (am_bytes k) pc = .ok (.iinc x n, len)) (hlen : am_len (.iinc x n) = 0 ∨ len = am_len (.iinc x n)) (hdo : am_dl (.iinc x n) pc ls st h = some σ') (hR1 : σ'.2.2.2.length ≤ R.cells + n0) (hR2 : am_sz σ'.2.2.2 ≤ R.slots + z0) (hfr : am_fr k ≤ R.frames) (hlo : am_lc k ≤ R.locals) (hnl : nl = am_mxl k) (kk : am_Go p l e R s m args below meth c Q D dA b0 base n0 z0 nl σ') : am_Go p l e R s m args below meth c Q D dA b0 base n0 z0 nl (pc, ls, st, h) := by
  obtain ⟨hx, hb, hml, hown, hts, hr, hlk, hin, hK, hN, hX, hb0, hbs⟩ := Cx
  obtain rfl : len = 3 := hlen.resolve_left (fun q => absurd q (by show ¬ (3 : Nat) = 0; decide))
  simp only [am_dl] at hdo
  obtain ⟨v, hv, hf⟩ := am_gi_inv hdo
  obtain rfl := am_nl_inv hf
  intro H locs rl cells slots hW hS hl hn hc hz
  obtain ⟨lv, hl1, hl2⟩ := hl
  have hxl : x < ls.length := (List.getElem?_eq_some_iff.mp hv).1
  obtain ⟨q, hq⟩ := List.getElem?_of_mem (hl2 x _ hv (fun q => by cases q))
  exact lv_iinc hx hb hdg hl1 hq rfl hxl rfl (fun rl' hl' => kk H locs rl' cells slots hW hS (am_L.p1 (v := .int (v + Int32.ofInt n)) hl2 hxl hl') ((am_p1_len _ _ _).trans hn) hc hz)
theorem am_k_dup (Cx : am_Cx p s m args meth c D dA b0 base X k) {n0 z0 nl pc len : Nat} {ls st : List Value} {h : am_H} {σ' : am_P} (hdg : decode (am_bytes k) pc = .ok (.dup, len)) (hlen : am_len (.dup) = 0 ∨ len = am_len (.dup)) (hdo : am_dp X k (.dup) pc st h = some σ') (hR1 : σ'.2.2.length ≤ R.cells + n0) (hR2 : am_sz σ'.2.2 ≤ R.slots + z0) (hfr : am_fr k ≤ R.frames) (hlo : am_lc k ≤ R.locals) (hnl : nl = am_mxl k) (kk : am_Go p l e R s m args below meth c Q D dA b0 base n0 z0 nl (σ'.1, ls, σ'.2.1, σ'.2.2)) : am_Go p l e R s m args below meth c Q D dA b0 base n0 z0 nl (pc, ls, st, h) := by
  obtain ⟨hx, hb, hml, hown, hts, hr, hlk, hin, hK, hN, hX, hb0, hbs⟩ := Cx
  obtain rfl : len = 1 := hlen.resolve_left (fun q => absurd q (by show ¬ (1 : Nat) = 0; decide))
  simp only [am_dp] at hdo
  split at hdo
  · rename_i v r
    by_cases h1 : v.category = 1
    · rw [if_pos h1] at hdo
      obtain rfl := am_nx_inv hdo
      intro H locs rl cells slots hW hS hl hn hc hz
      exact lv_dup hx hb hdg (by rw [am_v_cat]; exact h1) (kk H locs rl cells slots hW hS hl hn hc hz)
    · rw [if_neg h1] at hdo
      cases hdo
  · cases hdo
theorem am_k_dup_x1 (Cx : am_Cx p s m args meth c D dA b0 base X k) {n0 z0 nl pc len : Nat} {ls st : List Value} {h : am_H} {σ' : am_P} (hdg : decode (am_bytes k) pc = .ok (.dup_x1, len)) (hlen : am_len (.dup_x1) = 0 ∨ len = am_len (.dup_x1)) (hdo : am_dp X k (.dup_x1) pc st h = some σ') (hR1 : σ'.2.2.length ≤ R.cells + n0) (hR2 : am_sz σ'.2.2 ≤ R.slots + z0) (hfr : am_fr k ≤ R.frames) (hlo : am_lc k ≤ R.locals) (hnl : nl = am_mxl k) (kk : am_Go p l e R s m args below meth c Q D dA b0 base n0 z0 nl (σ'.1, ls, σ'.2.1, σ'.2.2)) : am_Go p l e R s m args below meth c Q D dA b0 base n0 z0 nl (pc, ls, st, h) := by
  obtain ⟨hx, hb, hml, hown, hts, hr, hlk, hin, hK, hN, hX, hb0, hbs⟩ := Cx
  obtain rfl : len = 1 := hlen.resolve_left (fun q => absurd q (by show ¬ (1 : Nat) = 0; decide))
  simp only [am_dp] at hdo
  split at hdo
  · rename_i v w r
    by_cases h1 : v.category = 1 ∧ w.category = 1
    · rw [if_pos h1] at hdo
      obtain rfl := am_nx_inv hdo
      intro H locs rl cells slots hW hS hl hn hc hz
      exact lv_dup_x1 hx hb hdg (by rw [am_v_cat]; exact h1.1) (by rw [am_v_cat]; exact h1.2) (kk H locs rl cells slots hW hS hl hn hc hz)
    · rw [if_neg h1] at hdo
      cases hdo
  · cases hdo
theorem am_k_dup_x2 (Cx : am_Cx p s m args meth c D dA b0 base X k) {n0 z0 nl pc len : Nat} {ls st : List Value} {h : am_H} {σ' : am_P} (hdg : decode (am_bytes k) pc = .ok (.dup_x2, len)) (hlen : am_len (.dup_x2) = 0 ∨ len = am_len (.dup_x2)) (hdo : am_dp X k (.dup_x2) pc st h = some σ') (hR1 : σ'.2.2.length ≤ R.cells + n0) (hR2 : am_sz σ'.2.2 ≤ R.slots + z0) (hfr : am_fr k ≤ R.frames) (hlo : am_lc k ≤ R.locals) (hnl : nl = am_mxl k) (kk : am_Go p l e R s m args below meth c Q D dA b0 base n0 z0 nl (σ'.1, ls, σ'.2.1, σ'.2.2)) : am_Go p l e R s m args below meth c Q D dA b0 base n0 z0 nl (pc, ls, st, h) := by
  obtain ⟨hx, hb, hml, hown, hts, hr, hlk, hin, hK, hN, hX, hb0, hbs⟩ := Cx
  obtain rfl : len = 1 := hlen.resolve_left (fun q => absurd q (by show ¬ (1 : Nat) = 0; decide))
  simp only [am_dp] at hdo
  split at hdo
  · rename_i v w u r
    by_cases h1 : v.category = 1 ∧ w.category = 1 ∧ u.category = 1
    · rw [if_pos h1] at hdo
      obtain rfl := am_nx_inv hdo
      intro H locs rl cells slots hW hS hl hn hc hz
      exact lv_dup_x2 hx hb hdg (by rw [am_v_cat]; exact h1.1) (by rw [am_v_cat]; exact h1.2.1) (by rw [am_v_cat]; exact h1.2.2) (kk H locs rl cells slots hW hS hl hn hc hz)
    · rw [if_neg h1] at hdo
      cases hdo
  · cases hdo
theorem am_k_dup2 (Cx : am_Cx p s m args meth c D dA b0 base X k) {n0 z0 nl pc len : Nat} {ls st : List Value} {h : am_H} {σ' : am_P} (hdg : decode (am_bytes k) pc = .ok (.dup2, len)) (hlen : am_len (.dup2) = 0 ∨ len = am_len (.dup2)) (hdo : am_dp X k (.dup2) pc st h = some σ') (hR1 : σ'.2.2.length ≤ R.cells + n0) (hR2 : am_sz σ'.2.2 ≤ R.slots + z0) (hfr : am_fr k ≤ R.frames) (hlo : am_lc k ≤ R.locals) (hnl : nl = am_mxl k) (kk : am_Go p l e R s m args below meth c Q D dA b0 base n0 z0 nl (σ'.1, ls, σ'.2.1, σ'.2.2)) : am_Go p l e R s m args below meth c Q D dA b0 base n0 z0 nl (pc, ls, st, h) := by
  obtain ⟨hx, hb, hml, hown, hts, hr, hlk, hin, hK, hN, hX, hb0, hbs⟩ := Cx
  obtain rfl : len = 1 := hlen.resolve_left (fun q => absurd q (by show ¬ (1 : Nat) = 0; decide))
  simp only [am_dp] at hdo
  split at hdo
  · obtain rfl := am_nx_inv hdo
    intro H locs rl cells slots hW hS hl hn hc hz
    exact lv_dup2_2 hx hb hdg rfl (kk H locs rl cells slots hW hS hl hn hc hz)
  · rename_i v w r hne
    by_cases h1 : v.category = 1 ∧ w.category = 1
    · rw [if_pos h1] at hdo
      obtain rfl := am_nx_inv hdo
      intro H locs rl cells slots hW hS hl hn hc hz
      exact lv_dup2_11 hx hb hdg (by rw [am_v_cat]; exact h1.1) (by rw [am_v_cat]; exact h1.2) (kk H locs rl cells slots hW hS hl hn hc hz)
    · rw [if_neg h1] at hdo
      cases hdo
  · cases hdo
theorem am_k_dup2_x1 (Cx : am_Cx p s m args meth c D dA b0 base X k) {n0 z0 nl pc len : Nat} {ls st : List Value} {h : am_H} {σ' : am_P} (hdg : decode (am_bytes k) pc = .ok (.dup2_x1, len)) (hlen : am_len (.dup2_x1) = 0 ∨ len = am_len (.dup2_x1)) (hdo : am_dp X k (.dup2_x1) pc st h = some σ') (hR1 : σ'.2.2.length ≤ R.cells + n0) (hR2 : am_sz σ'.2.2 ≤ R.slots + z0) (hfr : am_fr k ≤ R.frames) (hlo : am_lc k ≤ R.locals) (hnl : nl = am_mxl k) (kk : am_Go p l e R s m args below meth c Q D dA b0 base n0 z0 nl (σ'.1, ls, σ'.2.1, σ'.2.2)) : am_Go p l e R s m args below meth c Q D dA b0 base n0 z0 nl (pc, ls, st, h) := by
  obtain ⟨hx, hb, hml, hown, hts, hr, hlk, hin, hK, hN, hX, hb0, hbs⟩ := Cx
  obtain rfl : len = 1 := hlen.resolve_left (fun q => absurd q (by show ¬ (1 : Nat) = 0; decide))
  simp only [am_dp] at hdo
  split at hdo
  · rename_i x w r
    by_cases h1 : w.category = 1
    · rw [if_pos h1] at hdo
      obtain rfl := am_nx_inv hdo
      intro H locs rl cells slots hW hS hl hn hc hz
      exact lv_dup2_x1_2 (va := .long x) hx hb hdg rfl (by rw [am_v_cat]; exact h1) (kk H locs rl cells slots hW hS hl hn hc hz)
    · rw [if_neg h1] at hdo
      cases hdo
  · cases hdo
theorem am_k_dup2_x2 (Cx : am_Cx p s m args meth c D dA b0 base X k) {n0 z0 nl pc len : Nat} {ls st : List Value} {h : am_H} {σ' : am_P} (hdg : decode (am_bytes k) pc = .ok (.dup2_x2, len)) (hlen : am_len (.dup2_x2) = 0 ∨ len = am_len (.dup2_x2)) (hdo : am_dp X k (.dup2_x2) pc st h = some σ') (hR1 : σ'.2.2.length ≤ R.cells + n0) (hR2 : am_sz σ'.2.2 ≤ R.slots + z0) (hfr : am_fr k ≤ R.frames) (hlo : am_lc k ≤ R.locals) (hnl : nl = am_mxl k) (kk : am_Go p l e R s m args below meth c Q D dA b0 base n0 z0 nl (σ'.1, ls, σ'.2.1, σ'.2.2)) : am_Go p l e R s m args below meth c Q D dA b0 base n0 z0 nl (pc, ls, st, h) := by
  obtain ⟨hx, hb, hml, hown, hts, hr, hlk, hin, hK, hN, hX, hb0, hbs⟩ := Cx
  obtain rfl : len = 1 := hlen.resolve_left (fun q => absurd q (by show ¬ (1 : Nat) = 0; decide))
  simp only [am_dp] at hdo
  split at hdo
  · rename_i x w u r
    by_cases h1 : w.category = 1 ∧ u.category = 1
    · rw [if_pos h1] at hdo
      obtain rfl := am_nx_inv hdo
      intro H locs rl cells slots hW hS hl hn hc hz
      exact lv_dup2_x2_2 (va := .long x) hx hb hdg rfl (by rw [am_v_cat]; exact h1.1) (by rw [am_v_cat]; exact h1.2) (kk H locs rl cells slots hW hS hl hn hc hz)
    · rw [if_neg h1] at hdo
      cases hdo
  · cases hdo
theorem am_k_pop (Cx : am_Cx p s m args meth c D dA b0 base X k) {n0 z0 nl pc len : Nat} {ls st : List Value} {h : am_H} {σ' : am_P} (hdg : decode (am_bytes k) pc = .ok (.pop, len)) (hlen : am_len (.pop) = 0 ∨ len = am_len (.pop)) (hdo : am_dp X k (.pop) pc st h = some σ') (hR1 : σ'.2.2.length ≤ R.cells + n0) (hR2 : am_sz σ'.2.2 ≤ R.slots + z0) (hfr : am_fr k ≤ R.frames) (hlo : am_lc k ≤ R.locals) (hnl : nl = am_mxl k) (kk : am_Go p l e R s m args below meth c Q D dA b0 base n0 z0 nl (σ'.1, ls, σ'.2.1, σ'.2.2)) : am_Go p l e R s m args below meth c Q D dA b0 base n0 z0 nl (pc, ls, st, h) := by
  obtain ⟨hx, hb, hml, hown, hts, hr, hlk, hin, hK, hN, hX, hb0, hbs⟩ := Cx
  obtain rfl : len = 1 := hlen.resolve_left (fun q => absurd q (by show ¬ (1 : Nat) = 0; decide))
  simp only [am_dp] at hdo
  split at hdo
  · rename_i v r
    by_cases h1 : v.category = 1
    · rw [if_pos h1] at hdo
      obtain rfl := am_nx_inv hdo
      intro H locs rl cells slots hW hS hl hn hc hz
      exact lv_pop hx hb hdg (by rw [am_v_cat]; exact h1) (kk H locs rl cells slots hW hS hl hn hc hz)
    · rw [if_neg h1] at hdo
      cases hdo
  · cases hdo
theorem am_k_pop2 (Cx : am_Cx p s m args meth c D dA b0 base X k) {n0 z0 nl pc len : Nat} {ls st : List Value} {h : am_H} {σ' : am_P} (hdg : decode (am_bytes k) pc = .ok (.pop2, len)) (hlen : am_len (.pop2) = 0 ∨ len = am_len (.pop2)) (hdo : am_dp X k (.pop2) pc st h = some σ') (hR1 : σ'.2.2.length ≤ R.cells + n0) (hR2 : am_sz σ'.2.2 ≤ R.slots + z0) (hfr : am_fr k ≤ R.frames) (hlo : am_lc k ≤ R.locals) (hnl : nl = am_mxl k) (kk : am_Go p l e R s m args below meth c Q D dA b0 base n0 z0 nl (σ'.1, ls, σ'.2.1, σ'.2.2)) : am_Go p l e R s m args below meth c Q D dA b0 base n0 z0 nl (pc, ls, st, h) := by
  obtain ⟨hx, hb, hml, hown, hts, hr, hlk, hin, hK, hN, hX, hb0, hbs⟩ := Cx
  obtain rfl : len = 1 := hlen.resolve_left (fun q => absurd q (by show ¬ (1 : Nat) = 0; decide))
  simp only [am_dp] at hdo
  split at hdo
  · rename_i x r
    obtain rfl := am_nx_inv hdo
    intro H locs rl cells slots hW hS hl hn hc hz
    exact lv_pop2_2 (va := .long x) hx hb hdg rfl (kk H locs rl cells slots hW hS hl hn hc hz)
  · cases hdo
theorem am_k_iadd (Cx : am_Cx p s m args meth c D dA b0 base X k) {n0 z0 nl pc len : Nat} {ls st : List Value} {h : am_H} {σ' : am_P} (hdg : decode (am_bytes k) pc = .ok (.iadd, len)) (hlen : am_len (.iadd) = 0 ∨ len = am_len (.iadd)) (hdo : am_dp X k (.iadd) pc st h = some σ') (hR1 : σ'.2.2.length ≤ R.cells + n0) (hR2 : am_sz σ'.2.2 ≤ R.slots + z0) (hfr : am_fr k ≤ R.frames) (hlo : am_lc k ≤ R.locals) (hnl : nl = am_mxl k) (kk : am_Go p l e R s m args below meth c Q D dA b0 base n0 z0 nl (σ'.1, ls, σ'.2.1, σ'.2.2)) : am_Go p l e R s m args below meth c Q D dA b0 base n0 z0 nl (pc, ls, st, h) := by
  obtain ⟨hx, hb, hml, hown, hts, hr, hlk, hin, hK, hN, hX, hb0, hbs⟩ := Cx
  obtain rfl : len = 1 := hlen.resolve_left (fun q => absurd q (by show ¬ (1 : Nat) = 0; decide))
  simp only [am_dp] at hdo
  obtain ⟨x, y, r, rfl, hf⟩ := am_i2_inv hdo
  obtain rfl := am_nx_inv hf
  intro H locs rl cells slots hW hS hl hn hc hz
  exact lv_iadd hx hb hdg (kk H locs rl cells slots hW hS hl hn hc hz)
theorem am_k_isub (Cx : am_Cx p s m args meth c D dA b0 base X k) {n0 z0 nl pc len : Nat} {ls st : List Value} {h : am_H} {σ' : am_P} (hdg : decode (am_bytes k) pc = .ok (.isub, len)) (hlen : am_len (.isub) = 0 ∨ len = am_len (.isub)) (hdo : am_dp X k (.isub) pc st h = some σ') (hR1 : σ'.2.2.length ≤ R.cells + n0) (hR2 : am_sz σ'.2.2 ≤ R.slots + z0) (hfr : am_fr k ≤ R.frames) (hlo : am_lc k ≤ R.locals) (hnl : nl = am_mxl k) (kk : am_Go p l e R s m args below meth c Q D dA b0 base n0 z0 nl (σ'.1, ls, σ'.2.1, σ'.2.2)) : am_Go p l e R s m args below meth c Q D dA b0 base n0 z0 nl (pc, ls, st, h) := by
  obtain ⟨hx, hb, hml, hown, hts, hr, hlk, hin, hK, hN, hX, hb0, hbs⟩ := Cx
  obtain rfl : len = 1 := hlen.resolve_left (fun q => absurd q (by show ¬ (1 : Nat) = 0; decide))
  simp only [am_dp] at hdo
  obtain ⟨x, y, r, rfl, hf⟩ := am_i2_inv hdo
  obtain rfl := am_nx_inv hf
  intro H locs rl cells slots hW hS hl hn hc hz
  exact lv_isub hx hb hdg (kk H locs rl cells slots hW hS hl hn hc hz)
theorem am_k_imul (Cx : am_Cx p s m args meth c D dA b0 base X k) {n0 z0 nl pc len : Nat} {ls st : List Value} {h : am_H} {σ' : am_P} (hdg : decode (am_bytes k) pc = .ok (.imul, len)) (hlen : am_len (.imul) = 0 ∨ len = am_len (.imul)) (hdo : am_dp X k (.imul) pc st h = some σ') (hR1 : σ'.2.2.length ≤ R.cells + n0) (hR2 : am_sz σ'.2.2 ≤ R.slots + z0) (hfr : am_fr k ≤ R.frames) (hlo : am_lc k ≤ R.locals) (hnl : nl = am_mxl k) (kk : am_Go p l e R s m args below meth c Q D dA b0 base n0 z0 nl (σ'.1, ls, σ'.2.1, σ'.2.2)) : am_Go p l e R s m args below meth c Q D dA b0 base n0 z0 nl (pc, ls, st, h) := by
  obtain ⟨hx, hb, hml, hown, hts, hr, hlk, hin, hK, hN, hX, hb0, hbs⟩ := Cx
  obtain rfl : len = 1 := hlen.resolve_left (fun q => absurd q (by show ¬ (1 : Nat) = 0; decide))
  simp only [am_dp] at hdo
  obtain ⟨x, y, r, rfl, hf⟩ := am_i2_inv hdo
  obtain rfl := am_nx_inv hf
  intro H locs rl cells slots hW hS hl hn hc hz
  exact lv_imul hx hb hdg (kk H locs rl cells slots hW hS hl hn hc hz)
theorem am_k_iand (Cx : am_Cx p s m args meth c D dA b0 base X k) {n0 z0 nl pc len : Nat} {ls st : List Value} {h : am_H} {σ' : am_P} (hdg : decode (am_bytes k) pc = .ok (.iand, len)) (hlen : am_len (.iand) = 0 ∨ len = am_len (.iand)) (hdo : am_dp X k (.iand) pc st h = some σ') (hR1 : σ'.2.2.length ≤ R.cells + n0) (hR2 : am_sz σ'.2.2 ≤ R.slots + z0) (hfr : am_fr k ≤ R.frames) (hlo : am_lc k ≤ R.locals) (hnl : nl = am_mxl k) (kk : am_Go p l e R s m args below meth c Q D dA b0 base n0 z0 nl (σ'.1, ls, σ'.2.1, σ'.2.2)) : am_Go p l e R s m args below meth c Q D dA b0 base n0 z0 nl (pc, ls, st, h) := by
  obtain ⟨hx, hb, hml, hown, hts, hr, hlk, hin, hK, hN, hX, hb0, hbs⟩ := Cx
  obtain rfl : len = 1 := hlen.resolve_left (fun q => absurd q (by show ¬ (1 : Nat) = 0; decide))
  simp only [am_dp] at hdo
  obtain ⟨x, y, r, rfl, hf⟩ := am_i2_inv hdo
  obtain rfl := am_nx_inv hf
  intro H locs rl cells slots hW hS hl hn hc hz
  exact lv_iand hx hb hdg (kk H locs rl cells slots hW hS hl hn hc hz)
theorem am_k_ior (Cx : am_Cx p s m args meth c D dA b0 base X k) {n0 z0 nl pc len : Nat} {ls st : List Value} {h : am_H} {σ' : am_P} (hdg : decode (am_bytes k) pc = .ok (.ior, len)) (hlen : am_len (.ior) = 0 ∨ len = am_len (.ior)) (hdo : am_dp X k (.ior) pc st h = some σ') (hR1 : σ'.2.2.length ≤ R.cells + n0) (hR2 : am_sz σ'.2.2 ≤ R.slots + z0) (hfr : am_fr k ≤ R.frames) (hlo : am_lc k ≤ R.locals) (hnl : nl = am_mxl k) (kk : am_Go p l e R s m args below meth c Q D dA b0 base n0 z0 nl (σ'.1, ls, σ'.2.1, σ'.2.2)) : am_Go p l e R s m args below meth c Q D dA b0 base n0 z0 nl (pc, ls, st, h) := by
  obtain ⟨hx, hb, hml, hown, hts, hr, hlk, hin, hK, hN, hX, hb0, hbs⟩ := Cx
  obtain rfl : len = 1 := hlen.resolve_left (fun q => absurd q (by show ¬ (1 : Nat) = 0; decide))
  simp only [am_dp] at hdo
  obtain ⟨x, y, r, rfl, hf⟩ := am_i2_inv hdo
  obtain rfl := am_nx_inv hf
  intro H locs rl cells slots hW hS hl hn hc hz
  exact lv_ior hx hb hdg (kk H locs rl cells slots hW hS hl hn hc hz)
theorem am_k_ixor (Cx : am_Cx p s m args meth c D dA b0 base X k) {n0 z0 nl pc len : Nat} {ls st : List Value} {h : am_H} {σ' : am_P} (hdg : decode (am_bytes k) pc = .ok (.ixor, len)) (hlen : am_len (.ixor) = 0 ∨ len = am_len (.ixor)) (hdo : am_dp X k (.ixor) pc st h = some σ') (hR1 : σ'.2.2.length ≤ R.cells + n0) (hR2 : am_sz σ'.2.2 ≤ R.slots + z0) (hfr : am_fr k ≤ R.frames) (hlo : am_lc k ≤ R.locals) (hnl : nl = am_mxl k) (kk : am_Go p l e R s m args below meth c Q D dA b0 base n0 z0 nl (σ'.1, ls, σ'.2.1, σ'.2.2)) : am_Go p l e R s m args below meth c Q D dA b0 base n0 z0 nl (pc, ls, st, h) := by
  obtain ⟨hx, hb, hml, hown, hts, hr, hlk, hin, hK, hN, hX, hb0, hbs⟩ := Cx
  obtain rfl : len = 1 := hlen.resolve_left (fun q => absurd q (by show ¬ (1 : Nat) = 0; decide))
  simp only [am_dp] at hdo
  obtain ⟨x, y, r, rfl, hf⟩ := am_i2_inv hdo
  obtain rfl := am_nx_inv hf
  intro H locs rl cells slots hW hS hl hn hc hz
  exact lv_ixor hx hb hdg (kk H locs rl cells slots hW hS hl hn hc hz)
theorem am_k_ishl (Cx : am_Cx p s m args meth c D dA b0 base X k) {n0 z0 nl pc len : Nat} {ls st : List Value} {h : am_H} {σ' : am_P} (hdg : decode (am_bytes k) pc = .ok (.ishl, len)) (hlen : am_len (.ishl) = 0 ∨ len = am_len (.ishl)) (hdo : am_dp X k (.ishl) pc st h = some σ') (hR1 : σ'.2.2.length ≤ R.cells + n0) (hR2 : am_sz σ'.2.2 ≤ R.slots + z0) (hfr : am_fr k ≤ R.frames) (hlo : am_lc k ≤ R.locals) (hnl : nl = am_mxl k) (kk : am_Go p l e R s m args below meth c Q D dA b0 base n0 z0 nl (σ'.1, ls, σ'.2.1, σ'.2.2)) : am_Go p l e R s m args below meth c Q D dA b0 base n0 z0 nl (pc, ls, st, h) := by
  obtain ⟨hx, hb, hml, hown, hts, hr, hlk, hin, hK, hN, hX, hb0, hbs⟩ := Cx
  obtain rfl : len = 1 := hlen.resolve_left (fun q => absurd q (by show ¬ (1 : Nat) = 0; decide))
  simp only [am_dp] at hdo
  obtain ⟨x, y, r, rfl, hf⟩ := am_i2_inv hdo
  obtain rfl := am_nx_inv hf
  intro H locs rl cells slots hW hS hl hn hc hz
  exact lv_ishl hx hb hdg (kk H locs rl cells slots hW hS hl hn hc hz)
theorem am_k_ishr (Cx : am_Cx p s m args meth c D dA b0 base X k) {n0 z0 nl pc len : Nat} {ls st : List Value} {h : am_H} {σ' : am_P} (hdg : decode (am_bytes k) pc = .ok (.ishr, len)) (hlen : am_len (.ishr) = 0 ∨ len = am_len (.ishr)) (hdo : am_dp X k (.ishr) pc st h = some σ') (hR1 : σ'.2.2.length ≤ R.cells + n0) (hR2 : am_sz σ'.2.2 ≤ R.slots + z0) (hfr : am_fr k ≤ R.frames) (hlo : am_lc k ≤ R.locals) (hnl : nl = am_mxl k) (kk : am_Go p l e R s m args below meth c Q D dA b0 base n0 z0 nl (σ'.1, ls, σ'.2.1, σ'.2.2)) : am_Go p l e R s m args below meth c Q D dA b0 base n0 z0 nl (pc, ls, st, h) := by
  obtain ⟨hx, hb, hml, hown, hts, hr, hlk, hin, hK, hN, hX, hb0, hbs⟩ := Cx
  obtain rfl : len = 1 := hlen.resolve_left (fun q => absurd q (by show ¬ (1 : Nat) = 0; decide))
  simp only [am_dp] at hdo
  obtain ⟨x, y, r, rfl, hf⟩ := am_i2_inv hdo
  obtain rfl := am_nx_inv hf
  intro H locs rl cells slots hW hS hl hn hc hz
  exact lv_ishr hx hb hdg (kk H locs rl cells slots hW hS hl hn hc hz)
theorem am_k_iushr (Cx : am_Cx p s m args meth c D dA b0 base X k) {n0 z0 nl pc len : Nat} {ls st : List Value} {h : am_H} {σ' : am_P} (hdg : decode (am_bytes k) pc = .ok (.iushr, len)) (hlen : am_len (.iushr) = 0 ∨ len = am_len (.iushr)) (hdo : am_dp X k (.iushr) pc st h = some σ') (hR1 : σ'.2.2.length ≤ R.cells + n0) (hR2 : am_sz σ'.2.2 ≤ R.slots + z0) (hfr : am_fr k ≤ R.frames) (hlo : am_lc k ≤ R.locals) (hnl : nl = am_mxl k) (kk : am_Go p l e R s m args below meth c Q D dA b0 base n0 z0 nl (σ'.1, ls, σ'.2.1, σ'.2.2)) : am_Go p l e R s m args below meth c Q D dA b0 base n0 z0 nl (pc, ls, st, h) := by
  obtain ⟨hx, hb, hml, hown, hts, hr, hlk, hin, hK, hN, hX, hb0, hbs⟩ := Cx
  obtain rfl : len = 1 := hlen.resolve_left (fun q => absurd q (by show ¬ (1 : Nat) = 0; decide))
  simp only [am_dp] at hdo
  obtain ⟨x, y, r, rfl, hf⟩ := am_i2_inv hdo
  obtain rfl := am_nx_inv hf
  intro H locs rl cells slots hW hS hl hn hc hz
  exact lv_iushr hx hb hdg rfl (kk H locs rl cells slots hW hS hl hn hc hz)
theorem am_k_ladd (Cx : am_Cx p s m args meth c D dA b0 base X k) {n0 z0 nl pc len : Nat} {ls st : List Value} {h : am_H} {σ' : am_P} (hdg : decode (am_bytes k) pc = .ok (.ladd, len)) (hlen : am_len (.ladd) = 0 ∨ len = am_len (.ladd)) (hdo : am_dp X k (.ladd) pc st h = some σ') (hR1 : σ'.2.2.length ≤ R.cells + n0) (hR2 : am_sz σ'.2.2 ≤ R.slots + z0) (hfr : am_fr k ≤ R.frames) (hlo : am_lc k ≤ R.locals) (hnl : nl = am_mxl k) (kk : am_Go p l e R s m args below meth c Q D dA b0 base n0 z0 nl (σ'.1, ls, σ'.2.1, σ'.2.2)) : am_Go p l e R s m args below meth c Q D dA b0 base n0 z0 nl (pc, ls, st, h) := by
  obtain ⟨hx, hb, hml, hown, hts, hr, hlk, hin, hK, hN, hX, hb0, hbs⟩ := Cx
  obtain rfl : len = 1 := hlen.resolve_left (fun q => absurd q (by show ¬ (1 : Nat) = 0; decide))
  simp only [am_dp] at hdo
  obtain ⟨x, y, r, rfl, hf⟩ := am_l2_inv hdo
  obtain rfl := am_nx_inv hf
  intro H locs rl cells slots hW hS hl hn hc hz
  exact lv_ladd hx hb hdg (kk H locs rl cells slots hW hS hl hn hc hz)
theorem am_k_lsub (Cx : am_Cx p s m args meth c D dA b0 base X k) {n0 z0 nl pc len : Nat} {ls st : List Value} {h : am_H} {σ' : am_P} (hdg : decode (am_bytes k) pc = .ok (.lsub, len)) (hlen : am_len (.lsub) = 0 ∨ len = am_len (.lsub)) (hdo : am_dp X k (.lsub) pc st h = some σ') (hR1 : σ'.2.2.length ≤ R.cells + n0) (hR2 : am_sz σ'.2.2 ≤ R.slots + z0) (hfr : am_fr k ≤ R.frames) (hlo : am_lc k ≤ R.locals) (hnl : nl = am_mxl k) (kk : am_Go p l e R s m args below meth c Q D dA b0 base n0 z0 nl (σ'.1, ls, σ'.2.1, σ'.2.2)) : am_Go p l e R s m args below meth c Q D dA b0 base n0 z0 nl (pc, ls, st, h) := by
  obtain ⟨hx, hb, hml, hown, hts, hr, hlk, hin, hK, hN, hX, hb0, hbs⟩ := Cx
  obtain rfl : len = 1 := hlen.resolve_left (fun q => absurd q (by show ¬ (1 : Nat) = 0; decide))
  simp only [am_dp] at hdo
  obtain ⟨x, y, r, rfl, hf⟩ := am_l2_inv hdo
  obtain rfl := am_nx_inv hf
  intro H locs rl cells slots hW hS hl hn hc hz
  exact lv_lsub hx hb hdg (kk H locs rl cells slots hW hS hl hn hc hz)
theorem am_k_lmul (Cx : am_Cx p s m args meth c D dA b0 base X k) {n0 z0 nl pc len : Nat} {ls st : List Value} {h : am_H} {σ' : am_P} (hdg : decode (am_bytes k) pc = .ok (.lmul, len)) (hlen : am_len (.lmul) = 0 ∨ len = am_len (.lmul)) (hdo : am_dp X k (.lmul) pc st h = some σ') (hR1 : σ'.2.2.length ≤ R.cells + n0) (hR2 : am_sz σ'.2.2 ≤ R.slots + z0) (hfr : am_fr k ≤ R.frames) (hlo : am_lc k ≤ R.locals) (hnl : nl = am_mxl k) (kk : am_Go p l e R s m args below meth c Q D dA b0 base n0 z0 nl (σ'.1, ls, σ'.2.1, σ'.2.2)) : am_Go p l e R s m args below meth c Q D dA b0 base n0 z0 nl (pc, ls, st, h) := by
  obtain ⟨hx, hb, hml, hown, hts, hr, hlk, hin, hK, hN, hX, hb0, hbs⟩ := Cx
  obtain rfl : len = 1 := hlen.resolve_left (fun q => absurd q (by show ¬ (1 : Nat) = 0; decide))
  simp only [am_dp] at hdo
  obtain ⟨x, y, r, rfl, hf⟩ := am_l2_inv hdo
  obtain rfl := am_nx_inv hf
  intro H locs rl cells slots hW hS hl hn hc hz
  exact lv_lmul hx hb hdg (kk H locs rl cells slots hW hS hl hn hc hz)
theorem am_k_land (Cx : am_Cx p s m args meth c D dA b0 base X k) {n0 z0 nl pc len : Nat} {ls st : List Value} {h : am_H} {σ' : am_P} (hdg : decode (am_bytes k) pc = .ok (.land, len)) (hlen : am_len (.land) = 0 ∨ len = am_len (.land)) (hdo : am_dp X k (.land) pc st h = some σ') (hR1 : σ'.2.2.length ≤ R.cells + n0) (hR2 : am_sz σ'.2.2 ≤ R.slots + z0) (hfr : am_fr k ≤ R.frames) (hlo : am_lc k ≤ R.locals) (hnl : nl = am_mxl k) (kk : am_Go p l e R s m args below meth c Q D dA b0 base n0 z0 nl (σ'.1, ls, σ'.2.1, σ'.2.2)) : am_Go p l e R s m args below meth c Q D dA b0 base n0 z0 nl (pc, ls, st, h) := by
  obtain ⟨hx, hb, hml, hown, hts, hr, hlk, hin, hK, hN, hX, hb0, hbs⟩ := Cx
  obtain rfl : len = 1 := hlen.resolve_left (fun q => absurd q (by show ¬ (1 : Nat) = 0; decide))
  simp only [am_dp] at hdo
  obtain ⟨x, y, r, rfl, hf⟩ := am_l2_inv hdo
  obtain rfl := am_nx_inv hf
  intro H locs rl cells slots hW hS hl hn hc hz
  exact lv_land hx hb hdg (kk H locs rl cells slots hW hS hl hn hc hz)
theorem am_k_lor (Cx : am_Cx p s m args meth c D dA b0 base X k) {n0 z0 nl pc len : Nat} {ls st : List Value} {h : am_H} {σ' : am_P} (hdg : decode (am_bytes k) pc = .ok (.lor, len)) (hlen : am_len (.lor) = 0 ∨ len = am_len (.lor)) (hdo : am_dp X k (.lor) pc st h = some σ') (hR1 : σ'.2.2.length ≤ R.cells + n0) (hR2 : am_sz σ'.2.2 ≤ R.slots + z0) (hfr : am_fr k ≤ R.frames) (hlo : am_lc k ≤ R.locals) (hnl : nl = am_mxl k) (kk : am_Go p l e R s m args below meth c Q D dA b0 base n0 z0 nl (σ'.1, ls, σ'.2.1, σ'.2.2)) : am_Go p l e R s m args below meth c Q D dA b0 base n0 z0 nl (pc, ls, st, h) := by
  obtain ⟨hx, hb, hml, hown, hts, hr, hlk, hin, hK, hN, hX, hb0, hbs⟩ := Cx
  obtain rfl : len = 1 := hlen.resolve_left (fun q => absurd q (by show ¬ (1 : Nat) = 0; decide))
  simp only [am_dp] at hdo
  obtain ⟨x, y, r, rfl, hf⟩ := am_l2_inv hdo
  obtain rfl := am_nx_inv hf
  intro H locs rl cells slots hW hS hl hn hc hz
  exact lv_lor hx hb hdg (kk H locs rl cells slots hW hS hl hn hc hz)
theorem am_k_lxor (Cx : am_Cx p s m args meth c D dA b0 base X k) {n0 z0 nl pc len : Nat} {ls st : List Value} {h : am_H} {σ' : am_P} (hdg : decode (am_bytes k) pc = .ok (.lxor, len)) (hlen : am_len (.lxor) = 0 ∨ len = am_len (.lxor)) (hdo : am_dp X k (.lxor) pc st h = some σ') (hR1 : σ'.2.2.length ≤ R.cells + n0) (hR2 : am_sz σ'.2.2 ≤ R.slots + z0) (hfr : am_fr k ≤ R.frames) (hlo : am_lc k ≤ R.locals) (hnl : nl = am_mxl k) (kk : am_Go p l e R s m args below meth c Q D dA b0 base n0 z0 nl (σ'.1, ls, σ'.2.1, σ'.2.2)) : am_Go p l e R s m args below meth c Q D dA b0 base n0 z0 nl (pc, ls, st, h) := by
  obtain ⟨hx, hb, hml, hown, hts, hr, hlk, hin, hK, hN, hX, hb0, hbs⟩ := Cx
  obtain rfl : len = 1 := hlen.resolve_left (fun q => absurd q (by show ¬ (1 : Nat) = 0; decide))
  simp only [am_dp] at hdo
  obtain ⟨x, y, r, rfl, hf⟩ := am_l2_inv hdo
  obtain rfl := am_nx_inv hf
  intro H locs rl cells slots hW hS hl hn hc hz
  exact lv_lxor hx hb hdg (kk H locs rl cells slots hW hS hl hn hc hz)
theorem am_k_lcmp (Cx : am_Cx p s m args meth c D dA b0 base X k) {n0 z0 nl pc len : Nat} {ls st : List Value} {h : am_H} {σ' : am_P} (hdg : decode (am_bytes k) pc = .ok (.lcmp, len)) (hlen : am_len (.lcmp) = 0 ∨ len = am_len (.lcmp)) (hdo : am_dp X k (.lcmp) pc st h = some σ') (hR1 : σ'.2.2.length ≤ R.cells + n0) (hR2 : am_sz σ'.2.2 ≤ R.slots + z0) (hfr : am_fr k ≤ R.frames) (hlo : am_lc k ≤ R.locals) (hnl : nl = am_mxl k) (kk : am_Go p l e R s m args below meth c Q D dA b0 base n0 z0 nl (σ'.1, ls, σ'.2.1, σ'.2.2)) : am_Go p l e R s m args below meth c Q D dA b0 base n0 z0 nl (pc, ls, st, h) := by
  obtain ⟨hx, hb, hml, hown, hts, hr, hlk, hin, hK, hN, hX, hb0, hbs⟩ := Cx
  obtain rfl : len = 1 := hlen.resolve_left (fun q => absurd q (by show ¬ (1 : Nat) = 0; decide))
  simp only [am_dp] at hdo
  obtain ⟨x, y, r, rfl, hf⟩ := am_l2_inv hdo
  obtain rfl := am_nx_inv hf
  intro H locs rl cells slots hW hS hl hn hc hz
  exact W.lcmp hx hb hdg (kk H locs rl cells slots hW hS hl hn hc hz)
theorem am_k_idiv (Cx : am_Cx p s m args meth c D dA b0 base X k) {n0 z0 nl pc len : Nat} {ls st : List Value} {h : am_H} {σ' : am_P} (hdg : decode (am_bytes k) pc = .ok (.idiv, len)) (hlen : am_len (.idiv) = 0 ∨ len = am_len (.idiv)) (hdo : am_dp X k (.idiv) pc st h = some σ') (hR1 : σ'.2.2.length ≤ R.cells + n0) (hR2 : am_sz σ'.2.2 ≤ R.slots + z0) (hfr : am_fr k ≤ R.frames) (hlo : am_lc k ≤ R.locals) (hnl : nl = am_mxl k) (kk : am_Go p l e R s m args below meth c Q D dA b0 base n0 z0 nl (σ'.1, ls, σ'.2.1, σ'.2.2)) : am_Go p l e R s m args below meth c Q D dA b0 base n0 z0 nl (pc, ls, st, h) := by
  obtain ⟨hx, hb, hml, hown, hts, hr, hlk, hin, hK, hN, hX, hb0, hbs⟩ := Cx
  obtain rfl : len = 1 := hlen.resolve_left (fun q => absurd q (by show ¬ (1 : Nat) = 0; decide))
  simp only [am_dp] at hdo
  obtain ⟨x, y, r, rfl, hf⟩ := am_i2_inv hdo
  by_cases hy : y = 0
  · rw [if_pos hy] at hf
    cases hf
  · rw [if_neg hy] at hf
    obtain rfl := am_nx_inv hf
    intro H locs rl cells slots hW hS hl hn hc hz
    exact lv_idiv hx hb hdg hy (kk H locs rl cells slots hW hS hl hn hc hz)
theorem am_k_irem (Cx : am_Cx p s m args meth c D dA b0 base X k) {n0 z0 nl pc len : Nat} {ls st : List Value} {h : am_H} {σ' : am_P} (hdg : decode (am_bytes k) pc = .ok (.irem, len)) (hlen : am_len (.irem) = 0 ∨ len = am_len (.irem)) (hdo : am_dp X k (.irem) pc st h = some σ') (hR1 : σ'.2.2.length ≤ R.cells + n0) (hR2 : am_sz σ'.2.2 ≤ R.slots + z0) (hfr : am_fr k ≤ R.frames) (hlo : am_lc k ≤ R.locals) (hnl : nl = am_mxl k) (kk : am_Go p l e R s m args below meth c Q D dA b0 base n0 z0 nl (σ'.1, ls, σ'.2.1, σ'.2.2)) : am_Go p l e R s m args below meth c Q D dA b0 base n0 z0 nl (pc, ls, st, h) := by
  obtain ⟨hx, hb, hml, hown, hts, hr, hlk, hin, hK, hN, hX, hb0, hbs⟩ := Cx
  obtain rfl : len = 1 := hlen.resolve_left (fun q => absurd q (by show ¬ (1 : Nat) = 0; decide))
  simp only [am_dp] at hdo
  obtain ⟨x, y, r, rfl, hf⟩ := am_i2_inv hdo
  by_cases hy : y = 0
  · rw [if_pos hy] at hf
    cases hf
  · rw [if_neg hy] at hf
    obtain rfl := am_nx_inv hf
    intro H locs rl cells slots hW hS hl hn hc hz
    exact lv_irem hx hb hdg hy (kk H locs rl cells slots hW hS hl hn hc hz)
theorem am_k_ldiv (Cx : am_Cx p s m args meth c D dA b0 base X k) {n0 z0 nl pc len : Nat} {ls st : List Value} {h : am_H} {σ' : am_P} (hdg : decode (am_bytes k) pc = .ok (.ldiv, len)) (hlen : am_len (.ldiv) = 0 ∨ len = am_len (.ldiv)) (hdo : am_dp X k (.ldiv) pc st h = some σ') (hR1 : σ'.2.2.length ≤ R.cells + n0) (hR2 : am_sz σ'.2.2 ≤ R.slots + z0) (hfr : am_fr k ≤ R.frames) (hlo : am_lc k ≤ R.locals) (hnl : nl = am_mxl k) (kk : am_Go p l e R s m args below meth c Q D dA b0 base n0 z0 nl (σ'.1, ls, σ'.2.1, σ'.2.2)) : am_Go p l e R s m args below meth c Q D dA b0 base n0 z0 nl (pc, ls, st, h) := by
  obtain ⟨hx, hb, hml, hown, hts, hr, hlk, hin, hK, hN, hX, hb0, hbs⟩ := Cx
  obtain rfl : len = 1 := hlen.resolve_left (fun q => absurd q (by show ¬ (1 : Nat) = 0; decide))
  simp only [am_dp] at hdo
  obtain ⟨x, y, r, rfl, hf⟩ := am_l2_inv hdo
  by_cases hy : y = 0
  · rw [if_pos hy] at hf
    cases hf
  · rw [if_neg hy] at hf
    obtain rfl := am_nx_inv hf
    intro H locs rl cells slots hW hS hl hn hc hz
    exact lv_ldiv hx hb hdg hy (kk H locs rl cells slots hW hS hl hn hc hz)
theorem am_k_lrem (Cx : am_Cx p s m args meth c D dA b0 base X k) {n0 z0 nl pc len : Nat} {ls st : List Value} {h : am_H} {σ' : am_P} (hdg : decode (am_bytes k) pc = .ok (.lrem, len)) (hlen : am_len (.lrem) = 0 ∨ len = am_len (.lrem)) (hdo : am_dp X k (.lrem) pc st h = some σ') (hR1 : σ'.2.2.length ≤ R.cells + n0) (hR2 : am_sz σ'.2.2 ≤ R.slots + z0) (hfr : am_fr k ≤ R.frames) (hlo : am_lc k ≤ R.locals) (hnl : nl = am_mxl k) (kk : am_Go p l e R s m args below meth c Q D dA b0 base n0 z0 nl (σ'.1, ls, σ'.2.1, σ'.2.2)) : am_Go p l e R s m args below meth c Q D dA b0 base n0 z0 nl (pc, ls, st, h) := by
  obtain ⟨hx, hb, hml, hown, hts, hr, hlk, hin, hK, hN, hX, hb0, hbs⟩ := Cx
  obtain rfl : len = 1 := hlen.resolve_left (fun q => absurd q (by show ¬ (1 : Nat) = 0; decide))
  simp only [am_dp] at hdo
  obtain ⟨x, y, r, rfl, hf⟩ := am_l2_inv hdo
  by_cases hy : y = 0
  · rw [if_pos hy] at hf
    cases hf
  · rw [if_neg hy] at hf
    obtain rfl := am_nx_inv hf
    intro H locs rl cells slots hW hS hl hn hc hz
    exact lv_lrem hx hb hdg hy (kk H locs rl cells slots hW hS hl hn hc hz)
theorem am_k_ineg (Cx : am_Cx p s m args meth c D dA b0 base X k) {n0 z0 nl pc len : Nat} {ls st : List Value} {h : am_H} {σ' : am_P} (hdg : decode (am_bytes k) pc = .ok (.ineg, len)) (hlen : am_len (.ineg) = 0 ∨ len = am_len (.ineg)) (hdo : am_dp X k (.ineg) pc st h = some σ') (hR1 : σ'.2.2.length ≤ R.cells + n0) (hR2 : am_sz σ'.2.2 ≤ R.slots + z0) (hfr : am_fr k ≤ R.frames) (hlo : am_lc k ≤ R.locals) (hnl : nl = am_mxl k) (kk : am_Go p l e R s m args below meth c Q D dA b0 base n0 z0 nl (σ'.1, ls, σ'.2.1, σ'.2.2)) : am_Go p l e R s m args below meth c Q D dA b0 base n0 z0 nl (pc, ls, st, h) := by
  obtain ⟨hx, hb, hml, hown, hts, hr, hlk, hin, hK, hN, hX, hb0, hbs⟩ := Cx
  obtain rfl : len = 1 := hlen.resolve_left (fun q => absurd q (by show ¬ (1 : Nat) = 0; decide))
  simp only [am_dp] at hdo
  obtain ⟨x, r, rfl, hf⟩ := am_i1_inv hdo
  obtain rfl := am_nx_inv hf
  intro H locs rl cells slots hW hS hl hn hc hz
  exact lv_ineg hx hb hdg (kk H locs rl cells slots hW hS hl hn hc hz)
theorem am_k_lneg (Cx : am_Cx p s m args meth c D dA b0 base X k) {n0 z0 nl pc len : Nat} {ls st : List Value} {h : am_H} {σ' : am_P} (hdg : decode (am_bytes k) pc = .ok (.lneg, len)) (hlen : am_len (.lneg) = 0 ∨ len = am_len (.lneg)) (hdo : am_dp X k (.lneg) pc st h = some σ') (hR1 : σ'.2.2.length ≤ R.cells + n0) (hR2 : am_sz σ'.2.2 ≤ R.slots + z0) (hfr : am_fr k ≤ R.frames) (hlo : am_lc k ≤ R.locals) (hnl : nl = am_mxl k) (kk : am_Go p l e R s m args below meth c Q D dA b0 base n0 z0 nl (σ'.1, ls, σ'.2.1, σ'.2.2)) : am_Go p l e R s m args below meth c Q D dA b0 base n0 z0 nl (pc, ls, st, h) := by
  obtain ⟨hx, hb, hml, hown, hts, hr, hlk, hin, hK, hN, hX, hb0, hbs⟩ := Cx
  obtain rfl : len = 1 := hlen.resolve_left (fun q => absurd q (by show ¬ (1 : Nat) = 0; decide))
  simp only [am_dp] at hdo
  obtain ⟨x, r, rfl, hf⟩ := am_l1_inv hdo
  obtain rfl := am_nx_inv hf
  intro H locs rl cells slots hW hS hl hn hc hz
  exact lv_lneg hx hb hdg (kk H locs rl cells slots hW hS hl hn hc hz)
theorem am_k_i2l (Cx : am_Cx p s m args meth c D dA b0 base X k) {n0 z0 nl pc len : Nat} {ls st : List Value} {h : am_H} {σ' : am_P} (hdg : decode (am_bytes k) pc = .ok (.i2l, len)) (hlen : am_len (.i2l) = 0 ∨ len = am_len (.i2l)) (hdo : am_dp X k (.i2l) pc st h = some σ') (hR1 : σ'.2.2.length ≤ R.cells + n0) (hR2 : am_sz σ'.2.2 ≤ R.slots + z0) (hfr : am_fr k ≤ R.frames) (hlo : am_lc k ≤ R.locals) (hnl : nl = am_mxl k) (kk : am_Go p l e R s m args below meth c Q D dA b0 base n0 z0 nl (σ'.1, ls, σ'.2.1, σ'.2.2)) : am_Go p l e R s m args below meth c Q D dA b0 base n0 z0 nl (pc, ls, st, h) := by
  obtain ⟨hx, hb, hml, hown, hts, hr, hlk, hin, hK, hN, hX, hb0, hbs⟩ := Cx
  obtain rfl : len = 1 := hlen.resolve_left (fun q => absurd q (by show ¬ (1 : Nat) = 0; decide))
  simp only [am_dp] at hdo
  obtain ⟨x, r, rfl, hf⟩ := am_i1_inv hdo
  obtain rfl := am_nx_inv hf
  intro H locs rl cells slots hW hS hl hn hc hz
  exact lv_i2l hx hb hdg rfl (kk H locs rl cells slots hW hS hl hn hc hz)
theorem am_k_l2i (Cx : am_Cx p s m args meth c D dA b0 base X k) {n0 z0 nl pc len : Nat} {ls st : List Value} {h : am_H} {σ' : am_P} (hdg : decode (am_bytes k) pc = .ok (.l2i, len)) (hlen : am_len (.l2i) = 0 ∨ len = am_len (.l2i)) (hdo : am_dp X k (.l2i) pc st h = some σ') (hR1 : σ'.2.2.length ≤ R.cells + n0) (hR2 : am_sz σ'.2.2 ≤ R.slots + z0) (hfr : am_fr k ≤ R.frames) (hlo : am_lc k ≤ R.locals) (hnl : nl = am_mxl k) (kk : am_Go p l e R s m args below meth c Q D dA b0 base n0 z0 nl (σ'.1, ls, σ'.2.1, σ'.2.2)) : am_Go p l e R s m args below meth c Q D dA b0 base n0 z0 nl (pc, ls, st, h) := by
  obtain ⟨hx, hb, hml, hown, hts, hr, hlk, hin, hK, hN, hX, hb0, hbs⟩ := Cx
  obtain rfl : len = 1 := hlen.resolve_left (fun q => absurd q (by show ¬ (1 : Nat) = 0; decide))
  simp only [am_dp] at hdo
  obtain ⟨x, r, rfl, hf⟩ := am_l1_inv hdo
  obtain rfl := am_nx_inv hf
  intro H locs rl cells slots hW hS hl hn hc hz
  exact lv_l2i hx hb hdg rfl (kk H locs rl cells slots hW hS hl hn hc hz)
theorem am_k_i2b (Cx : am_Cx p s m args meth c D dA b0 base X k) {n0 z0 nl pc len : Nat} {ls st : List Value} {h : am_H} {σ' : am_P} (hdg : decode (am_bytes k) pc = .ok (.i2b, len)) (hlen : am_len (.i2b) = 0 ∨ len = am_len (.i2b)) (hdo : am_dp X k (.i2b) pc st h = some σ') (hR1 : σ'.2.2.length ≤ R.cells + n0) (hR2 : am_sz σ'.2.2 ≤ R.slots + z0) (hfr : am_fr k ≤ R.frames) (hlo : am_lc k ≤ R.locals) (hnl : nl = am_mxl k) (kk : am_Go p l e R s m args below meth c Q D dA b0 base n0 z0 nl (σ'.1, ls, σ'.2.1, σ'.2.2)) : am_Go p l e R s m args below meth c Q D dA b0 base n0 z0 nl (pc, ls, st, h) := by
  obtain ⟨hx, hb, hml, hown, hts, hr, hlk, hin, hK, hN, hX, hb0, hbs⟩ := Cx
  obtain rfl : len = 1 := hlen.resolve_left (fun q => absurd q (by show ¬ (1 : Nat) = 0; decide))
  simp only [am_dp] at hdo
  obtain ⟨x, r, rfl, hf⟩ := am_i1_inv hdo
  obtain rfl := am_nx_inv hf
  intro H locs rl cells slots hW hS hl hn hc hz
  exact lv_i2b hx hb hdg rfl (kk H locs rl cells slots hW hS hl hn hc hz)
theorem am_k_i2s (Cx : am_Cx p s m args meth c D dA b0 base X k) {n0 z0 nl pc len : Nat} {ls st : List Value} {h : am_H} {σ' : am_P} (hdg : decode (am_bytes k) pc = .ok (.i2s, len)) (hlen : am_len (.i2s) = 0 ∨ len = am_len (.i2s)) (hdo : am_dp X k (.i2s) pc st h = some σ') (hR1 : σ'.2.2.length ≤ R.cells + n0) (hR2 : am_sz σ'.2.2 ≤ R.slots + z0) (hfr : am_fr k ≤ R.frames) (hlo : am_lc k ≤ R.locals) (hnl : nl = am_mxl k) (kk : am_Go p l e R s m args below meth c Q D dA b0 base n0 z0 nl (σ'.1, ls, σ'.2.1, σ'.2.2)) : am_Go p l e R s m args below meth c Q D dA b0 base n0 z0 nl (pc, ls, st, h) := by
  obtain ⟨hx, hb, hml, hown, hts, hr, hlk, hin, hK, hN, hX, hb0, hbs⟩ := Cx
  obtain rfl : len = 1 := hlen.resolve_left (fun q => absurd q (by show ¬ (1 : Nat) = 0; decide))
  simp only [am_dp] at hdo
  obtain ⟨x, r, rfl, hf⟩ := am_i1_inv hdo
  obtain rfl := am_nx_inv hf
  intro H locs rl cells slots hW hS hl hn hc hz
  exact lv_i2s hx hb hdg rfl (kk H locs rl cells slots hW hS hl hn hc hz)
theorem am_k_i2c (Cx : am_Cx p s m args meth c D dA b0 base X k) {n0 z0 nl pc len : Nat} {ls st : List Value} {h : am_H} {σ' : am_P} (hdg : decode (am_bytes k) pc = .ok (.i2c, len)) (hlen : am_len (.i2c) = 0 ∨ len = am_len (.i2c)) (hdo : am_dp X k (.i2c) pc st h = some σ') (hR1 : σ'.2.2.length ≤ R.cells + n0) (hR2 : am_sz σ'.2.2 ≤ R.slots + z0) (hfr : am_fr k ≤ R.frames) (hlo : am_lc k ≤ R.locals) (hnl : nl = am_mxl k) (kk : am_Go p l e R s m args below meth c Q D dA b0 base n0 z0 nl (σ'.1, ls, σ'.2.1, σ'.2.2)) : am_Go p l e R s m args below meth c Q D dA b0 base n0 z0 nl (pc, ls, st, h) := by
  obtain ⟨hx, hb, hml, hown, hts, hr, hlk, hin, hK, hN, hX, hb0, hbs⟩ := Cx
  obtain rfl : len = 1 := hlen.resolve_left (fun q => absurd q (by show ¬ (1 : Nat) = 0; decide))
  simp only [am_dp] at hdo
  obtain ⟨x, r, rfl, hf⟩ := am_i1_inv hdo
  obtain rfl := am_nx_inv hf
  intro H locs rl cells slots hW hS hl hn hc hz
  exact lv_i2c hx hb hdg rfl (kk H locs rl cells slots hW hS hl hn hc hz)
theorem am_k_lshl (Cx : am_Cx p s m args meth c D dA b0 base X k) {n0 z0 nl pc len : Nat} {ls st : List Value} {h : am_H} {σ' : am_P} (hdg : decode (am_bytes k) pc = .ok (.lshl, len)) (hlen : am_len (.lshl) = 0 ∨ len = am_len (.lshl)) (hdo : am_dp X k (.lshl) pc st h = some σ') (hR1 : σ'.2.2.length ≤ R.cells + n0) (hR2 : am_sz σ'.2.2 ≤ R.slots + z0) (hfr : am_fr k ≤ R.frames) (hlo : am_lc k ≤ R.locals) (hnl : nl = am_mxl k) (kk : am_Go p l e R s m args below meth c Q D dA b0 base n0 z0 nl (σ'.1, ls, σ'.2.1, σ'.2.2)) : am_Go p l e R s m args below meth c Q D dA b0 base n0 z0 nl (pc, ls, st, h) := by
  obtain ⟨hx, hb, hml, hown, hts, hr, hlk, hin, hK, hN, hX, hb0, hbs⟩ := Cx
  obtain rfl : len = 1 := hlen.resolve_left (fun q => absurd q (by show ¬ (1 : Nat) = 0; decide))
  simp only [am_dp] at hdo
  obtain ⟨x, y, r, rfl, hf⟩ := am_s2_inv hdo
  obtain rfl := am_nx_inv hf
  intro H locs rl cells slots hW hS hl hn hc hz
  exact lv_lshl hx hb hdg rfl (kk H locs rl cells slots hW hS hl hn hc hz)
theorem am_k_lshr (Cx : am_Cx p s m args meth c D dA b0 base X k) {n0 z0 nl pc len : Nat} {ls st : List Value} {h : am_H} {σ' : am_P} (hdg : decode (am_bytes k) pc = .ok (.lshr, len)) (hlen : am_len (.lshr) = 0 ∨ len = am_len (.lshr)) (hdo : am_dp X k (.lshr) pc st h = some σ') (hR1 : σ'.2.2.length ≤ R.cells + n0) (hR2 : am_sz σ'.2.2 ≤ R.slots + z0) (hfr : am_fr k ≤ R.frames) (hlo : am_lc k ≤ R.locals) (hnl : nl = am_mxl k) (kk : am_Go p l e R s m args below meth c Q D dA b0 base n0 z0 nl (σ'.1, ls, σ'.2.1, σ'.2.2)) : am_Go p l e R s m args below meth c Q D dA b0 base n0 z0 nl (pc, ls, st, h) := by
  obtain ⟨hx, hb, hml, hown, hts, hr, hlk, hin, hK, hN, hX, hb0, hbs⟩ := Cx
  obtain rfl : len = 1 := hlen.resolve_left (fun q => absurd q (by show ¬ (1 : Nat) = 0; decide))
  simp only [am_dp] at hdo
  obtain ⟨x, y, r, rfl, hf⟩ := am_s2_inv hdo
  obtain rfl := am_nx_inv hf
  intro H locs rl cells slots hW hS hl hn hc hz
  exact lv_lshr hx hb hdg rfl (kk H locs rl cells slots hW hS hl hn hc hz)
theorem am_k_lushr (Cx : am_Cx p s m args meth c D dA b0 base X k) {n0 z0 nl pc len : Nat} {ls st : List Value} {h : am_H} {σ' : am_P} (hdg : decode (am_bytes k) pc = .ok (.lushr, len)) (hlen : am_len (.lushr) = 0 ∨ len = am_len (.lushr)) (hdo : am_dp X k (.lushr) pc st h = some σ') (hR1 : σ'.2.2.length ≤ R.cells + n0) (hR2 : am_sz σ'.2.2 ≤ R.slots + z0) (hfr : am_fr k ≤ R.frames) (hlo : am_lc k ≤ R.locals) (hnl : nl = am_mxl k) (kk : am_Go p l e R s m args below meth c Q D dA b0 base n0 z0 nl (σ'.1, ls, σ'.2.1, σ'.2.2)) : am_Go p l e R s m args below meth c Q D dA b0 base n0 z0 nl (pc, ls, st, h) := by
  obtain ⟨hx, hb, hml, hown, hts, hr, hlk, hin, hK, hN, hX, hb0, hbs⟩ := Cx
  obtain rfl : len = 1 := hlen.resolve_left (fun q => absurd q (by show ¬ (1 : Nat) = 0; decide))
  simp only [am_dp] at hdo
  obtain ⟨x, y, r, rfl, hf⟩ := am_s2_inv hdo
  obtain rfl := am_nx_inv hf
  intro H locs rl cells slots hW hS hl hn hc hz
  exact lv_lushr hx hb hdg rfl (kk H locs rl cells slots hW hS hl hn hc hz)
theorem am_k_ifCond (Cx : am_Cx p s m args meth c D dA b0 base X k) {n0 z0 nl pc len : Nat} {ls st : List Value} {h : am_H} {σ' : am_P} {cn : ClassFile.Cond} {off : Int} (hdg : decode (am_bytes k) pc = .ok (.ifCond cn off, len)) (hlen : am_len (.ifCond cn off) = 0 ∨ len = am_len (.ifCond cn off)) (hdo : am_dp X k (.ifCond cn off) pc st h = some σ') (hR1 : σ'.2.2.length ≤ R.cells + n0) (hR2 : am_sz σ'.2.2 ≤ R.slots + z0) (hfr : am_fr k ≤ R.frames) (hlo : am_lc k ≤ R.locals) (hnl : nl = am_mxl k) (kk : am_Go p l e R s m args below meth c Q D dA b0 base n0 z0 nl (σ'.1, ls, σ'.2.1, σ'.2.2)) : am_Go p l e R s m args below meth c Q D dA b0 base n0 z0 nl (pc, ls, st, h) := by
  obtain ⟨hx, hb, hml, hown, hts, hr, hlk, hin, hK, hN, hX, hb0, hbs⟩ := Cx
  obtain rfl : len = 3 := hlen.resolve_left (fun q => absurd q (by show ¬ (3 : Nat) = 0; decide))
  simp only [am_dp] at hdo
  obtain ⟨x, r, rfl, hf⟩ := am_i1_inv hdo
  cases cn
  case eq =>
    obtain ⟨t, ht, ⟨hb1, rfl⟩ | ⟨hb1, rfl⟩⟩ := am_br_inv hf
    · intro H locs rl cells slots hW hS hl hn hc hz
      exact lv_if_eq hx hb hdg ht (fun _ => (kk H locs rl cells slots hW hS hl hn hc hz)) (fun q => absurd (of_decide_eq_true hb1) q)
    · intro H locs rl cells slots hW hS hl hn hc hz
      exact lv_if_eq hx hb hdg ht (fun q => absurd q (of_decide_eq_false hb1)) (fun _ => (kk H locs rl cells slots hW hS hl hn hc hz))
  case ne =>
    obtain ⟨t, ht, ⟨hb1, rfl⟩ | ⟨hb1, rfl⟩⟩ := am_br_inv hf
    · intro H locs rl cells slots hW hS hl hn hc hz
      exact lv_if_ne hx hb hdg ht (fun _ => (kk H locs rl cells slots hW hS hl hn hc hz)) (fun q => absurd q (of_decide_eq_true hb1))
    · intro H locs rl cells slots hW hS hl hn hc hz
      exact lv_if_ne hx hb hdg ht (fun q => absurd q (of_decide_eq_false hb1)) (fun _ => (kk H locs rl cells slots hW hS hl hn hc hz))
  case lt =>
    obtain ⟨t, ht, ⟨hb1, rfl⟩ | ⟨hb1, rfl⟩⟩ := am_br_inv hf
    · intro H locs rl cells slots hW hS hl hn hc hz
      exact lv_if_lt hx hb hdg ht (fun _ => (kk H locs rl cells slots hW hS hl hn hc hz)) (fun q => absurd (of_decide_eq_true hb1) q)
    · intro H locs rl cells slots hW hS hl hn hc hz
      exact lv_if_lt hx hb hdg ht (fun q => absurd q (of_decide_eq_false hb1)) (fun _ => (kk H locs rl cells slots hW hS hl hn hc hz))
  case ge =>
    obtain ⟨t, ht, ⟨hb1, rfl⟩ | ⟨hb1, rfl⟩⟩ := am_br_inv hf
    · intro H locs rl cells slots hW hS hl hn hc hz
      exact lv_if_ge hx hb hdg ht (fun _ => (kk H locs rl cells slots hW hS hl hn hc hz)) (fun q => absurd (of_decide_eq_true hb1) q)
    · intro H locs rl cells slots hW hS hl hn hc hz
      exact lv_if_ge hx hb hdg ht (fun q => absurd q (of_decide_eq_false hb1)) (fun _ => (kk H locs rl cells slots hW hS hl hn hc hz))
  case gt =>
    obtain ⟨t, ht, ⟨hb1, rfl⟩ | ⟨hb1, rfl⟩⟩ := am_br_inv hf
    · intro H locs rl cells slots hW hS hl hn hc hz
      exact lv_if_gt hx hb hdg ht (fun _ => (kk H locs rl cells slots hW hS hl hn hc hz)) (fun q => absurd (of_decide_eq_true hb1) q)
    · intro H locs rl cells slots hW hS hl hn hc hz
      exact lv_if_gt hx hb hdg ht (fun q => absurd q (of_decide_eq_false hb1)) (fun _ => (kk H locs rl cells slots hW hS hl hn hc hz))
  case le =>
    obtain ⟨t, ht, ⟨hb1, rfl⟩ | ⟨hb1, rfl⟩⟩ := am_br_inv hf
    · intro H locs rl cells slots hW hS hl hn hc hz
      exact lv_if_le hx hb hdg ht (fun _ => (kk H locs rl cells slots hW hS hl hn hc hz)) (fun q => absurd (of_decide_eq_true hb1) q)
    · intro H locs rl cells slots hW hS hl hn hc hz
      exact lv_if_le hx hb hdg ht (fun q => absurd q (of_decide_eq_false hb1)) (fun _ => (kk H locs rl cells slots hW hS hl hn hc hz))
theorem am_k_if_icmp (Cx : am_Cx p s m args meth c D dA b0 base X k) {n0 z0 nl pc len : Nat} {ls st : List Value} {h : am_H} {σ' : am_P} {cn : ClassFile.Cond} {off : Int} (hdg : decode (am_bytes k) pc = .ok (.if_icmp cn off, len)) (hlen : am_len (.if_icmp cn off) = 0 ∨ len = am_len (.if_icmp cn off)) (hdo : am_dp X k (.if_icmp cn off) pc st h = some σ') (hR1 : σ'.2.2.length ≤ R.cells + n0) (hR2 : am_sz σ'.2.2 ≤ R.slots + z0) (hfr : am_fr k ≤ R.frames) (hlo : am_lc k ≤ R.locals) (hnl : nl = am_mxl k) (kk : am_Go p l e R s m args below meth c Q D dA b0 base n0 z0 nl (σ'.1, ls, σ'.2.1, σ'.2.2)) : am_Go p l e R s m args below meth c Q D dA b0 base n0 z0 nl (pc, ls, st, h) := by
  obtain ⟨hx, hb, hml, hown, hts, hr, hlk, hin, hK, hN, hX, hb0, hbs⟩ := Cx
  obtain rfl : len = 3 := hlen.resolve_left (fun q => absurd q (by show ¬ (3 : Nat) = 0; decide))
  simp only [am_dp] at hdo
  obtain ⟨x, y, r, rfl, hf⟩ := am_i2_inv hdo
  cases cn
  case eq =>
    obtain ⟨t, ht, ⟨hb1, rfl⟩ | ⟨hb1, rfl⟩⟩ := am_br_inv hf
    · intro H locs rl cells slots hW hS hl hn hc hz
      exact lv_icmp_eq hx hb hdg ht (fun _ => (kk H locs rl cells slots hW hS hl hn hc hz)) (fun q => absurd (of_decide_eq_true hb1) q)
    · intro H locs rl cells slots hW hS hl hn hc hz
      exact lv_icmp_eq hx hb hdg ht (fun q => absurd q (of_decide_eq_false hb1)) (fun _ => (kk H locs rl cells slots hW hS hl hn hc hz))
  case ne =>
    obtain ⟨t, ht, ⟨hb1, rfl⟩ | ⟨hb1, rfl⟩⟩ := am_br_inv hf
    · intro H locs rl cells slots hW hS hl hn hc hz
      exact lv_icmp_ne hx hb hdg ht (fun _ => (kk H locs rl cells slots hW hS hl hn hc hz)) (fun q => absurd q (of_decide_eq_true hb1))
    · intro H locs rl cells slots hW hS hl hn hc hz
      exact lv_icmp_ne hx hb hdg ht (fun q => absurd q (of_decide_eq_false hb1)) (fun _ => (kk H locs rl cells slots hW hS hl hn hc hz))
  case lt =>
    obtain ⟨t, ht, ⟨hb1, rfl⟩ | ⟨hb1, rfl⟩⟩ := am_br_inv hf
    · intro H locs rl cells slots hW hS hl hn hc hz
      exact lv_icmp_lt hx hb hdg ht (fun _ => (kk H locs rl cells slots hW hS hl hn hc hz)) (fun q => absurd (of_decide_eq_true hb1) q)
    · intro H locs rl cells slots hW hS hl hn hc hz
      exact lv_icmp_lt hx hb hdg ht (fun q => absurd q (of_decide_eq_false hb1)) (fun _ => (kk H locs rl cells slots hW hS hl hn hc hz))
  case ge =>
    obtain ⟨t, ht, ⟨hb1, rfl⟩ | ⟨hb1, rfl⟩⟩ := am_br_inv hf
    · intro H locs rl cells slots hW hS hl hn hc hz
      exact lv_icmp_ge hx hb hdg ht (fun _ => (kk H locs rl cells slots hW hS hl hn hc hz)) (fun q => absurd (of_decide_eq_true hb1) q)
    · intro H locs rl cells slots hW hS hl hn hc hz
      exact lv_icmp_ge hx hb hdg ht (fun q => absurd q (of_decide_eq_false hb1)) (fun _ => (kk H locs rl cells slots hW hS hl hn hc hz))
  case gt =>
    obtain ⟨t, ht, ⟨hb1, rfl⟩ | ⟨hb1, rfl⟩⟩ := am_br_inv hf
    · intro H locs rl cells slots hW hS hl hn hc hz
      exact lv_icmp_gt hx hb hdg ht (fun _ => (kk H locs rl cells slots hW hS hl hn hc hz)) (fun q => absurd (of_decide_eq_true hb1) q)
    · intro H locs rl cells slots hW hS hl hn hc hz
      exact lv_icmp_gt hx hb hdg ht (fun q => absurd q (of_decide_eq_false hb1)) (fun _ => (kk H locs rl cells slots hW hS hl hn hc hz))
  case le =>
    obtain ⟨t, ht, ⟨hb1, rfl⟩ | ⟨hb1, rfl⟩⟩ := am_br_inv hf
    · intro H locs rl cells slots hW hS hl hn hc hz
      exact lv_icmp_le hx hb hdg ht (fun _ => (kk H locs rl cells slots hW hS hl hn hc hz)) (fun q => absurd (of_decide_eq_true hb1) q)
    · intro H locs rl cells slots hW hS hl hn hc hz
      exact lv_icmp_le hx hb hdg ht (fun q => absurd q (of_decide_eq_false hb1)) (fun _ => (kk H locs rl cells slots hW hS hl hn hc hz))
theorem am_k_if_acmp (Cx : am_Cx p s m args meth c D dA b0 base X k) {n0 z0 nl pc len : Nat} {ls st : List Value} {h : am_H} {σ' : am_P} {cn : ClassFile.ACond} {off : Int} (hdg : decode (am_bytes k) pc = .ok (.if_acmp cn off, len)) (hlen : am_len (.if_acmp cn off) = 0 ∨ len = am_len (.if_acmp cn off)) (hdo : am_dp X k (.if_acmp cn off) pc st h = some σ') (hR1 : σ'.2.2.length ≤ R.cells + n0) (hR2 : am_sz σ'.2.2 ≤ R.slots + z0) (hfr : am_fr k ≤ R.frames) (hlo : am_lc k ≤ R.locals) (hnl : nl = am_mxl k) (kk : am_Go p l e R s m args below meth c Q D dA b0 base n0 z0 nl (σ'.1, ls, σ'.2.1, σ'.2.2)) : am_Go p l e R s m args below meth c Q D dA b0 base n0 z0 nl (pc, ls, st, h) := by
  obtain ⟨hx, hb, hml, hown, hts, hr, hlk, hin, hK, hN, hX, hb0, hbs⟩ := Cx
  obtain rfl : len = 3 := hlen.resolve_left (fun q => absurd q (by show ¬ (3 : Nat) = 0; decide))
  simp only [am_dp] at hdo
  obtain ⟨a, b, r, rfl, hf⟩ := am_r2_inv hdo
  cases cn
  case eq =>
    obtain ⟨t, ht, ⟨hb1, rfl⟩ | ⟨hb1, rfl⟩⟩ := am_br_inv hf
    · intro H locs rl cells slots hW hS hl hn hc hz
      exact lv_acmp_eq (rx := some (base + a)) (ry := some (base + b)) hx hb hdg ht (fun _ => (kk H locs rl cells slots hW hS hl hn hc hz)) (fun q => absurd (by rw [of_decide_eq_true hb1]) q)
    · intro H locs rl cells slots hW hS hl hn hc hz
      exact lv_acmp_eq (rx := some (base + a)) (ry := some (base + b)) hx hb hdg ht (fun q => absurd (by have := Option.some.inj q; omega) (of_decide_eq_false hb1)) (fun _ => (kk H locs rl cells slots hW hS hl hn hc hz))
  case ne =>
    obtain ⟨t, ht, ⟨hb1, rfl⟩ | ⟨hb1, rfl⟩⟩ := am_br_inv hf
    · intro H locs rl cells slots hW hS hl hn hc hz
      exact lv_acmp_ne (rx := some (base + a)) (ry := some (base + b)) hx hb hdg ht (fun _ => (kk H locs rl cells slots hW hS hl hn hc hz)) (fun q => absurd (by have := Option.some.inj q; omega) (of_decide_eq_true hb1))
    · intro H locs rl cells slots hW hS hl hn hc hz
      exact lv_acmp_ne (rx := some (base + a)) (ry := some (base + b)) hx hb hdg ht (fun q => absurd (show ¬ a = b from fun z => q (by rw [z])) (of_decide_eq_false hb1)) (fun _ => (kk H locs rl cells slots hW hS hl hn hc hz))
theorem am_k_goto (Cx : am_Cx p s m args meth c D dA b0 base X k) {n0 z0 nl pc len : Nat} {ls st : List Value} {h : am_H} {σ' : am_P} {off : Int} (hdg : decode (am_bytes k) pc = .ok (.goto off, len)) (hlen : am_len (.goto off) = 0 ∨ len = am_len (.goto off)) (hdo : am_dp X k (.goto off) pc st h = some σ') (hR1 : σ'.2.2.length ≤ R.cells + n0) (hR2 : am_sz σ'.2.2 ≤ R.slots + z0) (hfr : am_fr k ≤ R.frames) (hlo : am_lc k ≤ R.locals) (hnl : nl = am_mxl k) (kk : am_Go p l e R s m args below meth c Q D dA b0 base n0 z0 nl (σ'.1, ls, σ'.2.1, σ'.2.2)) : am_Go p l e R s m args below meth c Q D dA b0 base n0 z0 nl (pc, ls, st, h) := by
  obtain ⟨hx, hb, hml, hown, hts, hr, hlk, hin, hK, hN, hX, hb0, hbs⟩ := Cx
  obtain rfl : len = 3 := hlen.resolve_left (fun q => absurd q (by show ¬ (3 : Nat) = 0; decide))
  simp only [am_dp] at hdo
  obtain ⟨t, ht, rfl⟩ := am_go_inv hdo
  intro H locs rl cells slots hW hS hl hn hc hz
  exact lv_goto hx hb hdg ht (kk H locs rl cells slots hW hS hl hn hc hz)
theorem am_k_tableswitch (Cx : am_Cx p s m args meth c D dA b0 base X k) {n0 z0 nl pc len : Nat} {ls st : List Value} {h : am_H} {σ' : am_P} {d lo hi : Int} {offs : Array Int} (hdg : decode (am_bytes k) pc = .ok (.tableswitch d lo hi offs, len)) (hlen : am_len (.tableswitch d lo hi offs) = 0 ∨ len = am_len (.tableswitch d lo hi offs)) (hdo : am_dp X k (.tableswitch d lo hi offs) pc st h = some σ') (hR1 : σ'.2.2.length ≤ R.cells + n0) (hR2 : am_sz σ'.2.2 ≤ R.slots + z0) (hfr : am_fr k ≤ R.frames) (hlo : am_lc k ≤ R.locals) (hnl : nl = am_mxl k) (kk : am_Go p l e R s m args below meth c Q D dA b0 base n0 z0 nl (σ'.1, ls, σ'.2.1, σ'.2.2)) : am_Go p l e R s m args below meth c Q D dA b0 base n0 z0 nl (pc, ls, st, h) := by
  obtain ⟨hx, hb, hml, hown, hts, hr, hlk, hin, hK, hN, hX, hb0, hbs⟩ := Cx
  simp only [am_dp] at hdo
  obtain ⟨x, r, rfl, hf⟩ := am_i1_inv hdo
  by_cases hq : x.toInt < lo ∨ hi < x.toInt
  · rw [if_pos hq] at hf
    obtain ⟨t, ht, rfl⟩ := am_go_inv hf
    intro H locs rl cells slots hW hS hl hn hc hz
    exact lv_tableOut hx hb hdg hq ht (kk H locs rl cells slots hW hS hl hn hc hz)
  · rw [if_neg hq] at hf
    split at hf
    · rename_i off ho
      obtain ⟨t, ht, rfl⟩ := am_go_inv hf
      intro H locs rl cells slots hW hS hl hn hc hz
      exact lv_tableIn hx hb hdg (fun z => hq (Or.inl z)) (fun z => hq (Or.inr z)) ho ht (kk H locs rl cells slots hW hS hl hn hc hz)
    · cases hf
theorem am_k_lookupswitch (Cx : am_Cx p s m args meth c D dA b0 base X k) {n0 z0 nl pc len : Nat} {ls st : List Value} {h : am_H} {σ' : am_P} {d : Int} {ps : Array (Int × Int)} (hdg : decode (am_bytes k) pc = .ok (.lookupswitch d ps, len)) (hlen : am_len (.lookupswitch d ps) = 0 ∨ len = am_len (.lookupswitch d ps)) (hdo : am_dp X k (.lookupswitch d ps) pc st h = some σ') (hR1 : σ'.2.2.length ≤ R.cells + n0) (hR2 : am_sz σ'.2.2 ≤ R.slots + z0) (hfr : am_fr k ≤ R.frames) (hlo : am_lc k ≤ R.locals) (hnl : nl = am_mxl k) (kk : am_Go p l e R s m args below meth c Q D dA b0 base n0 z0 nl (σ'.1, ls, σ'.2.1, σ'.2.2)) : am_Go p l e R s m args below meth c Q D dA b0 base n0 z0 nl (pc, ls, st, h) := by
  obtain ⟨hx, hb, hml, hown, hts, hr, hlk, hin, hK, hN, hX, hb0, hbs⟩ := Cx
  simp only [am_dp] at hdo
  obtain ⟨x, r, rfl, hf⟩ := am_i1_inv hdo
  split at hf
  · rename_i hp
    obtain ⟨t, ht, rfl⟩ := am_go_inv hf
    intro H locs rl cells slots hW hS hl hn hc hz
    exact lv_lookup hx hb hdg hp rfl ht (kk H locs rl cells slots hW hS hl hn hc hz)
  · cases hf
end AMT
end
section
/-! INSTRUCTIONS THAT LOOK INTO THE HEAP -/
theorem am_iald_inv {α : Type} {X : Nat × (Nat → Int32)} {st : List Value} {h : am_H} {k : Int32 → List Value → Option α} {ρ : α} (hq : am_iald X st h k = some ρ) : (∃ i a r n f, st = .int i :: .ref a :: r ∧ h[a]? = some (.inl (0, n, .inl f)) ∧ vp_in i n ∧ k (f i.toNatClampNeg) r = some ρ) ∨ (∃ i r, st = .int i :: .retAddr 0 :: r ∧ vp_in i X.1 ∧ k (X.2 i.toNatClampNeg) r = some ρ) := by
  unfold am_iald at hq
  split at hq
  · split at hq
    · rename_i hc
      split at hq
      · cases hq
      · rename_i ho
        exact Or.inl ⟨_, _, _, _, _, rfl, hc, am_out_f ho, hq⟩
    · cases hq
  · split at hq
    · cases hq
    · rename_i ho
      exact Or.inr ⟨_, _, rfl, am_out_f ho, hq⟩
  · cases hq
theorem am_lald_inv {α : Type} {st : List Value} {h : am_H} {k : Int64 → List Value → Option α} {ρ : α} (hq : am_lald st h k = some ρ) : ∃ i a r n f, st = .int i :: .ref a :: r ∧ h[a]? = some (.inl (1, n, .inr (.inl f))) ∧ vp_in i n ∧ k (f i.toNatClampNeg) r = some ρ := by
  unfold am_lald at hq
  split at hq
  · split at hq
    · rename_i hc
      split at hq
      · cases hq
      · rename_i ho
        exact ⟨_, _, _, _, _, rfl, hc, am_out_f ho, hq⟩
    · cases hq
  · cases hq
theorem am_iast_inv {α : Type} {st : List Value} {h : am_H} {k : List Value → am_H → Option α} {ρ : α} (hq : am_iast st h k = some ρ) : ∃ x i a r n f, st = .int x :: .int i :: .ref a :: r ∧ h[a]? = some (.inl (0, n, .inl f)) ∧ vp_in i n ∧ k r (h.set a (.inl (0, n, .inl (upd f i.toNatClampNeg x)))) = some ρ := by
  unfold am_iast at hq
  split at hq
  · split at hq
    · rename_i hc
      split at hq
      · cases hq
      · rename_i ho
        exact ⟨_, _, _, _, _, _, rfl, hc, am_out_f ho, hq⟩
    · cases hq
  · cases hq
theorem am_last_inv {α : Type} {st : List Value} {h : am_H} {k : List Value → am_H → Option α} {ρ : α} (hq : am_last st h k = some ρ) : ∃ x i a r n f, st = .long x :: .int i :: .ref a :: r ∧ h[a]? = some (.inl (1, n, .inr (.inl f))) ∧ vp_in i n ∧ k r (h.set a (.inl (1, n, .inr (.inl (vp_updL f i.toNatClampNeg x))))) = some ρ := by
  unfold am_last at hq
  split at hq
  · split at hq
    · rename_i hc
      split at hq
      · cases hq
      · rename_i ho
        exact ⟨_, _, _, _, _, _, rfl, hc, am_out_f ho, hq⟩
    · cases hq
  · cases hq
theorem am_zald_inv {α : Type} {st : List Value} {h : am_H} {k : Int32 → List Value → Option α} {ρ : α} (hq : am_zald st h k = some ρ) : ∃ i a r n f, st = .int i :: .ref a :: r ∧ h[a]? = some (.inl (2, n, .inl f)) ∧ vp_in i n ∧ k (f i.toNatClampNeg) r = some ρ := by
  unfold am_zald at hq
  split at hq
  · split at hq
    · rename_i hc
      split at hq
      · cases hq
      · rename_i ho
        exact ⟨_, _, _, _, _, rfl, hc, am_out_f ho, hq⟩
    · cases hq
  · cases hq
theorem am_zast_inv {α : Type} {st : List Value} {h : am_H} {k : List Value → am_H → Option α} {ρ : α} (hq : am_zast st h k = some ρ) : ∃ x i a r n f, st = .int x :: .int i :: .ref a :: r ∧ h[a]? = some (.inl (2, n, .inl f)) ∧ vp_in i n ∧ x &&& 1 = x ∧ k r (h.set a (.inl (2, n, .inl (upd f i.toNatClampNeg x)))) = some ρ := by
  unfold am_zast at hq
  split at hq
  · split at hq
    · rename_i hc
      split at hq
      · cases hq
      · rename_i ho
        rw [Bool.or_eq_false_iff] at ho
        exact ⟨_, _, _, _, _, _, rfl, hc, am_out_f ho.1, by simpa using ho.2, hq⟩
    · cases hq
  · cases hq
theorem am_alen_inv {α : Type} {X : Nat × (Nat → Int32)} {st : List Value} {h : am_H} {k : Int32 → List Value → Option α} {ρ : α} (hq : am_alen X st h k = some ρ) : (∃ a r n y, st = .ref a :: r ∧ (h[a]? = some (.inl (0, n, y)) ∨ h[a]? = some (.inl (1, n, y))) ∧ k (Int32.ofNat n) r = some ρ) ∨ (∃ r, st = .retAddr 0 :: r ∧ k (Int32.ofNat X.1) r = some ρ) := by
  unfold am_alen at hq
  split at hq
  · split at hq
    · rename_i hc
      exact Or.inl ⟨_, _, _, _, rfl, Or.inl hc, hq⟩
    · rename_i hc
      exact Or.inl ⟨_, _, _, _, rfl, Or.inr hc, hq⟩
    · cases hq
  · exact Or.inr ⟨_, rfl, hq⟩
  · cases hq
theorem am_newa_inv {α : Type} {t : ArrayType} {st : List Value} {h : am_H} {k : Nat → List Value → am_H → Option α} {ρ : α} (hq : am_newa t st h k = some ρ) : ∃ x r, st = .int x :: r ∧ ¬ x < 0 ∧ x.toNatClampNeg ≤ 1000000 ∧ ((t = .int ∧ k h.length r (h ++ [.inl (0, x.toNatClampNeg, .inl fun _ => 0)]) = some ρ) ∨ (t = .long ∧ k h.length r (h ++ [.inl (1, x.toNatClampNeg, .inr (.inl fun _ => 0))]) = some ρ) ∨ (t = .boolean ∧ k h.length r (h ++ [.inl (2, x.toNatClampNeg, .inl fun _ => 0)]) = some ρ)) := by
  unfold am_newa at hq
  split at hq
  · split at hq
    · cases hq
    · rename_i hx
      rw [Bool.or_eq_false_iff] at hx
      refine ⟨_, _, rfl, of_decide_eq_false hx.1, Nat.not_lt.mp (of_decide_eq_false hx.2), ?_⟩
      split at hq
      · exact Or.inl ⟨rfl, hq⟩
      · exact Or.inr (Or.inl ⟨rfl, hq⟩)
      · exact Or.inr (Or.inr ⟨rfl, hq⟩)
      · cases hq
  · cases hq
theorem am_getf_inv {α : Type} {q : Option (Nat × Nat)} {st : List Value} {h : am_H} {k : Value → List Value → Option α} {ρ : α} (hq : am_getf q st h k = some ρ) : ∃ ci f a r fs v, q = some (ci, f) ∧ st = .ref a :: r ∧ h[a]? = some (.inr (ci, fs)) ∧ fs[f]? = some v ∧ k v r = some ρ := by
  unfold am_getf at hq
  split at hq
  · cases hq
  · split at hq
    · split at hq
      · rename_i hc
        split at hq
        · rename_i he
          have he' := eq_of_beq he
          subst he'
          split at hq
          · rename_i hv
            exact ⟨_, _, _, _, _, _, rfl, rfl, hc, hv, hq⟩
          · cases hq
        · cases hq
      · cases hq
    · cases hq
theorem am_putf_inv {α : Type} {k0 : Nat} {q : Option (Nat × Nat)} {st : List Value} {h : am_H} {k : List Value → am_H → Option α} {ρ : α} (hq : am_putf k0 q st h k = some ρ) : ∃ ci f v a r fs, q = some (ci, f) ∧ st = v :: .ref a :: r ∧ h[a]? = some (.inr (ci, fs)) ∧ f < fs.length ∧ (am_fin ci f = false ∨ am_ctor k0 ci = true) ∧ narrow (am_fty ci f) v = v ∧ fits (am_fty ci f) v = true ∧ k r (h.set a (.inr (ci, fs.set f v))) = some ρ := by
  unfold am_putf at hq
  split at hq
  · cases hq
  · split at hq
    · split at hq
      · rename_i hc
        split at hq
        · rename_i he
          simp only [Bool.and_eq_true] at he
          obtain ⟨⟨⟨⟨e1, e2⟩, e3⟩, e4⟩, e5⟩ := he
          have he' := eq_of_beq e1
          subst he'
          refine ⟨_, _, _, _, _, _, rfl, rfl, hc, of_decide_eq_true e2, ?_, of_decide_eq_true e4, e5, hq⟩
          rw [Bool.or_eq_true] at e3
          rcases e3 with e3 | e3
          · left
            simpa using e3
          · exact Or.inr e3
        · cases hq
      · cases hq
    · cases hq
theorem am_v_fit {b0 base : Nat} {ty : FieldType} {v : Value} (h1 : narrow ty v = v) (h2 : fits ty v = true) : narrow ty (am_v b0 base v) = am_v b0 base v ∧ fits ty (am_v b0 base v) = true := by
  cases v with
  | int x => exact ⟨h1, h2⟩
  | long x => exact ⟨h1, h2⟩
  | float x => exact ⟨h1, h2⟩
  | double x => exact ⟨h1, h2⟩
  | null => exact ⟨h1, h2⟩
  | ref a => cases ty <;> first | (cases h2; done) | exact ⟨rfl, rfl⟩
  | retAddr a => cases ty <;> (cases h2; done)
theorem am_Wd.cell {D : va_G} {dA : Nat → ClassId} {b0 base : Nat} {h : am_H} {H : Heap} {a : Nat} {x : va_E} (_ : am_Wd D dA b0 base h H) (hc : h[a]? = some x) : (am_ws dA b0 base h)[a]? = some (base + a, am_e dA b0 base x) := by
  rw [am_ws_get, hc]; rfl
theorem am_Wd.set {D : va_G} {dA : Nat → ClassId} {b0 base : Nat} {h : am_H} {H H1 : Heap} {a : Nat} {x : va_E} (hW : am_Wd D dA b0 base h H) (hz : H1.size = H.size) (hP : va_P D vwCl ((am_ws dA b0 base h).set a (base + a, am_e dA b0 base x)) H1) : am_Wd D dA b0 base (h.set a x) H1 :=
  ⟨by rw [hz, hW.1, List.length_set], by rw [am_ws_set]; exact hP⟩
theorem am_Wd.app {D : va_G} {dA : Nat → ClassId} {b0 base : Nat} {h : am_H} {H H1 : Heap} {x : va_E} (hW : am_Wd D dA b0 base h H) (hz : H1.size = H.size + 1) (hP : va_P D vwCl (am_ws dA b0 base h ++ [(H.size, am_e dA b0 base x)]) H1) : am_Wd D dA b0 base (h ++ [x]) H1 :=
  ⟨by rw [hz, hW.1, List.length_append]; rfl, by rw [am_ws_app, ← hW.1]; exact hP⟩
section AMT2
variable {p : Program} {l : Launch} {e : Env} {R : Room} {s : State} {m : MethodId} {args : Array Value} {below : List Frame} {meth : Method} {c : Code} {Q : State → Prop}
variable {D : va_G} {dA : Nat → ClassId} {b0 base : Nat} {X : Nat × (Nat → Int32)} {k : Nat}

theorem am_k_iaload (Cx : am_Cx p s m args meth c D dA b0 base X k) {n0 z0 nl pc len : Nat} {ls st : List Value} {h : am_H} {σ' : am_P} (hdg : decode (am_bytes k) pc = .ok (.iaload, len)) (hlen : am_len (.iaload) = 0 ∨ len = am_len (.iaload)) (hdo : am_dp X k (.iaload) pc st h = some σ') (hR1 : σ'.2.2.length ≤ R.cells + n0) (hR2 : am_sz σ'.2.2 ≤ R.slots + z0) (hfr : am_fr k ≤ R.frames) (hlo : am_lc k ≤ R.locals) (hnl : nl = am_mxl k) (kk : am_Go p l e R s m args below meth c Q D dA b0 base n0 z0 nl (σ'.1, ls, σ'.2.1, σ'.2.2)) : am_Go p l e R s m args below meth c Q D dA b0 base n0 z0 nl (pc, ls, st, h) := by
  obtain ⟨hx, hb, hml, hown, hts, hr, hlk, hin, hK, hN, hX, hb0, hbs⟩ := Cx
  obtain rfl : len = 1 := hlen.resolve_left (fun q => absurd q (by show ¬ (1 : Nat) = 0; decide))
  simp only [am_dp] at hdo
  rcases am_iald_inv hdo with ⟨i, a, r, n, f, rfl, hc0, hi, hf⟩ | ⟨i, r, rfl, hi, hf⟩
  · obtain rfl := am_nx_inv hf
    intro H locs rl cells slots hW hS hl hn hc hz
    exact va_iald hx hb hK hW.2 a 0 (hW.cell hc0) rfl hi hdg (kk H locs rl cells slots hW hS hl hn hc hz)
  · obtain rfl := am_nx_inv hf
    intro H locs rl cells slots hW hS hl hn hc hz
    exact va_sld hx hb hX (Nat.lt_of_lt_of_le hb0 hbs) (Nat.not_le.mpr hb0) hS hi hdg (kk H locs rl cells slots hW hS hl hn hc hz)
theorem am_k_laload (Cx : am_Cx p s m args meth c D dA b0 base X k) {n0 z0 nl pc len : Nat} {ls st : List Value} {h : am_H} {σ' : am_P} (hdg : decode (am_bytes k) pc = .ok (.laload, len)) (hlen : am_len (.laload) = 0 ∨ len = am_len (.laload)) (hdo : am_dp X k (.laload) pc st h = some σ') (hR1 : σ'.2.2.length ≤ R.cells + n0) (hR2 : am_sz σ'.2.2 ≤ R.slots + z0) (hfr : am_fr k ≤ R.frames) (hlo : am_lc k ≤ R.locals) (hnl : nl = am_mxl k) (kk : am_Go p l e R s m args below meth c Q D dA b0 base n0 z0 nl (σ'.1, ls, σ'.2.1, σ'.2.2)) : am_Go p l e R s m args below meth c Q D dA b0 base n0 z0 nl (pc, ls, st, h) := by
  obtain ⟨hx, hb, hml, hown, hts, hr, hlk, hin, hK, hN, hX, hb0, hbs⟩ := Cx
  obtain rfl : len = 1 := hlen.resolve_left (fun q => absurd q (by show ¬ (1 : Nat) = 0; decide))
  simp only [am_dp] at hdo
  obtain ⟨i, a, r, n, f, rfl, hc0, hi, hf⟩ := am_lald_inv hdo
  obtain rfl := am_nx_inv hf
  intro H locs rl cells slots hW hS hl hn hc hz
  exact va_lald hx hb hK hW.2 a 1 (hW.cell hc0) rfl hi hdg (kk H locs rl cells slots hW hS hl hn hc hz)
theorem am_k_iastore (Cx : am_Cx p s m args meth c D dA b0 base X k) {n0 z0 nl pc len : Nat} {ls st : List Value} {h : am_H} {σ' : am_P} (hdg : decode (am_bytes k) pc = .ok (.iastore, len)) (hlen : am_len (.iastore) = 0 ∨ len = am_len (.iastore)) (hdo : am_dp X k (.iastore) pc st h = some σ') (hR1 : σ'.2.2.length ≤ R.cells + n0) (hR2 : am_sz σ'.2.2 ≤ R.slots + z0) (hfr : am_fr k ≤ R.frames) (hlo : am_lc k ≤ R.locals) (hnl : nl = am_mxl k) (kk : am_Go p l e R s m args below meth c Q D dA b0 base n0 z0 nl (σ'.1, ls, σ'.2.1, σ'.2.2)) : am_Go p l e R s m args below meth c Q D dA b0 base n0 z0 nl (pc, ls, st, h) := by
  obtain ⟨hx, hb, hml, hown, hts, hr, hlk, hin, hK, hN, hX, hb0, hbs⟩ := Cx
  obtain rfl : len = 1 := hlen.resolve_left (fun q => absurd q (by show ¬ (1 : Nat) = 0; decide))
  simp only [am_dp] at hdo
  obtain ⟨x, i, a, r, n, f, rfl, hc0, hi, hf⟩ := am_iast_inv hdo
  obtain rfl := am_nx_inv hf
  intro H locs rl cells slots hW hS hl hn hc hz
  exact am_iastW hx hb (hK.2 0 _ rfl).1 hW.2 (am_D dA b0 base h) hS a (hW.cell hc0) hi hdg (fun H1 locs1 hz1 hP1 hS1 => kk H1 locs1 rl cells slots (hW.set hz1 hP1) hS1 hl hn (by rw [hc]; exact (List.length_set ..).symm) (hz.trans (am_sz_set (c' := (.inl (0, n, .inl (upd f i.toNatClampNeg x)))) hc0 rfl).symm))
theorem am_k_lastore (Cx : am_Cx p s m args meth c D dA b0 base X k) {n0 z0 nl pc len : Nat} {ls st : List Value} {h : am_H} {σ' : am_P} (hdg : decode (am_bytes k) pc = .ok (.lastore, len)) (hlen : am_len (.lastore) = 0 ∨ len = am_len (.lastore)) (hdo : am_dp X k (.lastore) pc st h = some σ') (hR1 : σ'.2.2.length ≤ R.cells + n0) (hR2 : am_sz σ'.2.2 ≤ R.slots + z0) (hfr : am_fr k ≤ R.frames) (hlo : am_lc k ≤ R.locals) (hnl : nl = am_mxl k) (kk : am_Go p l e R s m args below meth c Q D dA b0 base n0 z0 nl (σ'.1, ls, σ'.2.1, σ'.2.2)) : am_Go p l e R s m args below meth c Q D dA b0 base n0 z0 nl (pc, ls, st, h) := by
  obtain ⟨hx, hb, hml, hown, hts, hr, hlk, hin, hK, hN, hX, hb0, hbs⟩ := Cx
  obtain rfl : len = 1 := hlen.resolve_left (fun q => absurd q (by show ¬ (1 : Nat) = 0; decide))
  simp only [am_dp] at hdo
  obtain ⟨x, i, a, r, n, f, rfl, hc0, hi, hf⟩ := am_last_inv hdo
  obtain rfl := am_nx_inv hf
  intro H locs rl cells slots hW hS hl hn hc hz
  exact am_lastW hx hb (hK.2 1 _ rfl).1 hW.2 (am_D dA b0 base h) hS a (hW.cell hc0) hi hdg (fun H1 locs1 hz1 hP1 hS1 => kk H1 locs1 rl cells slots (hW.set hz1 hP1) hS1 hl hn (by rw [hc]; exact (List.length_set ..).symm) (hz.trans (am_sz_set (c' := (.inl (1, n, .inr (.inl (vp_updL f i.toNatClampNeg x))))) hc0 rfl).symm))
theorem am_k_baload (Cx : am_Cx p s m args meth c D dA b0 base X k) {n0 z0 nl pc len : Nat} {ls st : List Value} {h : am_H} {σ' : am_P} (hdg : decode (am_bytes k) pc = .ok (.baload, len)) (hlen : am_len (.baload) = 0 ∨ len = am_len (.baload)) (hdo : am_dp X k (.baload) pc st h = some σ') (hR1 : σ'.2.2.length ≤ R.cells + n0) (hR2 : am_sz σ'.2.2 ≤ R.slots + z0) (hfr : am_fr k ≤ R.frames) (hlo : am_lc k ≤ R.locals) (hnl : nl = am_mxl k) (kk : am_Go p l e R s m args below meth c Q D dA b0 base n0 z0 nl (σ'.1, ls, σ'.2.1, σ'.2.2)) : am_Go p l e R s m args below meth c Q D dA b0 base n0 z0 nl (pc, ls, st, h) := by
  obtain ⟨hx, hb, hml, hown, hts, hr, hlk, hin, hK, hN, hX, hb0, hbs⟩ := Cx
  obtain rfl : len = 1 := hlen.resolve_left (fun q => absurd q (by show ¬ (1 : Nat) = 0; decide))
  simp only [am_dp] at hdo
  obtain ⟨i, a, r, n, f, rfl, hc0, hi, hf⟩ := am_zald_inv hdo
  obtain rfl := am_nx_inv hf
  intro H locs rl cells slots hW hS hl hn hc hz
  exact va_zald hx hb hK hW.2 a 2 (hW.cell hc0) rfl hi hdg (kk H locs rl cells slots hW hS hl hn hc hz)
theorem am_k_bastore (Cx : am_Cx p s m args meth c D dA b0 base X k) {n0 z0 nl pc len : Nat} {ls st : List Value} {h : am_H} {σ' : am_P} (hdg : decode (am_bytes k) pc = .ok (.bastore, len)) (hlen : am_len (.bastore) = 0 ∨ len = am_len (.bastore)) (hdo : am_dp X k (.bastore) pc st h = some σ') (hR1 : σ'.2.2.length ≤ R.cells + n0) (hR2 : am_sz σ'.2.2 ≤ R.slots + z0) (hfr : am_fr k ≤ R.frames) (hlo : am_lc k ≤ R.locals) (hnl : nl = am_mxl k) (kk : am_Go p l e R s m args below meth c Q D dA b0 base n0 z0 nl (σ'.1, ls, σ'.2.1, σ'.2.2)) : am_Go p l e R s m args below meth c Q D dA b0 base n0 z0 nl (pc, ls, st, h) := by
  obtain ⟨hx, hb, hml, hown, hts, hr, hlk, hin, hK, hN, hX, hb0, hbs⟩ := Cx
  obtain rfl : len = 1 := hlen.resolve_left (fun q => absurd q (by show ¬ (1 : Nat) = 0; decide))
  simp only [am_dp] at hdo
  obtain ⟨x, i, a, r, n, f, rfl, hc0, hi, hx1, hf⟩ := am_zast_inv hdo
  obtain rfl := am_nx_inv hf
  intro H locs rl cells slots hW hS hl hn hc hz
  exact am_zastW hx hb (hK.2 2 _ rfl).1 hW.2 (am_D dA b0 base h) hS a (hW.cell hc0) hx1 hi hdg (fun H1 locs1 hz1 hP1 hS1 => kk H1 locs1 rl cells slots (hW.set hz1 hP1) hS1 hl hn (by rw [hc]; exact (List.length_set ..).symm) (hz.trans (am_sz_set (c' := (.inl (2, n, .inl (upd f i.toNatClampNeg x)))) hc0 rfl).symm))
theorem am_k_arraylength (Cx : am_Cx p s m args meth c D dA b0 base X k) {n0 z0 nl pc len : Nat} {ls st : List Value} {h : am_H} {σ' : am_P} (hdg : decode (am_bytes k) pc = .ok (.arraylength, len)) (hlen : am_len (.arraylength) = 0 ∨ len = am_len (.arraylength)) (hdo : am_dp X k (.arraylength) pc st h = some σ') (hR1 : σ'.2.2.length ≤ R.cells + n0) (hR2 : am_sz σ'.2.2 ≤ R.slots + z0) (hfr : am_fr k ≤ R.frames) (hlo : am_lc k ≤ R.locals) (hnl : nl = am_mxl k) (kk : am_Go p l e R s m args below meth c Q D dA b0 base n0 z0 nl (σ'.1, ls, σ'.2.1, σ'.2.2)) : am_Go p l e R s m args below meth c Q D dA b0 base n0 z0 nl (pc, ls, st, h) := by
  obtain ⟨hx, hb, hml, hown, hts, hr, hlk, hin, hK, hN, hX, hb0, hbs⟩ := Cx
  obtain rfl : len = 1 := hlen.resolve_left (fun q => absurd q (by show ¬ (1 : Nat) = 0; decide))
  simp only [am_dp] at hdo
  rcases am_alen_inv hdo with ⟨a, r, n, y, rfl, hc0, hf⟩ | ⟨r, rfl, hf⟩
  · obtain rfl := am_nx_inv hf
    intro H locs rl cells slots hW hS hl hn hc hz
    rcases hc0 with hc0 | hc0
    · exact va_alen hx hb hK hW.2 a 0 (hW.cell hc0) (ty := .int) rfl rfl hdg (kk H locs rl cells slots hW hS hl hn hc hz)
    · exact va_alen hx hb hK hW.2 a 1 (hW.cell hc0) (ty := .long) rfl rfl hdg (kk H locs rl cells slots hW hS hl hn hc hz)
  · obtain rfl := am_nx_inv hf
    intro H locs rl cells slots hW hS hl hn hc hz
    exact va_slen hx hb hX (Nat.lt_of_lt_of_le hb0 hbs) (Nat.not_le.mpr hb0) hS hdg (kk H locs rl cells slots hW hS hl hn hc hz)
theorem am_k_newarray (Cx : am_Cx p s m args meth c D dA b0 base X k) {n0 z0 nl pc len : Nat} {ls st : List Value} {h : am_H} {σ' : am_P} {t : ArrayType} (hdg : decode (am_bytes k) pc = .ok (.newarray t, len)) (hlen : am_len (.newarray t) = 0 ∨ len = am_len (.newarray t)) (hdo : am_dp X k (.newarray t) pc st h = some σ') (hR1 : σ'.2.2.length ≤ R.cells + n0) (hR2 : am_sz σ'.2.2 ≤ R.slots + z0) (hfr : am_fr k ≤ R.frames) (hlo : am_lc k ≤ R.locals) (hnl : nl = am_mxl k) (kk : am_Go p l e R s m args below meth c Q D dA b0 base n0 z0 nl (σ'.1, ls, σ'.2.1, σ'.2.2)) : am_Go p l e R s m args below meth c Q D dA b0 base n0 z0 nl (pc, ls, st, h) := by
  obtain ⟨hx, hb, hml, hown, hts, hr, hlk, hin, hK, hN, hX, hb0, hbs⟩ := Cx
  obtain rfl : len = 2 := hlen.resolve_left (fun q => absurd q (by show ¬ (2 : Nat) = 0; decide))
  simp only [am_dp] at hdo
  obtain ⟨x, r, rfl, hx0, hx1, hf⟩ := am_newa_inv hdo
  rcases hf with ⟨rfl, hf⟩ | ⟨rfl, hf⟩ | ⟨rfl, hf⟩
  · obtain rfl := am_nx_inv hf
    intro H locs rl cells slots hW hS hl hn hc hz
    have hR1 : (h ++ ([Sum.inl (0, x.toNatClampNeg, .inl fun _ => 0)] : am_H)).length ≤ R.cells + n0 := hR1
    have hR2 : am_sz (h ++ ([Sum.inl (0, x.toNatClampNeg, .inl fun _ => 0)] : am_H)) ≤ R.slots + z0 := hR2
    have hc : cells + n0 = h.length := hc
    have hz : slots + z0 = am_sz h := hz
    rw [List.length_append, List.length_singleton] at hR1
    rw [am_sz_app] at hR2
    simp only [am_cs] at hR2
    refine am_newaW (atype := .int) hx hb (hts _ am_arr_i) hW.2 hS (dk := dA 0) (hK.2 0 _ rfl).2 (a0 := (x.toNatClampNeg, .inl fun _ => 0)) (fun cA => rfl) hx0 rfl (by show _ * 4 ≤ _; omega) (by omega) (by omega) hdg (fun H1 hz1 hP1 hS1 => ?_)
    rw [show Value.ref H.size = am_v b0 base (.ref h.length) by rw [hW.1]; rfl]
    exact kk H1 locs rl _ _ (hW.app hz1 hP1) hS1 hl hn (by show _ = (h ++ [_]).length; rw [List.length_append, List.length_singleton]; omega) (by show _ = am_sz (h ++ [_]); rw [am_sz_app]; simp only [am_cs]; omega)
  · obtain rfl := am_nx_inv hf
    intro H locs rl cells slots hW hS hl hn hc hz
    have hR1 : (h ++ ([Sum.inl (1, x.toNatClampNeg, .inr (.inl fun _ => 0))] : am_H)).length ≤ R.cells + n0 := hR1
    have hR2 : am_sz (h ++ ([Sum.inl (1, x.toNatClampNeg, .inr (.inl fun _ => 0))] : am_H)) ≤ R.slots + z0 := hR2
    have hc : cells + n0 = h.length := hc
    have hz : slots + z0 = am_sz h := hz
    rw [List.length_append, List.length_singleton] at hR1
    rw [am_sz_app] at hR2
    simp only [am_cs] at hR2
    refine am_newaW (atype := .long) hx hb (hts _ am_arr_l) hW.2 hS (dk := dA 1) (hK.2 1 _ rfl).2 (a0 := (x.toNatClampNeg, .inr (.inl fun _ => 0))) (fun cA => rfl) hx0 rfl (by show _ * 8 ≤ _; omega) (by omega) (by omega) hdg (fun H1 hz1 hP1 hS1 => ?_)
    rw [show Value.ref H.size = am_v b0 base (.ref h.length) by rw [hW.1]; rfl]
    exact kk H1 locs rl _ _ (hW.app hz1 hP1) hS1 hl hn (by show _ = (h ++ [_]).length; rw [List.length_append, List.length_singleton]; omega) (by show _ = am_sz (h ++ [_]); rw [am_sz_app]; simp only [am_cs]; omega)
  · obtain rfl := am_nx_inv hf
    intro H locs rl cells slots hW hS hl hn hc hz
    have hR1 : (h ++ ([Sum.inl (2, x.toNatClampNeg, .inl fun _ => 0)] : am_H)).length ≤ R.cells + n0 := hR1
    have hR2 : am_sz (h ++ ([Sum.inl (2, x.toNatClampNeg, .inl fun _ => 0)] : am_H)) ≤ R.slots + z0 := hR2
    have hc : cells + n0 = h.length := hc
    have hz : slots + z0 = am_sz h := hz
    rw [List.length_append, List.length_singleton] at hR1
    rw [am_sz_app] at hR2
    simp only [am_cs] at hR2
    refine am_newaW (atype := .boolean) hx hb (hts _ am_arr_z) hW.2 hS (dk := dA 2) (hK.2 2 _ rfl).2 (a0 := (x.toNatClampNeg, .inl fun _ => 0)) (fun cA => rfl) hx0 rfl (by show _ * 1 ≤ _; omega) (by omega) (by omega) hdg (fun H1 hz1 hP1 hS1 => ?_)
    rw [show Value.ref H.size = am_v b0 base (.ref h.length) by rw [hW.1]; rfl]
    exact kk H1 locs rl _ _ (hW.app hz1 hP1) hS1 hl hn (by show _ = (h ++ [_]).length; rw [List.length_append, List.length_singleton]; omega) (by show _ = am_sz (h ++ [_]); rw [am_sz_app]; simp only [am_cs]; omega)
theorem am_k_new (Cx : am_Cx p s m args meth c D dA b0 base X k) {n0 z0 nl pc len : Nat} {ls st : List Value} {h : am_H} {σ' : am_P} {j : Nat} (hdg : decode (am_bytes k) pc = .ok (.new j, len)) (hlen : am_len (.new j) = 0 ∨ len = am_len (.new j)) (hdo : am_dp X k (.new j) pc st h = some σ') (hR1 : σ'.2.2.length ≤ R.cells + n0) (hR2 : am_sz σ'.2.2 ≤ R.slots + z0) (hfr : am_fr k ≤ R.frames) (hlo : am_lc k ≤ R.locals) (hnl : nl = am_mxl k) (kk : am_Go p l e R s m args below meth c Q D dA b0 base n0 z0 nl (σ'.1, ls, σ'.2.1, σ'.2.2)) : am_Go p l e R s m args below meth c Q D dA b0 base n0 z0 nl (pc, ls, st, h) := by
  obtain ⟨hx, hb, hml, hown, hts, hr, hlk, hin, hK, hN, hX, hb0, hbs⟩ := Cx
  obtain rfl : len = 3 := hlen.resolve_left (fun q => absurd q (by show ¬ (3 : Nat) = 0; decide))
  simp only [am_dp] at hdo
  split at hdo
  · rename_i ci hci
    obtain rfl := am_nx_inv hdo
    obtain ⟨C, T, N, h1, h2, h3, h4, h5, h6, h7⟩ := am_newc_ok hci
    intro H locs rl cells slots hW hS hl hn hc hz
    have hR1 : (h ++ [Sum.inr (ci, am_dfl ci)]).length ≤ R.cells + n0 := hR1
    have hR2 : am_sz (h ++ [Sum.inr (ci, am_dfl ci)]) ≤ R.slots + z0 := hR2
    have hc : cells + n0 = h.length := hc
    have hz : slots + z0 = am_sz h := hz
    rw [List.length_append, List.length_singleton] at hR1
    rw [am_sz_app] at hR2
    simp only [am_cs, h5] at hR2
    refine am_newW hx hb hts (am_cls_ok h1) hown (hts _ h2) (hts _ h3) (hts _ h4) hK hW.2 hS h1 (fs := (am_dfl ci).map (am_v b0 base)) (by rw [h7 (am_v b0 base) (fun _ => rfl) (fun _ => rfl) rfl]; exact h6) (by omega) (by omega) hdg (fun H1 hz1 hP1 hS1 => ?_)
    rw [show Value.ref H.size = am_v b0 base (.ref h.length) by rw [hW.1]; rfl]
    exact kk H1 locs rl _ _ (hW.app hz1 hP1) hS1 hl hn (by show _ = (h ++ [_]).length; rw [List.length_append, List.length_singleton]; omega) (by show _ = am_sz (h ++ [_]); rw [am_sz_app]; simp only [am_cs, h5]; omega)
  · cases hdo
theorem am_k_getfield (Cx : am_Cx p s m args meth c D dA b0 base X k) {n0 z0 nl pc len : Nat} {ls st : List Value} {h : am_H} {σ' : am_P} {j : Nat} (hdg : decode (am_bytes k) pc = .ok (.getfield j, len)) (hlen : am_len (.getfield j) = 0 ∨ len = am_len (.getfield j)) (hdo : am_dp X k (.getfield j) pc st h = some σ') (hR1 : σ'.2.2.length ≤ R.cells + n0) (hR2 : am_sz σ'.2.2 ≤ R.slots + z0) (hfr : am_fr k ≤ R.frames) (hlo : am_lc k ≤ R.locals) (hnl : nl = am_mxl k) (kk : am_Go p l e R s m args below meth c Q D dA b0 base n0 z0 nl (σ'.1, ls, σ'.2.1, σ'.2.2)) : am_Go p l e R s m args below meth c Q D dA b0 base n0 z0 nl (pc, ls, st, h) := by
  obtain ⟨hx, hb, hml, hown, hts, hr, hlk, hin, hK, hN, hX, hb0, hbs⟩ := Cx
  obtain rfl : len = 3 := hlen.resolve_left (fun q => absurd q (by show ¬ (3 : Nat) = 0; decide))
  simp only [am_dp] at hdo
  obtain ⟨ci, f, a, r, fs, v, hq, rfl, hc0, hv, hf⟩ := am_getf_inv hdo
  obtain rfl := am_nx_inv hf
  obtain ⟨C, T, N, h1, h2, h3, -⟩ := am_fld_ok hq
  intro H locs rl cells slots hW hS hl hn hc hz
  have hv' : (fs.map (am_v b0 base))[f]? = some (am_v b0 base v) := by rw [List.getElem?_map, hv]; rfl
  rcases h3 with h3 | ⟨host, h3⟩
  · exact va_get hx hb hts (am_cls_ok h1).1 hown hK hW.2 a (hW.cell hc0) h1 f h2 (hts _ h3) (fun _ h9 => h9) hv' hdg (kk H locs rl cells slots hW hS hl hn hc hz)
  · exact va_getN hx hb hts (am_cls_ok h1).1 hown hK hW.2 a (hW.cell hc0) h1 f h2 (va_Nw.use rfl (hN.1 _ h3)) (fun _ h9 => h9) hv' hdg (kk H locs rl cells slots hW hS hl hn hc hz)
theorem am_k_putfield (Cx : am_Cx p s m args meth c D dA b0 base X k) {n0 z0 nl pc len : Nat} {ls st : List Value} {h : am_H} {σ' : am_P} {j : Nat} (hdg : decode (am_bytes k) pc = .ok (.putfield j, len)) (hlen : am_len (.putfield j) = 0 ∨ len = am_len (.putfield j)) (hdo : am_dp X k (.putfield j) pc st h = some σ') (hR1 : σ'.2.2.length ≤ R.cells + n0) (hR2 : am_sz σ'.2.2 ≤ R.slots + z0) (hfr : am_fr k ≤ R.frames) (hlo : am_lc k ≤ R.locals) (hnl : nl = am_mxl k) (kk : am_Go p l e R s m args below meth c Q D dA b0 base n0 z0 nl (σ'.1, ls, σ'.2.1, σ'.2.2)) : am_Go p l e R s m args below meth c Q D dA b0 base n0 z0 nl (pc, ls, st, h) := by
  obtain ⟨hx, hb, hml, hown, hts, hr, hlk, hin, hK, hN, hX, hb0, hbs⟩ := Cx
  obtain rfl : len = 3 := hlen.resolve_left (fun q => absurd q (by show ¬ (3 : Nat) = 0; decide))
  simp only [am_dp] at hdo
  obtain ⟨ci, f, v, a, r, fs, hq, rfl, hc0, hfl, hfin, hnr, hft, hf⟩ := am_putf_inv hdo
  obtain rfl := am_nx_inv hf
  obtain ⟨C, T, N, h1, h2, h3, h4⟩ := am_fld_ok hq
  intro H locs rl cells slots hW hS hl hn hc hz
  obtain ⟨hnr', hft'⟩ := am_v_fit (b0 := b0) (base := base) hnr hft
  have hfl' : f < (fs.map (am_v b0 base)).length := by rw [List.length_map]; exact hfl
  have fin : ∀ (H1 : Heap) (locs1 : List Loc), H1.size = H.size → va_P D vwCl ((am_ws dA b0 base h).set a (base + a, .inr (ci, (fs.map (am_v b0 base)).set f (am_v b0 base v)))) H1 → va_S (am_A base) s.heap H1 locs1 → W p l e R s m args below meth c H1 locs1 cells slots Q (F0 m (pc + 3) rl (r.map (am_v b0 base))) := by
    intro H1 locs1 hz1 hP1 hS1
    rw [← List.map_set] at hP1
    exact kk H1 locs1 rl cells slots (hW.set hz1 hP1) hS1 hl hn (by rw [hc]; exact (List.length_set ..).symm) (by rw [hz]; exact (am_sz_set hc0 (by simp [am_cs])).symm)
  by_cases hfn : (T f).2.2.2 = true
  · have hct : am_ctor k ci = true := by
      rcases hfin with q | q
      · rw [h4] at hfn; rw [hfn] at q; cases q
      · exact q
    obtain ⟨g1, g2⟩ := am_ctor_own hct h1
    have h3' : Cond.fieldLink (am_cn (am_own k)) j (T f).1 (T f).2.1 (T f).2.2.1 ∈ am_WT := by
      rcases h3 with h3 | ⟨host, h3⟩
      · exact h3
      · exact absurd (g2 f h2) (am_NF_other h3)
    exact am_putF hx hb hts (am_cls_ok h1) hown hK hW.2 (am_D dA b0 base h) hS a (hW.cell hc0) h1 f h2 (hts _ h3') hfn (hin g1) (g2 f h2) hnr' hft' hfl' hdg fin
  · have hfn' : (T f).2.2.2 = false := by simpa using hfn
    rcases h3 with h3 | ⟨host, h3⟩
    · exact am_put hx hb hts (am_cls_ok h1) hown hK hW.2 (am_D dA b0 base h) hS a (hW.cell hc0) h1 f h2 (Or.inl (hts _ h3)) hfn' hnr' hft' hfl' hdg fin
    · exact am_put hx hb hts (am_cls_ok h1) hown hK hW.2 (am_D dA b0 base h) hS a (hW.cell hc0) h1 f h2 (Or.inr ⟨host, va_Nw.use rfl (hN.1 _ h3)⟩) hfn' hnr' hft' hfl' hdg fin
end AMT2
end
section
/-! CALLS, RETURNS, WHOLE METHODS -/
def am_wsm (k : Nat) : List Cond := Cond.code (am_name k) (am_bytes k) (am_mxl k) (am_ret k) :: am_WT
theorem am_good {k : Nat} (h : am_mok k) : GoodIn am_WT (am_wsm k) := by
  intro w hw
  rcases List.mem_cons.mp hw with rfl | hw
  · exact ⟨h.2.1, am_WT_good _ h.2.1⟩
  · exact ⟨hw, am_WT_good _ hw⟩
/-- the world at a method's start and end -/
def am_W0 (D : va_G) (dA : Nat → ClassId) (b0 base : Nat) (X : Nat × (Nat → Int32)) (h : am_H) (U : State) : Prop :=
  am_Wd D dA b0 base h U.heap ∧ va_K D vwCl (am_tys dA) U ∧ am_NW U ∧ va_X b0 X.1 X.2 U U.heap ∧ b0 < base
def am_Q (D : va_G) (dA : Nat → ClassId) (b0 base : Nat) (X : Nat × (Nat → Int32)) (r : Option Value) (h' : am_H) : Array Value → State → Outcome → State → Prop := fun _ st o t =>
  (o = .returned (r.map (am_v b0 base)) ∧ am_W0 D dA b0 base X h' t) ∧ va_F (am_A base) st t
def am_rm (k n z : Nat) : Room := { frames := am_fr k, cells := n, slots := z, locals := am_lc k }
/-- method k, from arguments and a heap, comes to this answer and this heap -/
def am_Met (l : Launch) (D : va_G) (dA : Nat → ClassId) (b0 base : Nat) (X : Nat × (Nat → Int32)) (k : Nat) (as : List Value) (h : am_H) (r : Option Value) (h' : am_H) : Prop :=
  Met l (am_name k) (am_wsm k) (am_rm k (h'.length - h.length) (am_sz h' - am_sz h)) (va_Pc (as.map (am_v b0 base)) (am_W0 D dA b0 base X h)) (am_Q D dA b0 base X r h') (h'.length - h.length) (am_sz h' - am_sz h) (am_A base)
theorem am_NW_warm {s U : State} (hW : s.WarmedH U.vm) (h : am_NW s) : am_NW U := ⟨fun q hq => va_Nw.warmF hW (h.1 q hq), fun q hq => va_Nw.warmM hW (h.2 q hq)⟩
theorem am_NW_same {s U : State} (hv : s.vm = U.vm) (h : am_NW s) : am_NW U := ⟨fun q hq => va_Nw.same rfl hv (h.1 q hq), fun q hq => va_Nw.same rfl hv (h.2 q hq)⟩
theorem am_blind {D : va_G} {dA : Nat → ClassId} {b0 base : Nat} {X : Nat × (Nat → Int32)} {h : am_H} {av : List Value} : FrameBlind (va_Pc av (am_W0 D dA b0 base X h)) := by
  intro a U g mk q
  obtain ⟨q0, q1, q2, q3, q4, q5⟩ := q
  exact ⟨q0, q1, va_K.moved (u := U) (U := U.calling g mk a) (Vm.Alike.refl U.vm) q2, am_NW_same (s := U) (U := U.calling g mk a) rfl q3, va_X.moved (u := U) (U := U.calling g mk a) (Vm.Alike.refl U.vm) q4, q5⟩
theorem am_inv0 {k : Nat} {q : Option (Nat × Nat × Nat)} {pc k' pc' : Nat} {ls st as ls' st' : List Value} {h h0 : am_H} (hq : am_inv k 0 q pc ls st h = some (k', as, (pc', ls', st', h0))) : ∃ np, q = some (0, k', np) ∧ am_may k k' = true ∧ np ≤ st.length ∧ am_low st' = true ∧ as = (st.take np).reverse ∧ st' = st.drop np ∧ pc' = pc + 3 ∧ ls' = ls ∧ h0 = h := by
  unfold am_inv at hq
  split at hq
  · cases hq
  · split at hq
    · cases hq
    · rename_i hk
      rw [Bool.and_eq_true, Bool.and_eq_true] at hk
      have e1 := eq_of_beq hk.1.1
      subst e1
      split at hq <;> first | (rename_i e; exact absurd e (by decide)) | (cases hq; done) | skip
      split at hq
      · rename_i hl
        cases hq
        exact ⟨_, rfl, hk.2, of_decide_eq_true hk.1.2, hl, rfl, rfl, rfl, rfl, rfl⟩
      · cases hq
theorem am_inv1 {k : Nat} {q : Option (Nat × Nat × Nat)} {pc k' pc' : Nat} {ls st as ls' st' : List Value} {h h0 : am_H} (hq : am_inv k 1 q pc ls st h = some (k', as, (pc', ls', st', h0))) : ∃ np a fs, q = some (1, k', np) ∧ am_may k k' = true ∧ np ≤ st.length ∧ st.drop np = .ref a :: st' ∧ h[a]? = some (.inr (am_rcv k', fs)) ∧ am_low st' = true ∧ as = .ref a :: (st.take np).reverse ∧ pc' = pc + 3 ∧ ls' = ls ∧ h0 = h := by
  unfold am_inv at hq
  split at hq
  · cases hq
  · split at hq
    · cases hq
    · rename_i hk
      rw [Bool.and_eq_true, Bool.and_eq_true] at hk
      have e1 := eq_of_beq hk.1.1
      subst e1
      split at hq <;> first | (rename_i e; exact absurd e (by decide)) | (cases hq; done) | skip
      split at hq
      · rename_i hd
        split at hq
        · rename_i hc
          split at hq
          · rename_i hl
            rw [Bool.and_eq_true] at hl
            have e2 := eq_of_beq hl.1
            subst e2
            cases hq
            exact ⟨_, _, _, rfl, hk.2, of_decide_eq_true hk.1.2, hd, hc, hl.2, rfl, rfl, rfl, rfl⟩
          · cases hq
        · cases hq
      · cases hq
theorem am_inv2 {k : Nat} {q : Option (Nat × Nat × Nat)} {pc k' pc' : Nat} {ls st as ls' st' : List Value} {h h0 : am_H} (hq : am_inv k 2 q pc ls st h = some (k', as, (pc', ls', st', h0))) : ∃ np a, q = some (2, k', np) ∧ am_may k k' = true ∧ np ≤ st.length ∧ st.drop np = .ref a :: st' ∧ am_low st' = true ∧ as = .ref a :: (st.take np).reverse ∧ pc' = pc + 3 ∧ ls' = ls ∧ h0 = h := by
  unfold am_inv at hq
  split at hq
  · cases hq
  · split at hq
    · cases hq
    · rename_i hk
      rw [Bool.and_eq_true, Bool.and_eq_true] at hk
      have e1 := eq_of_beq hk.1.1
      subst e1
      split at hq <;> first | (rename_i e; exact absurd e (by decide)) | (cases hq; done) | skip
      split at hq
      · rename_i hd
        split at hq
        · rename_i hl
          cases hq
          exact ⟨_, _, rfl, hk.2, of_decide_eq_true hk.1.2, hd, hl, rfl, rfl, rfl, rfl⟩
        · cases hq
      · cases hq
theorem am_cl_eq {k pc k' pc' : Nat} {i : Instr} {ls st as ls' st' : List Value} {h h0 : am_H} (hq : am_cl k i pc ls st h = some (k', as, (pc', ls', st', h0))) : pc' = pc + 3 ∧ ls' = ls ∧ h0 = h := by
  cases i <;> try (exact nomatch (show (none : Option (Nat × List Value × am_S)) = some _ from hq))
  case invokestatic j =>
    obtain ⟨_, _, _, _, _, _, _, e⟩ := am_inv0 (show am_inv k 0 _ pc ls st h = _ from hq)
    exact e
  case invokevirtual j =>
    obtain ⟨_, _, _, _, _, _, _, _, _, _, e⟩ := am_inv1 (show am_inv k 1 _ pc ls st h = _ from hq)
    exact e
  case invokespecial j =>
    obtain ⟨_, _, _, _, _, _, _, _, e⟩ := am_inv2 (show am_inv k 2 _ pc ls st h = _ from hq)
    exact e
theorem am_low_map {b0 base : Nat} {st : List Value} (h : am_low st = true) : ((st.map (am_v b0 base)).map fun v => v.category).sum ≤ 8 := by
  have h1 := of_decide_eq_true h
  rw [List.map_map, show ((fun v : Value => v.category) ∘ am_v b0 base) = (fun v : Value => v.category) from funext (am_v_cat b0 base)]
  exact h1
theorem am_take_map (b0 base : Nat) (st : List Value) (np : Nat) : st.map (am_v b0 base) = ((st.take np).reverse.map (am_v b0 base)).reverse ++ (st.drop np).map (am_v b0 base) := by
  rw [List.map_reverse, List.reverse_reverse, ← List.map_append, List.take_append_drop]
end
section
/-! CALLS AND RETURNS -/
section AMC
variable {p : Program} {l : Launch} {e : Env} {R : Room} {s : State} {m : MethodId} {args : Array Value} {below : List Frame} {meth : Method} {c : Code} {Q : State → Prop}
variable {D : va_G} {dA : Nat → ClassId} {b0 base : Nat} {X : Nat × (Nat → Int32)} {k : Nat}
theorem am_callW {H : Heap} {locs : List Loc} {cells slots mc ms pc : Nat} {rl : Array Slot} {st0 rest : List Value} {r : Option Value} {h' : am_H} {a0 : Array Value} (hr : va_Run p l e R s m args below meth c H locs cells slots mc ms (F0 m pc rl st0) rest (am_Q D dA b0 base X r h' a0) (am_A base)) (hS : va_S (am_A base) s.heap H locs)
    (kk : ∀ (H1 : Heap) (locs1 : List Loc), am_Wd D dA b0 base h' H1 → va_S (am_A base) s.heap H1 locs1 → W p l e R s m args below meth c H1 locs1 (cells + mc) (slots + ms) Q (F0 m (pc + 3) rl ((r.map (am_v b0 base)).toList ++ rest))) : W p l e R s m args below meth c H locs cells slots Q (F0 m pc rl st0) := by
  intro T hT X0
  obtain ⟨v, st₀, t, T', L, h0, X', hL, e1, e2, ⟨⟨hv, hw⟩, hz, hk⟩, st⟩ := hr T hT X0
  cases hv
  rw [h0] at hz hk
  obtain ⟨t2, a1, b1⟩ := kk T'.heap (locs ++ L) (by rw [e1]; exact hw.1)
    ⟨Nat.le_trans hS.1 (by rw [e1]; exact hz), fun q h1 h2 => by rw [e1, hk q (Nat.lt_of_lt_of_le h1 hS.1) h2]; exact hS.2.1 q h1 h2, fun q hq => by
      rcases List.mem_append.mp hq with h | h
      · exact hS.2.2 q h
      · exact hL q h⟩ T' rfl X'
  exact ⟨t2, st t2 a1, b1⟩
theorem am_pc (Cx : am_Cx p s m args meth c D dA b0 base X k) {h : am_H} {H : Heap} {locs : List Loc} {av : List Value} (hW : am_Wd D dA b0 base h H) (hS : va_S (am_A base) s.heap H locs) : ∀ U : State, U.heap = H → s.WarmedH U.vm → va_Pc av (am_W0 D dA b0 base X h) av.toArray U := by
  obtain ⟨hx, hb, hml, hown, hts, hr, hlk, hin, hK, hN, hX, hb0, hbs⟩ := Cx
  intro U hU hWm
  refine ⟨rfl, by rw [hU]; exact hW, va_K.moved hWm.alike hK, am_NW_warm hWm hN, ?_, hb0⟩
  rw [hU]
  exact (hX.kept (hS.2.1 b0 (Nat.lt_of_lt_of_le hb0 hbs) (Nat.not_le.mpr hb0))).moved hWm.alike
set_option maxHeartbeats 16000000 in
/-- a call of the plain machine is one of the claim's -/
theorem am_k_call (Cx : am_Cx p s m args meth c D dA b0 base X k) {n0 z0 nl pc len : Nat} {ls st : List Value} {h : am_H} {i : Instr} (hdg : decode (am_bytes k) pc = .ok (i, len)) (hlen : am_len i = 0 ∨ len = am_len i)
    {k' : Nat} {as st' : List Value} {h' : am_H} {r : Option Value} (hcl : am_cl k i pc ls st h = some (k', as, (pc + 3, ls, st', h))) (hM : am_mok k' → am_Met l D dA b0 base X k' as h r h') (hm1 : h.length ≤ h'.length) (hm2 : am_sz h ≤ am_sz h')
    (hR1 : h'.length ≤ R.cells + n0) (hR2 : am_sz h' ≤ R.slots + z0) (hfr : am_fr k ≤ R.frames) (hlo : am_lc k ≤ R.locals) (hnl : nl = am_mxl k) (kk : am_Go p l e R s m args below meth c Q D dA b0 base n0 z0 nl (pc + 3, ls, r.toList ++ st', h')) : am_Go p l e R s m args below meth c Q D dA b0 base n0 z0 nl (pc, ls, st, h) := by
  have Cx0 := Cx
  obtain ⟨hx, hb, hml, hown, hts, hr, hlk, hin, hK, hN, hX, hb0, hbs⟩ := Cx
  intro H locs rl cells slots hW hS hl hn hc hz
  have hW : am_Wd D dA b0 base h H := hW
  have hc : cells + n0 = h.length := hc
  have hz : slots + z0 = am_sz h := hz
  have hn : ls.length = nl := hn
  have hsz : rl.size = am_mxl k := by rw [hl.size, ← hnl]; exact hn
  have fin : ∀ (H1 : Heap) (locs1 : List Loc), am_Wd D dA b0 base h' H1 → va_S (am_A base) s.heap H1 locs1 → W p l e R s m args below meth c H1 locs1 (cells + (h'.length - h.length)) (slots + (am_sz h' - am_sz h)) Q (F0 m (pc + 3) rl ((r.map (am_v b0 base)).toList ++ st'.map (am_v b0 base))) := by
    intro H1 locs1 hW1 hS1
    have := kk H1 locs1 rl (cells + (h'.length - h.length)) (slots + (am_sz h' - am_sz h)) hW1 hS1 hl hn (by show _ = h'.length; omega) (by show _ = am_sz h'; omega)
    have e4 : ((r.toList ++ st').map (am_v b0 base)) = (r.map (am_v b0 base)).toList ++ st'.map (am_v b0 base) := by cases r <;> simp
    rw [← e4]
    exact this
  have room : am_may k k' = true → (am_rm k' (h'.length - h.length) (am_sz h' - am_sz h)).frames + 1 ≤ R.frames ∧ 8 + (am_mxl k' + 11) + (am_rm k' (h'.length - h.length) (am_sz h' - am_sz h)).locals ≤ R.locals := by
    intro hmay
    unfold am_may at hmay
    rw [Bool.and_eq_true] at hmay
    have g1 := Nat.le_of_ble_eq_true hmay.1
    have g2 := Nat.le_of_ble_eq_true hmay.2
    refine ⟨Nat.le_trans g1 hfr, ?_⟩
    show 8 + (am_mxl k' + 11) + am_lc k' ≤ R.locals
    omega
  have space : cells + (h'.length - h.length) ≤ R.cells ∧ slots + (am_sz h' - am_sz h) ≤ R.slots := by omega
  cases i <;> try (exact nomatch (show (none : Option (Nat × List Value × am_S)) = some _ from hcl))
  case invokestatic j =>
    obtain rfl : len = 3 := hlen.resolve_left (fun q => absurd q (by show ¬ (3 : Nat) = 0; decide))
    obtain ⟨np, hq, hmay, hnp, hlow, rfl, rfl, -, -, -⟩ := am_inv0 (show am_inv k 0 (am_met (am_own k) j) pc ls st h = some _ from hcl)
    obtain ⟨hmk, hpar, hlink, hst, -, -⟩ := am_met_ok hq (by decide)
    have hG := am_good hmk
    have hM' : Met l (am_name k') (am_wsm k') (am_rm k' (h'.length - h.length) (am_sz h' - am_sz h)) (va_Pc (((st.take np).reverse).map (am_v b0 base)) (am_W0 D dA b0 base X h)) (am_Q D dA b0 base X r h') (h'.length - h.length) (am_sz h' - am_sz h) (am_A base) := hM hmk
    have hn' : (((st.take np).reverse).map (am_v b0 base)).length = np := by rw [List.length_map, List.length_reverse, List.length_take]; omega
    have hstack : (F0 m pc rl (st.map (am_v b0 base))).stack = (((st.take np).reverse).map (am_v b0 base)).reverse ++ (st.drop np).map (am_v b0 base) := am_take_map b0 base st np
    rcases hlink with hlink | ⟨host, hlink⟩
    · exact am_callW (va_runS ⟨hx, hb, hml, hown, hts⟩ hM' ⟨callB_of np hts hG rfl rfl rfl (hts _ hmk.1) (hts _ hlink) ⟨hmk.2.2.1, hmk.2.2.2.1, hpar⟩ (room hmay), hts _ (hst rfl)⟩ ⟨am_blind, am_pc Cx0 hW hS⟩ rfl hn' hsz hstack (lv_room (am_low_map hlow)) hdg space) hS fin
    · exact am_callW (va_runSN ⟨hx, hb, hml, hown, hts⟩ hM' ⟨va_cnB np hts hG rfl rfl rfl (hN.2 _ hlink) (hts _ hmk.1) ⟨hmk.2.2.1, hmk.2.2.2.1, hpar⟩ (room hmay), hts _ (hst rfl), trivial⟩ ⟨am_blind, am_pc Cx0 hW hS⟩ rfl hn' hsz hstack (lv_room (am_low_map hlow)) hdg space) hS fin
  case invokevirtual j =>
    obtain rfl : len = 3 := hlen.resolve_left (fun q => absurd q (by show ¬ (3 : Nat) = 0; decide))
    obtain ⟨np, a, fs, hq, hmay, hnp, hdr, hcell, hlow, rfl, -, -, -⟩ := am_inv1 (show am_inv k 1 (am_met (am_own k) j) pc ls st h = some _ from hcl)
    obtain ⟨hmk, hpar, hlink, -, hvi, -⟩ := am_met_ok hq (by decide)
    obtain ⟨hinst, C, T, N, hcv, hsel⟩ := hvi rfl
    have hG := am_good hmk
    have hM' : Met l (am_name k') (am_wsm k') (am_rm k' (h'.length - h.length) (am_sz h' - am_sz h)) (va_Pc (.ref (base + a) :: ((st.take np).reverse).map (am_v b0 base)) (am_W0 D dA b0 base X h)) (am_Q D dA b0 base X r h') (h'.length - h.length) (am_sz h' - am_sz h) (am_A base) := hM hmk
    have hn' : (((st.take np).reverse).map (am_v b0 base)).length = np := by rw [List.length_map, List.length_reverse, List.length_take]; omega
    have hstack : (F0 m pc rl (st.map (am_v b0 base))).stack = (((st.take np).reverse).map (am_v b0 base)).reverse ++ .ref (base + a) :: st'.map (am_v b0 base) := by
      have := am_take_map b0 base st np
      rw [hdr] at this
      exact this
    have hpre : PreV s H C (base + a) (va_Pc (.ref (base + a) :: ((st.take np).reverse).map (am_v b0 base)) (am_W0 D dA b0 base X h)) (((st.take np).reverse).map (am_v b0 base)) := ⟨am_blind, va_recv hK hW.2 hcv (hW.cell hcell), am_pc Cx0 hW hS⟩
    rcases hlink with hlink | ⟨host, hlink⟩
    · exact am_callW (va_runV ⟨hx, hb, hml, hown, hts⟩ hM' ⟨callB_of np hts hG rfl rfl rfl (hts _ hmk.1) (hts _ hlink) ⟨hmk.2.2.1, hmk.2.2.2.1, hpar⟩ (room hmay), hts _ hinst, hts _ hsel⟩ hpre rfl hn' hsz hstack (lv_room (am_low_map hlow)) hdg space) hS fin
    · exact am_callW (va_runVN ⟨hx, hb, hml, hown, hts⟩ hM' ⟨va_cnB np hts hG rfl rfl rfl (hN.2 _ hlink) (hts _ hmk.1) ⟨hmk.2.2.1, hmk.2.2.2.1, hpar⟩ (room hmay), hts _ hinst, hts _ hsel⟩ hpre rfl hn' hsz hstack (lv_room (am_low_map hlow)) hdg space) hS fin
  case invokespecial j =>
    obtain rfl : len = 3 := hlen.resolve_left (fun q => absurd q (by show ¬ (3 : Nat) = 0; decide))
    obtain ⟨np, a, hq, hmay, hnp, hdr, hlow, rfl, -, -, -⟩ := am_inv2 (show am_inv k 2 (am_met (am_own k) j) pc ls st h = some _ from hcl)
    obtain ⟨hmk, hpar, hlink, -, -, hii⟩ := am_met_ok hq (by decide)
    obtain ⟨hinst, hnm, hret⟩ := hii rfl
    have hG := am_good hmk
    have hM' : Met l (am_name k') (am_wsm k') (am_rm k' (h'.length - h.length) (am_sz h' - am_sz h)) (va_Pc (.ref (base + a) :: ((st.take np).reverse).map (am_v b0 base)) (am_W0 D dA b0 base X h)) (am_Q D dA b0 base X r h') (h'.length - h.length) (am_sz h' - am_sz h) (am_A base) := hM hmk
    have hws : am_wsm k' = Cond.code (am_name k') (am_bytes k') (am_mxl k') none :: am_WT := by unfold am_wsm; rw [hret]
    have hn' : (((st.take np).reverse).map (am_v b0 base)).length = np := by rw [List.length_map, List.length_reverse, List.length_take]; omega
    have hstack : (F0 m pc rl (st.map (am_v b0 base))).stack = (((st.take np).reverse).map (am_v b0 base)).reverse ++ .ref (base + a) :: st'.map (am_v b0 base) := by
      have := am_take_map b0 base st np
      rw [hdr] at this
      exact this
    have hpre : PreS s H (va_Pc (.ref (base + a) :: ((st.take np).reverse).map (am_v b0 base)) (am_W0 D dA b0 base X h)) (.ref (base + a) :: ((st.take np).reverse).map (am_v b0 base)) := ⟨am_blind, am_pc Cx0 hW hS⟩
    rcases hlink with hlink | ⟨host, hlink⟩
    · exact am_callW (va_runI ⟨hx, hb, hml, hown, hts⟩ hM' ⟨callB_of np hts hG hws rfl rfl (hts _ hmk.1) (hts _ hlink) ⟨hmk.2.2.1, hmk.2.2.2.1, hpar⟩ (room hmay), hnm, hts _ hinst⟩ hpre rfl hn' hsz hstack (lv_room (am_low_map hlow)) hdg space) hS fin
    · exact am_callW (va_runIN ⟨hx, hb, hml, hown, hts⟩ hM' ⟨va_cnB np hts hG hws rfl rfl (hN.2 _ hlink) (hts _ hmk.1) ⟨hmk.2.2.1, hmk.2.2.2.1, hpar⟩ (room hmay), hnm, hts _ hinst⟩ hpre rfl hn' hsz hstack (lv_room (am_low_map hlow)) hdg space) hS fin
/-- a return of the plain machine is one of the claim's -/
theorem am_k_ret (Cx : am_Cx p s m args meth c D dA b0 base X k) {n0 z0 nl pc len : Nat} {ls st : List Value} {h h' : am_H} {i : Instr} {r : Option Value} (hdg : decode (am_bytes k) pc = .ok (i, len)) (hlen : am_len i = 0 ∨ len = am_len i) (hrt : am_rt k i st h = some (r, h')) :
    am_Go p l e R s m args below meth c (MQ below (am_Q D dA b0 base X r h') args s (h'.length - n0) (am_sz h' - z0) (am_A base)) D dA b0 base n0 z0 nl (pc, ls, st, h) := by
  have Cx0 := Cx
  obtain ⟨hx, hb, hml, hown, hts, hr, hlk, hin, hK, hN, hX, hb0, hbs⟩ := Cx
  intro H locs rl cells slots hW hS hl hn hc hz
  have hc : cells + n0 = h.length := hc
  have hz : slots + z0 = am_sz h := hz
  have qq : h' = h → ∀ t : State, t.heap = H → s.WarmedH t.vm → am_Q D dA b0 base X r h' args s (.returned (r.map (am_v b0 base))) t := by
    intro e1 t ht hWm
    subst e1
    exact ⟨⟨rfl, (am_pc Cx0 (av := []) hW hS t ht hWm).2⟩, hS.F ht⟩
  have hcl : h' = h → cells = h'.length - n0 ∧ slots = am_sz h' - z0 := by
    intro e1
    subst e1
    omega
  cases i <;> try (exact nomatch (show (none : Option (Option Value × am_H)) = some _ from hrt))
  case ireturn =>
    obtain rfl : len = 1 := hlen.resolve_left (fun q => absurd q (by show ¬ (1 : Nat) = 0; decide))
    simp only [am_rt] at hrt
    split at hrt
    · rename_i v
      split at hrt
      · rename_i ty hty
        split at hrt
        · rename_i hnr
          cases hrt
          obtain ⟨e1, e2⟩ := hcl rfl
          subst e1 e2
          exact W.zret hx hb (hr.trans hty) hnr (qq rfl) hS.2.2 hdg hlk
        · cases hrt
      · cases hrt
    · cases hrt
  case lreturn =>
    obtain rfl : len = 1 := hlen.resolve_left (fun q => absurd q (by show ¬ (1 : Nat) = 0; decide))
    simp only [am_rt] at hrt
    split at hrt
    · split at hrt
      · rename_i hty
        cases hrt
        obtain ⟨e1, e2⟩ := hcl rfl
        subst e1 e2
        exact W.lret hx hb (hr.trans hty) (qq rfl) hS.2.2 hdg hlk
      · cases hrt
    · cases hrt
  case areturn =>
    obtain rfl : len = 1 := hlen.resolve_left (fun q => absurd q (by show ¬ (1 : Nat) = 0; decide))
    simp only [am_rt] at hrt
    split at hrt
    · split at hrt
      · rename_i hty
        cases hrt
        obtain ⟨e1, e2⟩ := hcl rfl
        subst e1 e2
        exact W.aret hx hb (hr.trans hty) (Or.inl ⟨_, rfl⟩) (Or.inr ⟨_, rfl⟩) (qq rfl) hS.2.2 hdg hlk
      · rename_i hty
        cases hrt
        obtain ⟨e1, e2⟩ := hcl rfl
        subst e1 e2
        exact W.aret hx hb (hr.trans hty) (Or.inr ⟨_, rfl⟩) (Or.inr ⟨_, rfl⟩) (qq rfl) hS.2.2 hdg hlk
      · cases hrt
    · cases hrt
  case return_ =>
    obtain rfl : len = 1 := hlen.resolve_left (fun q => absurd q (by show ¬ (1 : Nat) = 0; decide))
    simp only [am_rt] at hrt
    split at hrt
    · split at hrt
      · rename_i hty
        cases hrt
        obtain ⟨e1, e2⟩ := hcl rfl
        subst e1 e2
        exact W.vret hx hb (hr.trans hty) (qq rfl) hS.2.2 hdg hlk
      · cases hrt
    · cases hrt
end AMC
end
section
/-! MATH'S OWN, OBJECT'S CONSTRUCTOR; ALL INSTRUCTIONS; WHOLE METHODS -/
theorem am_math_inv {α : Type} {op : Nat} {st : List Value} {f : Value → List Value → Option α} {ρ : α} (h : am_math op st f = some ρ) : (op = 0 ∧ ∃ x y r, st = .int y :: .int x :: r ∧ f (.int (if x < y then y else x)) r = some ρ) ∨ (op = 1 ∧ ∃ x y r, st = .int y :: .int x :: r ∧ f (.int (if y < x then y else x)) r = some ρ) ∨ (op = 5 ∧ ∃ x r, st = .long x :: r ∧ f (.long (if 0 < x then x else -x)) r = some ρ) := by
  unfold am_math at h
  split at h
  · exact Or.inl ⟨rfl, am_i2_inv h⟩
  · exact Or.inr (Or.inl ⟨rfl, am_i2_inv h⟩)
  · exact Or.inr (Or.inr ⟨rfl, am_l1_inv h⟩)
  · cases h
theorem am_if_inv {α : Type} {b : Bool} {q : Option α} {ρ : α} (h : (if b = true then q else none) = some ρ) : b = true ∧ q = some ρ := by
  cases b
  · cases h
  · exact ⟨rfl, h⟩
section AMT3
variable {p : Program} {l : Launch} {e : Env} {R : Room} {s : State} {m : MethodId} {args : Array Value} {below : List Frame} {meth : Method} {c : Code} {Q : State → Prop}
variable {D : va_G} {dA : Nat → ClassId} {b0 base : Nat} {X : Nat × (Nat → Int32)} {k : Nat}

theorem am_k_invokestatic (Cx : am_Cx p s m args meth c D dA b0 base X k) {n0 z0 nl pc len : Nat} {ls st : List Value} {h : am_H} {σ' : am_P} {j : Nat} (hdg : decode (am_bytes k) pc = .ok (.invokestatic j, len)) (hlen : am_len (.invokestatic j) = 0 ∨ len = am_len (.invokestatic j)) (hdo : am_dp X k (.invokestatic j) pc st h = some σ') (hR1 : σ'.2.2.length ≤ R.cells + n0) (hR2 : am_sz σ'.2.2 ≤ R.slots + z0) (hfr : am_fr k ≤ R.frames) (hlo : am_lc k ≤ R.locals) (hnl : nl = am_mxl k) (kk : am_Go p l e R s m args below meth c Q D dA b0 base n0 z0 nl (σ'.1, ls, σ'.2.1, σ'.2.2)) : am_Go p l e R s m args below meth c Q D dA b0 base n0 z0 nl (pc, ls, st, h) := by
  obtain ⟨hx, hb, hml, hown, hts, hr, hlk, hin, hK, hN, hX, hb0, hbs⟩ := Cx
  obtain rfl : len = 3 := hlen.resolve_left (fun q => absurd q (by show ¬ (3 : Nat) = 0; decide))
  simp only [am_dp] at hdo
  split at hdo
  · rename_i op np hq
    rcases am_math_inv hdo with ⟨rfl, x, y, r, rfl, hf⟩ | ⟨rfl, x, y, r, rfl, hf⟩ | ⟨rfl, x, r, rfl, hf⟩
    · obtain ⟨hlow, hf⟩ := am_if_inv hf
      obtain rfl := am_nx_inv hf
      rw [Bool.and_eq_true, Bool.and_eq_true] at hlow
      intro H locs rl cells slots hW hS hl hn hc hz
      have hc1 : cells + n0 = h.length := hc
      have hz1 : slots + z0 = am_sz h := hz
      have hR1 : h.length ≤ R.cells + n0 := hR1
      have hR2 : am_sz h ≤ R.slots + z0 := hR2
      have hlw := am_low_map (b0 := b0) (base := base) hlow.1.1
      have g1 := Nat.le_of_ble_eq_true hlow.1.2
      have g2 := Nat.le_of_ble_eq_true hlow.2
      exact va_mmax hx hb (by rw [hml, hl.size, ← hnl]; exact hn.symm) hown (hts _ (am_met_max hq).1) (hts _ (am_met_max hq).2) (hts _ am_math_i) (hts _ am_mmax_c) (Nat.le_trans g1 hfr) (by omega) (by omega) (by omega) hdg (kk H locs rl cells slots hW hS hl hn hc hz)
    · obtain ⟨hlow, hf⟩ := am_if_inv hf
      obtain rfl := am_nx_inv hf
      rw [Bool.and_eq_true, Bool.and_eq_true] at hlow
      intro H locs rl cells slots hW hS hl hn hc hz
      have hc1 : cells + n0 = h.length := hc
      have hz1 : slots + z0 = am_sz h := hz
      have hR1 : h.length ≤ R.cells + n0 := hR1
      have hR2 : am_sz h ≤ R.slots + z0 := hR2
      have hlw := am_low_map (b0 := b0) (base := base) hlow.1.1
      have g1 := Nat.le_of_ble_eq_true hlow.1.2
      have g2 := Nat.le_of_ble_eq_true hlow.2
      exact va_mmin hx hb (by rw [hml, hl.size, ← hnl]; exact hn.symm) hown (hts _ (am_met_min hq).1) (hts _ (am_met_min hq).2) (hts _ am_math_i) (hts _ am_mmin_c) (Nat.le_trans g1 hfr) (by omega) (by omega) (by omega) hdg (kk H locs rl cells slots hW hS hl hn hc hz)
    · obtain ⟨hlow, hf⟩ := am_if_inv hf
      obtain rfl := am_nx_inv hf
      rw [Bool.and_eq_true, Bool.and_eq_true] at hlow
      intro H locs rl cells slots hW hS hl hn hc hz
      have hc1 : cells + n0 = h.length := hc
      have hz1 : slots + z0 = am_sz h := hz
      have hR1 : h.length ≤ R.cells + n0 := hR1
      have hR2 : am_sz h ≤ R.slots + z0 := hR2
      have hlw := am_low_map (b0 := b0) (base := base) hlow.1.1
      have g1 := Nat.le_of_ble_eq_true hlow.1.2
      have g2 := Nat.le_of_ble_eq_true hlow.2
      exact va_mabs_long hx hb (by rw [hml, hl.size, ← hnl]; exact hn.symm) hown (hts _ (am_met_abs hq).1) (hts _ (am_met_abs hq).2) (hts _ am_math_i) (hts _ am_mabs_c) (Nat.le_trans g1 hfr) (by omega) (by omega) (by omega) hdg (kk H locs rl cells slots hW hS hl hn hc hz)
  · cases hdo
theorem am_k_invokespecial (Cx : am_Cx p s m args meth c D dA b0 base X k) {n0 z0 nl pc len : Nat} {ls st : List Value} {h : am_H} {σ' : am_P} {j : Nat} (hdg : decode (am_bytes k) pc = .ok (.invokespecial j, len)) (hlen : am_len (.invokespecial j) = 0 ∨ len = am_len (.invokespecial j)) (hdo : am_dp X k (.invokespecial j) pc st h = some σ') (hR1 : σ'.2.2.length ≤ R.cells + n0) (hR2 : am_sz σ'.2.2 ≤ R.slots + z0) (hfr : am_fr k ≤ R.frames) (hlo : am_lc k ≤ R.locals) (hnl : nl = am_mxl k) (kk : am_Go p l e R s m args below meth c Q D dA b0 base n0 z0 nl (σ'.1, ls, σ'.2.1, σ'.2.2)) : am_Go p l e R s m args below meth c Q D dA b0 base n0 z0 nl (pc, ls, st, h) := by
  obtain ⟨hx, hb, hml, hown, hts, hr, hlk, hin, hK, hN, hX, hb0, hbs⟩ := Cx
  obtain rfl : len = 3 := hlen.resolve_left (fun q => absurd q (by show ¬ (3 : Nat) = 0; decide))
  simp only [am_dp] at hdo
  split at hdo
  · rename_i hq
    obtain ⟨a, r, rfl, hf⟩ := am_r1_inv hdo
    obtain ⟨hlow, hf⟩ := am_if_inv hf
    obtain rfl := am_nx_inv hf
    rw [Bool.and_eq_true, Bool.and_eq_true] at hlow
    intro H locs rl cells slots hW hS hl hn hc hz
    have hlw := am_low_map (b0 := b0) (base := base) hlow.1.1
    have g1 := Nat.le_of_ble_eq_true hlow.1.2
    have g2 := Nat.le_of_ble_eq_true hlow.2
    exact W.objInit hx hb hown (hts _ (am_met_ok3 hq)) (hts _ am_obj_i) (hts _ am_obj_c) rfl (by rw [hml, ← hnl]; exact hl.size.trans hn) rfl hdg (Nat.le_trans g1 hfr) (by show 2 * 0 + _ + 12 ≤ _; omega) (kk H locs rl cells slots hW hS hl hn hc hz)
  · cases hdo
theorem am_okp (Cx : am_Cx p s m args meth c D dA b0 base X k) {n0 z0 nl pc len : Nat} {ls st : List Value} {h : am_H} {σ' : am_P} {i : Instr} (hdg : decode (am_bytes k) pc = .ok (i, len)) (hlen : am_len i = 0 ∨ len = am_len i) (hdo : am_dp X k i pc st h = some σ') (hR1 : σ'.2.2.length ≤ R.cells + n0) (hR2 : am_sz σ'.2.2 ≤ R.slots + z0) (hfr : am_fr k ≤ R.frames) (hlo : am_lc k ≤ R.locals) (hnl : nl = am_mxl k) (kk : am_Go p l e R s m args below meth c Q D dA b0 base n0 z0 nl (σ'.1, ls, σ'.2.1, σ'.2.2)) : am_Go p l e R s m args below meth c Q D dA b0 base n0 z0 nl (pc, ls, st, h) := by
  cases i <;> first
    | exact nomatch (show (none : Option am_P) = some _ from hdo)
    | exact am_k_aconst_null Cx hdg hlen hdo hR1 hR2 hfr hlo hnl kk
    | exact am_k_iconst Cx hdg hlen hdo hR1 hR2 hfr hlo hnl kk
    | exact am_k_bipush Cx hdg hlen hdo hR1 hR2 hfr hlo hnl kk
    | exact am_k_sipush Cx hdg hlen hdo hR1 hR2 hfr hlo hnl kk
    | exact am_k_lconst Cx hdg hlen hdo hR1 hR2 hfr hlo hnl kk
    | exact am_k_ldc Cx hdg hlen hdo hR1 hR2 hfr hlo hnl kk
    | exact am_k_ldc2_w Cx hdg hlen hdo hR1 hR2 hfr hlo hnl kk
    | exact am_k_dup Cx hdg hlen hdo hR1 hR2 hfr hlo hnl kk
    | exact am_k_dup_x1 Cx hdg hlen hdo hR1 hR2 hfr hlo hnl kk
    | exact am_k_dup_x2 Cx hdg hlen hdo hR1 hR2 hfr hlo hnl kk
    | exact am_k_dup2 Cx hdg hlen hdo hR1 hR2 hfr hlo hnl kk
    | exact am_k_dup2_x1 Cx hdg hlen hdo hR1 hR2 hfr hlo hnl kk
    | exact am_k_dup2_x2 Cx hdg hlen hdo hR1 hR2 hfr hlo hnl kk
    | exact am_k_pop Cx hdg hlen hdo hR1 hR2 hfr hlo hnl kk
    | exact am_k_pop2 Cx hdg hlen hdo hR1 hR2 hfr hlo hnl kk
    | exact am_k_iadd Cx hdg hlen hdo hR1 hR2 hfr hlo hnl kk
    | exact am_k_isub Cx hdg hlen hdo hR1 hR2 hfr hlo hnl kk
    | exact am_k_imul Cx hdg hlen hdo hR1 hR2 hfr hlo hnl kk
    | exact am_k_iand Cx hdg hlen hdo hR1 hR2 hfr hlo hnl kk
    | exact am_k_ior Cx hdg hlen hdo hR1 hR2 hfr hlo hnl kk
    | exact am_k_ixor Cx hdg hlen hdo hR1 hR2 hfr hlo hnl kk
    | exact am_k_ishl Cx hdg hlen hdo hR1 hR2 hfr hlo hnl kk
    | exact am_k_ishr Cx hdg hlen hdo hR1 hR2 hfr hlo hnl kk
    | exact am_k_iushr Cx hdg hlen hdo hR1 hR2 hfr hlo hnl kk
    | exact am_k_ladd Cx hdg hlen hdo hR1 hR2 hfr hlo hnl kk
    | exact am_k_lsub Cx hdg hlen hdo hR1 hR2 hfr hlo hnl kk
    | exact am_k_lmul Cx hdg hlen hdo hR1 hR2 hfr hlo hnl kk
    | exact am_k_land Cx hdg hlen hdo hR1 hR2 hfr hlo hnl kk
    | exact am_k_lor Cx hdg hlen hdo hR1 hR2 hfr hlo hnl kk
    | exact am_k_lxor Cx hdg hlen hdo hR1 hR2 hfr hlo hnl kk
    | exact am_k_lcmp Cx hdg hlen hdo hR1 hR2 hfr hlo hnl kk
    | exact am_k_idiv Cx hdg hlen hdo hR1 hR2 hfr hlo hnl kk
    | exact am_k_irem Cx hdg hlen hdo hR1 hR2 hfr hlo hnl kk
    | exact am_k_ldiv Cx hdg hlen hdo hR1 hR2 hfr hlo hnl kk
    | exact am_k_lrem Cx hdg hlen hdo hR1 hR2 hfr hlo hnl kk
    | exact am_k_ineg Cx hdg hlen hdo hR1 hR2 hfr hlo hnl kk
    | exact am_k_lneg Cx hdg hlen hdo hR1 hR2 hfr hlo hnl kk
    | exact am_k_i2l Cx hdg hlen hdo hR1 hR2 hfr hlo hnl kk
    | exact am_k_l2i Cx hdg hlen hdo hR1 hR2 hfr hlo hnl kk
    | exact am_k_i2b Cx hdg hlen hdo hR1 hR2 hfr hlo hnl kk
    | exact am_k_i2s Cx hdg hlen hdo hR1 hR2 hfr hlo hnl kk
    | exact am_k_i2c Cx hdg hlen hdo hR1 hR2 hfr hlo hnl kk
    | exact am_k_lshl Cx hdg hlen hdo hR1 hR2 hfr hlo hnl kk
    | exact am_k_lshr Cx hdg hlen hdo hR1 hR2 hfr hlo hnl kk
    | exact am_k_lushr Cx hdg hlen hdo hR1 hR2 hfr hlo hnl kk
    | exact am_k_ifCond Cx hdg hlen hdo hR1 hR2 hfr hlo hnl kk
    | exact am_k_if_icmp Cx hdg hlen hdo hR1 hR2 hfr hlo hnl kk
    | exact am_k_if_acmp Cx hdg hlen hdo hR1 hR2 hfr hlo hnl kk
    | exact am_k_goto Cx hdg hlen hdo hR1 hR2 hfr hlo hnl kk
    | exact am_k_tableswitch Cx hdg hlen hdo hR1 hR2 hfr hlo hnl kk
    | exact am_k_lookupswitch Cx hdg hlen hdo hR1 hR2 hfr hlo hnl kk
    | exact am_k_iaload Cx hdg hlen hdo hR1 hR2 hfr hlo hnl kk
    | exact am_k_laload Cx hdg hlen hdo hR1 hR2 hfr hlo hnl kk
    | exact am_k_iastore Cx hdg hlen hdo hR1 hR2 hfr hlo hnl kk
    | exact am_k_lastore Cx hdg hlen hdo hR1 hR2 hfr hlo hnl kk
    | exact am_k_baload Cx hdg hlen hdo hR1 hR2 hfr hlo hnl kk
    | exact am_k_bastore Cx hdg hlen hdo hR1 hR2 hfr hlo hnl kk
    | exact am_k_arraylength Cx hdg hlen hdo hR1 hR2 hfr hlo hnl kk
    | exact am_k_newarray Cx hdg hlen hdo hR1 hR2 hfr hlo hnl kk
    | exact am_k_new Cx hdg hlen hdo hR1 hR2 hfr hlo hnl kk
    | exact am_k_getfield Cx hdg hlen hdo hR1 hR2 hfr hlo hnl kk
    | exact am_k_putfield Cx hdg hlen hdo hR1 hR2 hfr hlo hnl kk
    | exact am_k_invokestatic Cx hdg hlen hdo hR1 hR2 hfr hlo hnl kk
    | exact am_k_invokespecial Cx hdg hlen hdo hR1 hR2 hfr hlo hnl kk
theorem am_okl (Cx : am_Cx p s m args meth c D dA b0 base X k) {n0 z0 nl pc len : Nat} {ls st : List Value} {h : am_H} {σ' : am_S} {i : Instr} (hdg : decode (am_bytes k) pc = .ok (i, len)) (hlen : am_len i = 0 ∨ len = am_len i) (hdo : am_dl i pc ls st h = some σ') (hR1 : σ'.2.2.2.length ≤ R.cells + n0) (hR2 : am_sz σ'.2.2.2 ≤ R.slots + z0) (hfr : am_fr k ≤ R.frames) (hlo : am_lc k ≤ R.locals) (hnl : nl = am_mxl k) (kk : am_Go p l e R s m args below meth c Q D dA b0 base n0 z0 nl σ') : am_Go p l e R s m args below meth c Q D dA b0 base n0 z0 nl (pc, ls, st, h) := by
  cases i <;> first
    | exact nomatch (show (none : Option am_S) = some _ from hdo)
    | exact am_k_iload Cx hdg hlen hdo hR1 hR2 hfr hlo hnl kk
    | exact am_k_iload_n Cx hdg hlen hdo hR1 hR2 hfr hlo hnl kk
    | exact am_k_lload Cx hdg hlen hdo hR1 hR2 hfr hlo hnl kk
    | exact am_k_lload_n Cx hdg hlen hdo hR1 hR2 hfr hlo hnl kk
    | exact am_k_aload Cx hdg hlen hdo hR1 hR2 hfr hlo hnl kk
    | exact am_k_aload_n Cx hdg hlen hdo hR1 hR2 hfr hlo hnl kk
    | exact am_k_istore Cx hdg hlen hdo hR1 hR2 hfr hlo hnl kk
    | exact am_k_istore_n Cx hdg hlen hdo hR1 hR2 hfr hlo hnl kk
    | exact am_k_lstore Cx hdg hlen hdo hR1 hR2 hfr hlo hnl kk
    | exact am_k_lstore_n Cx hdg hlen hdo hR1 hR2 hfr hlo hnl kk
    | exact am_k_astore Cx hdg hlen hdo hR1 hR2 hfr hlo hnl kk
    | exact am_k_astore_n Cx hdg hlen hdo hR1 hR2 hfr hlo hnl kk
    | exact am_k_iinc Cx hdg hlen hdo hR1 hR2 hfr hlo hnl kk
theorem am_do_inv {X : Nat × (Nat → Int32)} {k pc : Nat} {i : Instr} {ls st : List Value} {h : am_H} {σ' : am_S} (hdo : am_do X k i pc ls st h = some σ') : (∃ σ1 : am_P, am_dp X k i pc st h = some σ1 ∧ σ' = (σ1.1, ls, σ1.2.1, σ1.2.2)) ∨ am_dl i pc ls st h = some σ' := by
  unfold am_do at hdo
  split at hdo
  · rename_i hq
    cases hdo
    exact Or.inl ⟨_, hq, rfl⟩
  · exact Or.inr hdo
theorem am_ok (Cx : am_Cx p s m args meth c D dA b0 base X k) {n0 z0 nl pc len : Nat} {ls st : List Value} {h : am_H} {σ' : am_S} {i : Instr} (hdg : decode (am_bytes k) pc = .ok (i, len)) (hlen : am_len i = 0 ∨ len = am_len i) (hdo : am_do X k i pc ls st h = some σ') (hR1 : σ'.2.2.2.length ≤ R.cells + n0) (hR2 : am_sz σ'.2.2.2 ≤ R.slots + z0) (hfr : am_fr k ≤ R.frames) (hlo : am_lc k ≤ R.locals) (hnl : nl = am_mxl k) (kk : am_Go p l e R s m args below meth c Q D dA b0 base n0 z0 nl σ') : am_Go p l e R s m args below meth c Q D dA b0 base n0 z0 nl (pc, ls, st, h) := by
  rcases am_do_inv hdo with ⟨σ1, hp, rfl⟩ | hl
  · exact am_okp Cx hdg hlen hp hR1 hR2 hfr hlo hnl kk
  · exact am_okl Cx hdg hlen hl hR1 hR2 hfr hlo hnl kk
end AMT3
/-! HEAPS ONLY GROW -/
def am_le (h h' : am_H) : Prop := h.length ≤ h'.length ∧ am_sz h ≤ am_sz h'
theorem am_le.rf (h : am_H) : am_le h h := ⟨Nat.le_refl _, Nat.le_refl _⟩
theorem am_le.tr {a b c : am_H} (h : am_le a b) (g : am_le b c) : am_le a c := ⟨Nat.le_trans h.1 g.1, Nat.le_trans h.2 g.2⟩
theorem am_le_nx {pc : Nat} {st : List Value} {h : am_H} {σ' : am_P} (hf : am_nx pc st h = some σ') : am_le h σ'.2.2 := by
  obtain rfl := am_nx_inv hf
  exact am_le.rf h
theorem am_le_nl {pc : Nat} {ls st : List Value} {h : am_H} {σ' : am_S} (hf : am_nl pc ls st h = some σ') : am_le h σ'.2.2.2 := by
  obtain rfl := am_nl_inv hf
  exact am_le.rf h
theorem am_le_app (h : am_H) (x : va_E) : am_le h (h ++ [x]) := ⟨by simp, by rw [am_sz_app]; omega⟩
theorem am_le_set {h : am_H} {a : Nat} {x y : va_E} (hc : h[a]? = some x) (he : am_cs y = am_cs x) : am_le h (h.set a y) := ⟨by simp, by rw [am_sz_set hc he]; exact Nat.le_refl _⟩
theorem am_go_le {pc : Nat} {off : Int} {st : List Value} {h : am_H} {σ' : am_P} (hf : am_go pc off st h = some σ') : am_le h σ'.2.2 := by
  obtain ⟨t, -, rfl⟩ := am_go_inv hf
  exact am_le.rf h
theorem am_br_le {b : Bool} {pc : Nat} {off : Int} {st : List Value} {h : am_H} {σ' : am_P} (hf : am_br b pc off st h = some σ') : am_le h σ'.2.2 := by
  obtain ⟨t, -, ⟨-, rfl⟩ | ⟨-, rfl⟩⟩ := am_br_inv hf
  · exact am_le.rf h
  · exact am_le.rf h
theorem am_dp_le {X : Nat × (Nat → Int32)} {k pc : Nat} {i : Instr} {st : List Value} {h : am_H} {σ' : am_P} (hdo : am_dp X k i pc st h = some σ') : am_le h σ'.2.2 := by
  cases i <;> try (exact nomatch (show (none : Option am_P) = some _ from hdo))
  case aconst_null =>
    simp only [am_dp] at hdo
    exact am_le_nx hdo
  case iconst n =>
    simp only [am_dp] at hdo
    exact am_le_nx hdo
  case bipush n =>
    simp only [am_dp] at hdo
    exact am_le_nx hdo
  case sipush n =>
    simp only [am_dp] at hdo
    exact am_le_nx hdo
  case lconst n =>
    simp only [am_dp] at hdo
    exact am_le_nx hdo
  case ldc j =>
    simp only [am_dp] at hdo
    split at hdo
    · exact am_le_nx hdo
    · cases hdo
  case ldc2_w j =>
    simp only [am_dp] at hdo
    split at hdo
    · exact am_le_nx hdo
    · cases hdo
  case iadd =>
    simp only [am_dp] at hdo
    obtain ⟨_, _, _, _, hf⟩ := am_i2_inv hdo
    exact am_le_nx hf
  case isub =>
    simp only [am_dp] at hdo
    obtain ⟨_, _, _, _, hf⟩ := am_i2_inv hdo
    exact am_le_nx hf
  case imul =>
    simp only [am_dp] at hdo
    obtain ⟨_, _, _, _, hf⟩ := am_i2_inv hdo
    exact am_le_nx hf
  case iand =>
    simp only [am_dp] at hdo
    obtain ⟨_, _, _, _, hf⟩ := am_i2_inv hdo
    exact am_le_nx hf
  case ior =>
    simp only [am_dp] at hdo
    obtain ⟨_, _, _, _, hf⟩ := am_i2_inv hdo
    exact am_le_nx hf
  case ixor =>
    simp only [am_dp] at hdo
    obtain ⟨_, _, _, _, hf⟩ := am_i2_inv hdo
    exact am_le_nx hf
  case ishl =>
    simp only [am_dp] at hdo
    obtain ⟨_, _, _, _, hf⟩ := am_i2_inv hdo
    exact am_le_nx hf
  case ishr =>
    simp only [am_dp] at hdo
    obtain ⟨_, _, _, _, hf⟩ := am_i2_inv hdo
    exact am_le_nx hf
  case iushr =>
    simp only [am_dp] at hdo
    obtain ⟨_, _, _, _, hf⟩ := am_i2_inv hdo
    exact am_le_nx hf
  case ladd =>
    simp only [am_dp] at hdo
    obtain ⟨_, _, _, _, hf⟩ := am_l2_inv hdo
    exact am_le_nx hf
  case lsub =>
    simp only [am_dp] at hdo
    obtain ⟨_, _, _, _, hf⟩ := am_l2_inv hdo
    exact am_le_nx hf
  case lmul =>
    simp only [am_dp] at hdo
    obtain ⟨_, _, _, _, hf⟩ := am_l2_inv hdo
    exact am_le_nx hf
  case land =>
    simp only [am_dp] at hdo
    obtain ⟨_, _, _, _, hf⟩ := am_l2_inv hdo
    exact am_le_nx hf
  case lor =>
    simp only [am_dp] at hdo
    obtain ⟨_, _, _, _, hf⟩ := am_l2_inv hdo
    exact am_le_nx hf
  case lxor =>
    simp only [am_dp] at hdo
    obtain ⟨_, _, _, _, hf⟩ := am_l2_inv hdo
    exact am_le_nx hf
  case lcmp =>
    simp only [am_dp] at hdo
    obtain ⟨_, _, _, _, hf⟩ := am_l2_inv hdo
    exact am_le_nx hf
  case lshl =>
    simp only [am_dp] at hdo
    obtain ⟨_, _, _, _, hf⟩ := am_s2_inv hdo
    exact am_le_nx hf
  case lshr =>
    simp only [am_dp] at hdo
    obtain ⟨_, _, _, _, hf⟩ := am_s2_inv hdo
    exact am_le_nx hf
  case lushr =>
    simp only [am_dp] at hdo
    obtain ⟨_, _, _, _, hf⟩ := am_s2_inv hdo
    exact am_le_nx hf
  case idiv =>
    simp only [am_dp] at hdo
    obtain ⟨_, _, _, _, hf⟩ := am_i2_inv hdo
    split at hf
    · cases hf
    · exact am_le_nx hf
  case irem =>
    simp only [am_dp] at hdo
    obtain ⟨_, _, _, _, hf⟩ := am_i2_inv hdo
    split at hf
    · cases hf
    · exact am_le_nx hf
  case ldiv =>
    simp only [am_dp] at hdo
    obtain ⟨_, _, _, _, hf⟩ := am_l2_inv hdo
    split at hf
    · cases hf
    · exact am_le_nx hf
  case lrem =>
    simp only [am_dp] at hdo
    obtain ⟨_, _, _, _, hf⟩ := am_l2_inv hdo
    split at hf
    · cases hf
    · exact am_le_nx hf
  case ineg =>
    simp only [am_dp] at hdo
    obtain ⟨_, _, _, hf⟩ := am_i1_inv hdo
    exact am_le_nx hf
  case i2l =>
    simp only [am_dp] at hdo
    obtain ⟨_, _, _, hf⟩ := am_i1_inv hdo
    exact am_le_nx hf
  case i2b =>
    simp only [am_dp] at hdo
    obtain ⟨_, _, _, hf⟩ := am_i1_inv hdo
    exact am_le_nx hf
  case i2s =>
    simp only [am_dp] at hdo
    obtain ⟨_, _, _, hf⟩ := am_i1_inv hdo
    exact am_le_nx hf
  case i2c =>
    simp only [am_dp] at hdo
    obtain ⟨_, _, _, hf⟩ := am_i1_inv hdo
    exact am_le_nx hf
  case lneg =>
    simp only [am_dp] at hdo
    obtain ⟨_, _, _, hf⟩ := am_l1_inv hdo
    exact am_le_nx hf
  case l2i =>
    simp only [am_dp] at hdo
    obtain ⟨_, _, _, hf⟩ := am_l1_inv hdo
    exact am_le_nx hf
  case dup =>
    simp only [am_dp] at hdo
    split at hdo
    · split at hdo
      · exact am_le_nx hdo
      · cases hdo
    · cases hdo
  case dup_x1 =>
    simp only [am_dp] at hdo
    split at hdo
    · split at hdo
      · exact am_le_nx hdo
      · cases hdo
    · cases hdo
  case dup_x2 =>
    simp only [am_dp] at hdo
    split at hdo
    · split at hdo
      · exact am_le_nx hdo
      · cases hdo
    · cases hdo
  case dup2_x1 =>
    simp only [am_dp] at hdo
    split at hdo
    · split at hdo
      · exact am_le_nx hdo
      · cases hdo
    · cases hdo
  case dup2_x2 =>
    simp only [am_dp] at hdo
    split at hdo
    · split at hdo
      · exact am_le_nx hdo
      · cases hdo
    · cases hdo
  case pop =>
    simp only [am_dp] at hdo
    split at hdo
    · split at hdo
      · exact am_le_nx hdo
      · cases hdo
    · cases hdo
  case dup2 =>
    simp only [am_dp] at hdo
    split at hdo
    · exact am_le_nx hdo
    · split at hdo
      · exact am_le_nx hdo
      · cases hdo
    · cases hdo
  case pop2 =>
    simp only [am_dp] at hdo
    split at hdo
    · exact am_le_nx hdo
    · cases hdo
  case ifCond cn off =>
    simp only [am_dp] at hdo
    obtain ⟨_, _, _, hf⟩ := am_i1_inv hdo
    split at hf <;> exact am_br_le hf
  case if_icmp cn off =>
    simp only [am_dp] at hdo
    obtain ⟨_, _, _, _, hf⟩ := am_i2_inv hdo
    split at hf <;> exact am_br_le hf
  case if_acmp cn off =>
    simp only [am_dp] at hdo
    obtain ⟨_, _, _, _, hf⟩ := am_r2_inv hdo
    split at hf <;> exact am_br_le hf
  case goto off =>
    simp only [am_dp] at hdo
    exact am_go_le hdo
  case tableswitch d lo hi offs =>
    simp only [am_dp] at hdo
    obtain ⟨_, _, _, hf⟩ := am_i1_inv hdo
    split at hf
    · exact am_go_le hf
    · split at hf
      · exact am_go_le hf
      · cases hf
  case lookupswitch d ps =>
    simp only [am_dp] at hdo
    obtain ⟨_, _, _, hf⟩ := am_i1_inv hdo
    split at hf
    · exact am_go_le hf
    · cases hf
  case iaload =>
    simp only [am_dp] at hdo
    rcases am_iald_inv hdo with ⟨_, _, _, _, _, _, _, _, hf⟩ | ⟨_, _, _, _, hf⟩
    · exact am_le_nx hf
    · exact am_le_nx hf
  case laload =>
    simp only [am_dp] at hdo
    obtain ⟨_, _, _, _, _, _, _, _, hf⟩ := am_lald_inv hdo
    exact am_le_nx hf
  case baload =>
    simp only [am_dp] at hdo
    obtain ⟨_, _, _, _, _, _, _, _, hf⟩ := am_zald_inv hdo
    exact am_le_nx hf
  case iastore =>
    simp only [am_dp] at hdo
    obtain ⟨x, i, a, r, n, f, _, hc0, _, hf⟩ := am_iast_inv hdo
    exact (am_le_set (y := .inl (0, n, .inl (upd f i.toNatClampNeg x))) hc0 rfl).tr (am_le_nx hf)
  case lastore =>
    simp only [am_dp] at hdo
    obtain ⟨x, i, a, r, n, f, _, hc0, _, hf⟩ := am_last_inv hdo
    exact (am_le_set (y := .inl (1, n, .inr (.inl (vp_updL f i.toNatClampNeg x)))) hc0 rfl).tr (am_le_nx hf)
  case bastore =>
    simp only [am_dp] at hdo
    obtain ⟨x, i, a, r, n, f, _, hc0, _, _, hf⟩ := am_zast_inv hdo
    exact (am_le_set (y := .inl (2, n, .inl (upd f i.toNatClampNeg x))) hc0 rfl).tr (am_le_nx hf)
  case arraylength =>
    simp only [am_dp] at hdo
    rcases am_alen_inv hdo with ⟨_, _, _, _, _, _, hf⟩ | ⟨_, _, hf⟩
    · exact am_le_nx hf
    · exact am_le_nx hf
  case newarray t =>
    simp only [am_dp] at hdo
    obtain ⟨_, _, _, _, _, hf⟩ := am_newa_inv hdo
    rcases hf with ⟨_, hf⟩ | ⟨_, hf⟩ | ⟨_, hf⟩
    · exact (am_le_app _ _).tr (am_le_nx hf)
    · exact (am_le_app _ _).tr (am_le_nx hf)
    · exact (am_le_app _ _).tr (am_le_nx hf)
  case new j =>
    simp only [am_dp] at hdo
    split at hdo
    · exact (am_le_app _ _).tr (am_le_nx hdo)
    · cases hdo
  case getfield j =>
    simp only [am_dp] at hdo
    obtain ⟨_, _, _, _, _, _, _, _, _, _, hf⟩ := am_getf_inv hdo
    exact am_le_nx hf
  case putfield j =>
    simp only [am_dp] at hdo
    obtain ⟨ci, f, v, a, r, fs, _, _, hc0, _, _, _, _, hf⟩ := am_putf_inv hdo
    exact (am_le_set (y := .inr (ci, fs.set f v)) hc0 (by simp [am_cs])).tr (am_le_nx hf)
  case invokestatic j =>
    simp only [am_dp] at hdo
    split at hdo
    · rcases am_math_inv hdo with ⟨_, _, _, _, _, hf⟩ | ⟨_, _, _, _, _, hf⟩ | ⟨_, _, _, _, hf⟩
      · exact am_le_nx (am_if_inv hf).2
      · exact am_le_nx (am_if_inv hf).2
      · exact am_le_nx (am_if_inv hf).2
    · cases hdo
  case invokespecial j =>
    simp only [am_dp] at hdo
    split at hdo
    · obtain ⟨_, _, _, hf⟩ := am_r1_inv hdo
      exact am_le_nx (am_if_inv hf).2
    · cases hdo
theorem am_dl_le {pc : Nat} {i : Instr} {ls st : List Value} {h : am_H} {σ' : am_S} (hdo : am_dl i pc ls st h = some σ') : am_le h σ'.2.2.2 := by
  cases i <;> first
    | exact nomatch (show (none : Option am_S) = some _ from hdo)
    | (simp only [am_dl] at hdo; obtain ⟨_, _, hf⟩ := am_gi_inv hdo; exact am_le_nl hf)
    | (simp only [am_dl] at hdo; obtain ⟨_, _, hf⟩ := am_gl_inv hdo; exact am_le_nl hf)
    | (simp only [am_dl] at hdo; obtain ⟨_, _, _, hf⟩ := am_ga_inv hdo; exact am_le_nl hf)
    | (simp only [am_dl] at hdo; obtain ⟨_, _, _, hf⟩ := am_i1_inv hdo; split at hf <;> first | exact am_le_nl hf | (cases hf; done))
    | (simp only [am_dl] at hdo; obtain ⟨_, _, _, hf⟩ := am_l1_inv hdo; split at hf <;> first | exact am_le_nl hf | (cases hf; done))
    | (simp only [am_dl] at hdo; obtain ⟨_, _, _, hf⟩ := am_r1_inv hdo; split at hf <;> first | exact am_le_nl hf | (cases hf; done))
theorem am_do_le {X : Nat × (Nat → Int32)} {k pc : Nat} {i : Instr} {ls st : List Value} {h : am_H} {σ' : am_S} (hdo : am_do X k i pc ls st h = some σ') : am_le h σ'.2.2.2 := by
  rcases am_do_inv hdo with ⟨σ1, hp, rfl⟩ | hl
  · exact am_dp_le hp
  · exact am_dl_le hl
theorem am_rt_h {k : Nat} {i : Instr} {st : List Value} {h : am_H} {ρ : Option Value × am_H} (hq : am_rt k i st h = some ρ) : ρ.2 = h := by
  cases i <;> first
    | exact nomatch (show (none : Option (Option Value × am_H)) = some _ from hq)
    | (simp only [am_rt] at hq; repeat' split at hq) <;> first | (cases hq; rfl) | (cases hq; done)
theorem am_run_le {X : Nat × (Nat → Int32)} {C : Nat → List Value → am_H → Option Value × am_H → Prop} {k : Nat} (hC : ∀ k' as h r h', C k' as h (r, h') → am_le h h') : ∀ (n : Nat) (σ : am_S) (ρ : Option Value × am_H), am_run X C k n σ ρ → am_le σ.2.2.2 ρ.2
  | 0, _, _, h => h.elim
  | n + 1, σ, ρ, h => by
    obtain ⟨i, -, ⟨σ', h1, h2⟩ | h1 | ⟨k', as, pc, ls, st, h0, r, h', h1, h2, h3⟩⟩ := h
    · exact (am_do_le h1).tr (am_run_le hC n σ' ρ h2)
    · rw [am_rt_h h1]
      exact am_le.rf _
    · have e0 : h0 = σ.2.2.2 := (am_cl_eq h1).2.2
      have h4 := am_run_le hC n _ ρ h3
      rw [← e0]
      exact (hC _ _ _ _ _ h2).tr h4
theorem am_call_le {X : Nat × (Nat → Int32)} : ∀ (d k : Nat) (as : List Value) (h : am_H) (r : Option Value) (h' : am_H), am_call X d k as h (r, h') → am_le h h'
  | 0, _, _, _, _, _, h => h.elim
  | d + 1, k, as, h, r, h', hc => by
    obtain ⟨-, n, hn⟩ := hc
    exact am_run_le (fun k' as h r h' => am_call_le d k' as h r h') n _ _ hn
section AMM
variable {p : Program} {l : Launch} {e : Env} {R : Room} {s : State} {m : MethodId} {args : Array Value} {below : List Frame} {meth : Method} {c : Code} {Q : State → Prop}
variable {D : va_G} {dA : Nat → ClassId} {b0 base : Nat} {X : Nat × (Nat → Int32)} {k : Nat}
/-- A RUN of the plain machine is one of the claim's: to the return, of which the hypothesis speaks -/
theorem am_run_ok (Cx : am_Cx p s m args meth c D dA b0 base X k) {n0 z0 d : Nat} {ρ : Option Value × am_H} (hM : ∀ k' as h r h', am_mok k' → am_call X d k' as h (r, h') → am_Met l D dA b0 base X k' as h r h') (hR1 : ρ.2.length ≤ R.cells + n0) (hR2 : am_sz ρ.2 ≤ R.slots + z0) (hfr : am_fr k ≤ R.frames) (hlo : am_lc k ≤ R.locals)
    (hret : ∀ (pc : Nat) (ls st : List Value) (h : am_H) (i : Instr) (len : Nat), decode (am_bytes k) pc = .ok (i, len) → (am_len i = 0 ∨ len = am_len i) → am_rt k i st h = some ρ → am_Go p l e R s m args below meth c Q D dA b0 base n0 z0 (am_mxl k) (pc, ls, st, h)) :
    ∀ (n : Nat) (σ : am_S), am_run X (am_call X d) k n σ ρ → am_Go p l e R s m args below meth c Q D dA b0 base n0 z0 (am_mxl k) σ
  | 0, _, h => h.elim
  | n + 1, (pc, ls, st, h), hr => by
    obtain ⟨i, hi, ⟨σ', h1, h2⟩ | h1 | ⟨k', as, pc', ls', st', h0, r, h', h1, h2, h3⟩⟩ := hr
    · obtain ⟨len, hdg, hlen⟩ := am_code_ok hi
      have hle := am_run_le (am_call_le d) n σ' ρ h2
      exact am_ok Cx hdg hlen h1 (Nat.le_trans hle.1 hR1) (Nat.le_trans hle.2 hR2) hfr hlo rfl (am_run_ok Cx hM hR1 hR2 hfr hlo hret n σ' h2)
    · obtain ⟨len, hdg, hlen⟩ := am_code_ok hi
      exact hret pc ls st h i len hdg hlen h1
    · obtain ⟨len, hdg, hlen⟩ := am_code_ok hi
      obtain ⟨e1, e2, e3⟩ := am_cl_eq h1
      subst e1 e2 e3
      have hle := am_run_le (am_call_le d) n _ ρ h3
      have hcl := am_call_le d k' as _ r h' h2
      exact am_k_call Cx hdg hlen h1 (fun hk => hM _ _ _ _ _ hk h2) hcl.1 hcl.2 (Nat.le_trans hle.1 hR1) (Nat.le_trans hle.2 hR2) hfr hlo rfl (am_run_ok Cx hM hR1 hR2 hfr hlo hret n _ h3)
end AMM
/-- A METHOD: what the plain machine comes to, the claim's comes to -/
theorem am_sound (l : Launch) (D : va_G) (dA : Nat → ClassId) (b0 base : Nat) (X : Nat × (Nat → Int32)) : ∀ (d k : Nat) (as : List Value) (h : am_H) (r : Option Value) (h' : am_H), am_mok k → am_call X d k as h (r, h') → am_Met l D dA b0 base X k as h r h'
  | 0, _, _, _, _, _, _, hc => hc.elim
  | d + 1, k, as, h, r, h', hk, hc => by
    obtain ⟨hlay, n, hn⟩ := hc
    have hle := am_call_le (X := X) (d + 1) k as h r h' ⟨hlay, n, hn⟩
    obtain ⟨k1, k2, k3, k4, k5, k7, k8⟩ := hk
    refine Met.ofW (cc := am_bytes k) (maxL := am_mxl k) (ret := am_ret k) k5 rfl ?_
    intro p e s m args below meth c s₁ B hml hv
    obtain ⟨rfl, hW, hK, hN, hX, hb0⟩ := hv
    have hts := atoms_spec (ws := am_wsm k) B.pre
    have hown : s.vm.findClass (am_name k).cls = some m.cls := findClass_of_methodNamed B.named
    have Cx : am_Cx p s m (as.map (am_v b0 base)).toArray meth c D dA b0 base X k := ⟨B.exec, B.bytes, hml, by rw [k7]; exact hown, fun w hw => hts w (List.mem_cons_of_mem _ hw), B.returns, B.notSynchronized, fun hi => ((name_of_methodNamed B.named B.method).1).trans (k8 hi), hK, hN, hX, hb0, by rw [hW.1]; omega⟩
    rw [lg_entry_eq]
    have hlen : (am_ent as (am_mxl k)).length = am_mxl k := by simp [am_ent]; omega
    refine am_run_ok Cx (n0 := h.length) (z0 := am_sz h) (d := d) (ρ := (r, h')) (fun k' as h r h' hk' hq => am_sound l D dA b0 base X d k' as h r h' hk' hq) ?_ ?_ ?_ ?_ ?_ n _ hn s.heap [] _ 0 0 hW va_S.rf (am_ent_L hlay) hlen (Nat.zero_add _) (Nat.zero_add _)
    · show h'.length ≤ (h'.length - h.length) + h.length
      omega
    · show am_sz h' ≤ (am_sz h' - am_sz h) + am_sz h
      omega
    · exact Nat.le_refl _
    · exact Nat.le_refl _
    · intro pc ls st h1 i len hdg hlen hrt
      exact am_k_ret Cx hdg hlen hrt
end
section
/-! WALKING THE PLAIN MACHINE, goal first -/
/-- from this state of method k, whose calls have d frames, the plain machine comes to an answer and a heap with Q -/
def am_w (X : Nat × (Nat → Int32)) (d k : Nat) (σ : am_S) (Q : Option Value → am_H → Prop) : Prop := ∃ n r h', am_run X (am_call X d) k n σ (r, h') ∧ Q r h'
/-- method k called -/
def am_c (X : Nat × (Nat → Int32)) (d k : Nat) (as : List Value) (h : am_H) (Q : Option Value → am_H → Prop) : Prop := ∃ r h', am_call X d k as h (r, h') ∧ Q r h'
section AMW
variable {X : Nat × (Nat → Int32)} {d k pc : Nat} {ls st : List Value} {h : am_H} {i : Instr} {Q : Option Value → am_H → Prop}
theorem am_w.go {σ' : am_S} (hi : am_code k pc = some i) (hd : am_do X k i pc ls st h = some σ') (kk : am_w X d k σ' Q) : am_w X d k (pc, ls, st, h) Q := by
  obtain ⟨n, r, h', h1, h2⟩ := kk
  exact ⟨n + 1, r, h', ⟨i, hi, Or.inl ⟨σ', hd, h1⟩⟩, h2⟩
theorem am_w.ret {r : Option Value} {h' : am_H} (hi : am_code k pc = some i) (hr : am_rt k i st h = some (r, h')) (hq : Q r h') : am_w X d k (pc, ls, st, h) Q :=
  ⟨1, r, h', ⟨i, hi, Or.inr (Or.inl hr)⟩, hq⟩
theorem am_w.call {k' pc' : Nat} {as ls' st' : List Value} {h0 : am_H} {Q' : Option Value → am_H → Prop} (hi : am_code k pc = some i) (hc : am_cl k i pc ls st h = some (k', as, (pc', ls', st', h0))) (hC : am_c X d k' as h0 Q') (kk : ∀ r h', Q' r h' → am_w X d k (pc', ls', r.toList ++ st', h') Q) : am_w X d k (pc, ls, st, h) Q := by
  obtain ⟨r, h', h1, h2⟩ := hC
  obtain ⟨n, r2, h2', h3, h4⟩ := kk r h' h2
  exact ⟨n + 1, r2, h2', ⟨i, hi, Or.inr (Or.inr ⟨k', as, pc', ls', st', h0, r, h', hc, h1, h3⟩)⟩, h4⟩
theorem am_c.of {as : List Value} (hl : (am_lay as).length ≤ am_mxl k) (hw : am_w X d k (0, am_ent as (am_mxl k), [], h) Q) : am_c X (d + 1) k as h Q := by
  obtain ⟨n, r, h', h1, h2⟩ := hw
  exact ⟨r, h', ⟨hl, n, h1⟩, h2⟩
theorem am_w.mono {σ : am_S} {Q' : Option Value → am_H → Prop} (h : am_w X d k σ Q') (hq : ∀ r h', Q' r h' → Q r h') : am_w X d k σ Q := by
  obtain ⟨n, r, h', h1, h2⟩ := h
  exact ⟨n, r, h', h1, hq r h' h2⟩
theorem am_c.mono {as : List Value} {Q' : Option Value → am_H → Prop} (hc : am_c X d k as h Q') (hq : ∀ r h', Q' r h' → Q r h') : am_c X d k as h Q := by
  obtain ⟨r, h', h1, h2⟩ := hc
  exact ⟨r, h', h1, hq r h' h2⟩
end AMW
/-! a state may know less of its locals -/
def am_lq : List Value → List Value → Prop
  | [], [] => True
  | a :: l, b :: l' => (b = am_U ∨ a = b) ∧ am_lq l l'
  | _, _ => False
theorem am_lq.rf : ∀ l : List Value, am_lq l l
  | [] => trivial
  | _ :: l => ⟨Or.inr rfl, am_lq.rf l⟩
theorem am_lq.len : ∀ {l l' : List Value}, am_lq l l' → l.length = l'.length
  | [], [], _ => rfl
  | _ :: _, _ :: _, h => by simp [am_lq.len h.2]
theorem am_lq.get : ∀ {l l' : List Value} {i : Nat} {v : Value}, am_lq l l' → l'[i]? = some v → v ≠ am_U → l[i]? = some v
  | [], [], _, _, _, h, _ => by simp at h
  | a :: l, b :: l', 0, v, hq, h, hv => by
    have e : b = v := Option.some.inj h
    rcases hq.1 with e1 | e1
    · exact absurd (e.symm.trans e1) hv
    · rw [e1]; exact h
  | a :: l, b :: l', i + 1, v, hq, h, hv => am_lq.get (l := l) (l' := l') (i := i) hq.2 h hv
theorem am_lq.set : ∀ {l l' : List Value} (i : Nat) (v : Value), am_lq l l' → am_lq (l.set i v) (l'.set i v)
  | [], [], _, _, _ => trivial
  | a :: l, b :: l', 0, v, hq => ⟨Or.inr rfl, hq.2⟩
  | a :: l, b :: l', i + 1, v, hq => ⟨hq.1, am_lq.set i v hq.2⟩
theorem am_lq.setl : ∀ {l l' : List Value} (i : Nat) (v : Value), am_lq l l' → l'[i]? = some am_U → am_lq (l.set i v) l'
  | [], [], _, _, _, _ => trivial
  | a :: l, b :: l', 0, v, hq, h => ⟨Or.inl (Option.some.inj h), hq.2⟩
  | a :: l, b :: l', i + 1, v, hq, h => ⟨hq.1, am_lq.setl i v hq.2 h⟩
theorem am_lq.cut {l l' : List Value} (x : Nat) (hq : am_lq l l') : am_lq (am_cut l x) (am_cut l' x) := by
  cases x with
  | zero => exact hq
  | succ y =>
    cases hy : l'[y]? with
    | none =>
      have hy2 : l[y]? = none := by
        rw [List.getElem?_eq_none_iff] at hy ⊢
        rw [hq.len]; exact hy
      simp only [am_cut, hy, hy2]
      exact hq
    | some w =>
      by_cases hw : w = am_U
      · subst hw
        have e : am_cut l' (y + 1) = l' := by simp only [am_cut, hy]
        rw [e]
        unfold am_cut
        dsimp only
        split
        · exact hq.setl y _ hy
        · exact hq.setl y _ hy
        · exact hq
      · have hy2 := hq.get hy hw
        unfold am_cut
        dsimp only
        rw [hy, hy2]
        cases w <;> first | exact hq.set y _ | exact hq
theorem am_lq.p1 {l l' : List Value} (x : Nat) (v : Value) (hq : am_lq l l') : am_lq (am_p1 l x v) (am_p1 l' x v) := (hq.cut x).set x v
theorem am_lq.p2 {l l' : List Value} (x : Nat) (v : Value) (hq : am_lq l l') : am_lq (am_p2 l x v) (am_p2 l' x v) := ((hq.cut x).set x v).set (x + 1) _
theorem am_dl_wk {pc : Nat} {i : Instr} {ls ls' st : List Value} {h : am_H} {σ' : am_S} (hq : am_lq ls ls') (hdo : am_dl i pc ls' st h = some σ') : ∃ l1, am_dl i pc ls st h = some (σ'.1, l1, σ'.2.2.1, σ'.2.2.2) ∧ am_lq l1 σ'.2.1 := by
  cases i <;> try (exact nomatch (show (none : Option am_S) = some _ from hdo))
  case iload x =>
    simp only [am_dl] at hdo ⊢
    obtain ⟨v, hv, hf⟩ := am_gi_inv hdo
    have hv2 := hq.get hv (fun q => by cases q)
    obtain rfl := am_nl_inv hf
    exact ⟨ls, by simp only [am_gi, hv2]; rfl, hq⟩
  case iload_n x =>
    simp only [am_dl] at hdo ⊢
    obtain ⟨v, hv, hf⟩ := am_gi_inv hdo
    have hv2 := hq.get hv (fun q => by cases q)
    obtain rfl := am_nl_inv hf
    exact ⟨ls, by simp only [am_gi, hv2]; rfl, hq⟩
  case lload x =>
    simp only [am_dl] at hdo ⊢
    obtain ⟨v, hv, hf⟩ := am_gl_inv hdo
    have hv2 := hq.get hv (fun q => by cases q)
    obtain rfl := am_nl_inv hf
    exact ⟨ls, by simp only [am_gl, hv2]; rfl, hq⟩
  case lload_n x =>
    simp only [am_dl] at hdo ⊢
    obtain ⟨v, hv, hf⟩ := am_gl_inv hdo
    have hv2 := hq.get hv (fun q => by cases q)
    obtain rfl := am_nl_inv hf
    exact ⟨ls, by simp only [am_gl, hv2]; rfl, hq⟩
  case aload x =>
    simp only [am_dl] at hdo ⊢
    obtain ⟨v, hv, hk, hf⟩ := am_ga_inv hdo
    obtain rfl := am_nl_inv hf
    rcases hk with ⟨a, rfl⟩ | rfl
    · have hv2 := hq.get hv (fun q => by cases q)
      exact ⟨ls, by simp only [am_ga, hv2]; rfl, hq⟩
    · have hv2 := hq.get hv (fun q => by cases q)
      exact ⟨ls, by simp only [am_ga, hv2]; rfl, hq⟩
  case aload_n x =>
    simp only [am_dl] at hdo ⊢
    obtain ⟨v, hv, hk, hf⟩ := am_ga_inv hdo
    obtain rfl := am_nl_inv hf
    rcases hk with ⟨a, rfl⟩ | rfl
    · have hv2 := hq.get hv (fun q => by cases q)
      exact ⟨ls, by simp only [am_ga, hv2]; rfl, hq⟩
    · have hv2 := hq.get hv (fun q => by cases q)
      exact ⟨ls, by simp only [am_ga, hv2]; rfl, hq⟩
  case istore x =>
    simp only [am_dl] at hdo ⊢
    obtain ⟨v, r, rfl, hf⟩ := am_i1_inv hdo
    split at hf
    · rename_i hx
      obtain rfl := am_nl_inv hf
      exact ⟨_, by simp only [am_i1]; rw [if_pos (by rw [hq.len]; exact hx)]; rfl, hq.p1 _ _⟩
    · cases hf
  case istore_n x =>
    simp only [am_dl] at hdo ⊢
    obtain ⟨v, r, rfl, hf⟩ := am_i1_inv hdo
    split at hf
    · rename_i hx
      obtain rfl := am_nl_inv hf
      exact ⟨_, by simp only [am_i1]; rw [if_pos (by rw [hq.len]; exact hx)]; rfl, hq.p1 _ _⟩
    · cases hf
  case lstore x =>
    simp only [am_dl] at hdo ⊢
    obtain ⟨v, r, rfl, hf⟩ := am_l1_inv hdo
    split at hf
    · rename_i hx
      obtain rfl := am_nl_inv hf
      exact ⟨_, by simp only [am_l1]; rw [if_pos (by rw [hq.len]; exact hx)]; rfl, hq.p2 _ _⟩
    · cases hf
  case lstore_n x =>
    simp only [am_dl] at hdo ⊢
    obtain ⟨v, r, rfl, hf⟩ := am_l1_inv hdo
    split at hf
    · rename_i hx
      obtain rfl := am_nl_inv hf
      exact ⟨_, by simp only [am_l1]; rw [if_pos (by rw [hq.len]; exact hx)]; rfl, hq.p2 _ _⟩
    · cases hf
  case astore x =>
    simp only [am_dl] at hdo ⊢
    obtain ⟨v, r, rfl, hf⟩ := am_r1_inv hdo
    split at hf
    · rename_i hx
      obtain rfl := am_nl_inv hf
      exact ⟨_, by simp only [am_r1]; rw [if_pos (by rw [hq.len]; exact hx)]; rfl, hq.p1 _ _⟩
    · cases hf
  case astore_n x =>
    simp only [am_dl] at hdo ⊢
    obtain ⟨v, r, rfl, hf⟩ := am_r1_inv hdo
    split at hf
    · rename_i hx
      obtain rfl := am_nl_inv hf
      exact ⟨_, by simp only [am_r1]; rw [if_pos (by rw [hq.len]; exact hx)]; rfl, hq.p1 _ _⟩
    · cases hf
  case iinc x n =>
    simp only [am_dl] at hdo ⊢
    obtain ⟨v, hv, hf⟩ := am_gi_inv hdo
    have hv2 := hq.get hv (fun q => by cases q)
    obtain rfl := am_nl_inv hf
    exact ⟨_, by simp only [am_gi, hv2]; rfl, hq.p1 _ _⟩
theorem am_do_wk {X : Nat × (Nat → Int32)} {k pc : Nat} {i : Instr} {ls ls' st : List Value} {h : am_H} {σ' : am_S} (hq : am_lq ls ls') (hdo : am_do X k i pc ls' st h = some σ') : ∃ l1, am_do X k i pc ls st h = some (σ'.1, l1, σ'.2.2.1, σ'.2.2.2) ∧ am_lq l1 σ'.2.1 := by
  unfold am_do at hdo ⊢
  split at hdo
  · cases hdo
    exact ⟨ls, rfl, hq⟩
  · exact am_dl_wk hq hdo
theorem am_inv_wk {k kind : Nat} {q : Option (Nat × Nat × Nat)} {pc k' pc' : Nat} {ls ls' st as l1 st' : List Value} {h h0 : am_H} (hk : kind < 3) (hq : am_inv k kind q pc ls' st h = some (k', as, (pc', l1, st', h0))) : l1 = ls' ∧ am_inv k kind q pc ls st h = some (k', as, (pc', ls, st', h0)) := by
  match kind, hk with
  | 0, _ =>
    obtain ⟨np, rfl, h0, h1, h2, rfl, rfl, rfl, e2, e3⟩ := am_inv0 hq
    refine ⟨e2, ?_⟩
    simp [am_inv, h0, h1, h2, e3]
  | 1, _ =>
    obtain ⟨np, a, fs, rfl, h0, h1, h2, h3, h4, rfl, rfl, e2, e3⟩ := am_inv1 hq
    refine ⟨e2, ?_⟩
    simp [am_inv, h0, h1, h2, h3, h4, e3]
  | 2, _ =>
    obtain ⟨np, a, rfl, h0, h1, h2, h4, rfl, rfl, e2, e3⟩ := am_inv2 hq
    refine ⟨e2, ?_⟩
    simp [am_inv, h0, h1, h2, h4, e3]
theorem am_cl_wk {k pc k' pc' : Nat} {i : Instr} {ls ls' st as l1 st' : List Value} {h h0 : am_H} (hq : am_cl k i pc ls' st h = some (k', as, (pc', l1, st', h0))) : l1 = ls' ∧ am_cl k i pc ls st h = some (k', as, (pc', ls, st', h0)) := by
  cases i <;> first
    | exact nomatch (show (none : Option (Nat × List Value × am_S)) = some _ from hq)
    | exact am_inv_wk (kind := 0) (by decide) hq
    | exact am_inv_wk (kind := 1) (by decide) hq
    | exact am_inv_wk (kind := 2) (by decide) hq
theorem am_run_wk {X : Nat × (Nat → Int32)} {C : Nat → List Value → am_H → Option Value × am_H → Prop} {k : Nat} : ∀ (n pc : Nat) (ls ls' st : List Value) (h : am_H) (ρ : Option Value × am_H), am_lq ls ls' → am_run X C k n (pc, ls', st, h) ρ → am_run X C k n (pc, ls, st, h) ρ
  | 0, _, _, _, _, _, _, _, h => h.elim
  | n + 1, pc, ls, ls', st, h, ρ, hq, hr => by
    obtain ⟨i, hi, ⟨σ', h1, h2⟩ | h1 | ⟨k', as, pc', l1, st', h0, r, h', h1, h2, h3⟩⟩ := hr
    · obtain ⟨l1, g1, g2⟩ := am_do_wk (X := X) hq h1
      exact ⟨i, hi, Or.inl ⟨_, g1, am_run_wk n _ _ _ _ _ ρ g2 h2⟩⟩
    · exact ⟨i, hi, Or.inr (Or.inl h1)⟩
    · obtain ⟨rfl, g1⟩ := am_cl_wk (ls := ls) h1
      exact ⟨i, hi, Or.inr (Or.inr ⟨k', as, pc', ls, st', h0, r, h', g1, h2, am_run_wk n _ _ _ _ _ ρ hq h3⟩)⟩
theorem am_w.wk {X : Nat × (Nat → Int32)} {d k pc : Nat} {ls ls' st : List Value} {h : am_H} {Q : Option Value → am_H → Prop} (hq : am_lq ls ls') (hw : am_w X d k (pc, ls', st, h) Q) : am_w X d k (pc, ls, st, h) Q := by
  obtain ⟨n, r, h', h1, h2⟩ := hw
  exact ⟨n, r, h', am_run_wk n pc ls ls' st h _ hq h1, h2⟩
end
section
/-! NUMBERS: an int is iI of an integer, a long lI of one -/
def iI (z : Int) : Int32 := Int32.ofInt z
def lI (z : Int) : Int64 := Int64.ofInt z
theorem iI_add (a b : Int) : iI a + iI b = iI (a + b) := (Int32.ofInt_add a b).symm
theorem iI_sub (a b : Int) : iI a - iI b = iI (a - b) := (Int32.ofInt_sub a b).symm
theorem iI_mul (a b : Int) : iI a * iI b = iI (a * b) := (Int32.ofInt_mul a b).symm
theorem iI_neg (a : Int) : -iI a = iI (-a) := (Int32.ofInt_neg a).symm
theorem lI_add (a b : Int) : lI a + lI b = lI (a + b) := (Int64.ofInt_add a b).symm
theorem lI_sub (a b : Int) : lI a - lI b = lI (a - b) := (Int64.ofInt_sub a b).symm
theorem lI_mul (a b : Int) : lI a * lI b = lI (a * b) := (Int64.ofInt_mul a b).symm
theorem lI_neg (a : Int) : -lI a = lI (-a) := (Int64.ofInt_neg a).symm
theorem iI_of (x : Int32) : x = iI x.toInt := (Int32.ofInt_toInt x).symm
theorem lI_of (x : Int64) : x = lI x.toInt := (Int64.ofInt_toInt x).symm
theorem iI_toInt {a : Int} (h : -2147483648 ≤ a ∧ a ≤ 2147483647) : (iI a).toInt = a := Int32.toInt_ofInt_of_le (by omega) (by omega)
theorem lI_toInt {a : Int} (h : -9223372036854775808 ≤ a ∧ a ≤ 9223372036854775807) : (lI a).toInt = a := Int64.toInt_ofInt_of_le (by omega) (by omega)
theorem i32_in (x : Int32) : -2147483648 ≤ x.toInt ∧ x.toInt ≤ 2147483647 := by
  have h1 := Int32.le_toInt x
  have h2 := Int32.toInt_lt x
  omega
theorem iI_lt {a b : Int} (ha : -2147483648 ≤ a ∧ a ≤ 2147483647) (hb : -2147483648 ≤ b ∧ b ≤ 2147483647) : iI a < iI b ↔ a < b := by
  rw [Int32.lt_iff_toInt_lt, iI_toInt ha, iI_toInt hb]
theorem iI_le {a b : Int} (ha : -2147483648 ≤ a ∧ a ≤ 2147483647) (hb : -2147483648 ≤ b ∧ b ≤ 2147483647) : iI a ≤ iI b ↔ a ≤ b := by
  rw [Int32.le_iff_toInt_le, iI_toInt ha, iI_toInt hb]
theorem iI_eq {a b : Int} (ha : -2147483648 ≤ a ∧ a ≤ 2147483647) (hb : -2147483648 ≤ b ∧ b ≤ 2147483647) : iI a = iI b ↔ a = b := by
  rw [← Int32.toInt_inj, iI_toInt ha, iI_toInt hb]
theorem lI_lt {a b : Int} (ha : -9223372036854775808 ≤ a ∧ a ≤ 9223372036854775807) (hb : -9223372036854775808 ≤ b ∧ b ≤ 9223372036854775807) : lI a < lI b ↔ a < b := by
  rw [Int64.lt_iff_toInt_lt, lI_toInt ha, lI_toInt hb]
theorem lI_eq {a b : Int} (ha : -9223372036854775808 ≤ a ∧ a ≤ 9223372036854775807) (hb : -9223372036854775808 ≤ b ∧ b ≤ 9223372036854775807) : lI a = lI b ↔ a = b := by
  rw [← Int64.toInt_inj, lI_toInt ha, lI_toInt hb]
theorem iI_0 : iI 0 = 0 := rfl
theorem lI_0 : lI 0 = 0 := rfl
theorem iI_clamp {a : Int} (ha : -2147483648 ≤ a ∧ a ≤ 2147483647) : (iI a).toNatClampNeg = a.toNat := by
  show (iI a).toInt.toNat = _
  rw [iI_toInt ha]
theorem iI_l {a : Int} (ha : -2147483648 ≤ a ∧ a ≤ 2147483647) : (iI a).toInt64 = lI a := by
  rw [← Int64.toInt_inj, Int32.toInt_toInt64, iI_toInt ha, lI_toInt (by omega)]
theorem lI_i (a : Int) : (lI a).toInt32 = iI a := Int64.toInt32_ofInt
theorem iI_div {a b : Int} (ha : -2147483648 ≤ a ∧ a ≤ 2147483647) (hb : -2147483648 ≤ b ∧ b ≤ 2147483647) : iI a / iI b = iI (a.tdiv b) := by
  refine (Int32.ofInt_tdiv ?_ ?_ ?_ ?_).symm
  · rw [Int32.toInt_minValue]; omega
  · rw [Int32.toInt_maxValue]; omega
  · rw [Int32.toInt_minValue]; omega
  · rw [Int32.toInt_maxValue]; omega
theorem lI_div {a b : Int} (ha : -9223372036854775808 ≤ a ∧ a ≤ 9223372036854775807) (hb : -9223372036854775808 ≤ b ∧ b ≤ 9223372036854775807) : lI a / lI b = lI (a.tdiv b) := by
  refine (Int64.ofInt_tdiv ?_ ?_ ?_ ?_).symm
  · rw [Int64.toInt_minValue]; omega
  · rw [Int64.toInt_maxValue]; omega
  · rw [Int64.toInt_minValue]; omega
  · rw [Int64.toInt_maxValue]; omega
theorem iI_rem {a b : Int} (ha : -2147483648 ≤ a ∧ a ≤ 2147483647) (hb : -2147483648 ≤ b ∧ b ≤ 2147483647) : iI a - iI a / iI b * iI b = iI (a.tmod b) := by
  rw [iI_div ha hb, iI_mul, iI_sub, Int.tmod_def, Int.mul_comm b]
theorem lI_rem {a b : Int} (ha : -9223372036854775808 ≤ a ∧ a ≤ 9223372036854775807) (hb : -9223372036854775808 ≤ b ∧ b ≤ 9223372036854775807) : lI a - lI a / lI b * lI b = lI (a.tmod b) := by
  rw [lI_div ha hb, lI_mul, lI_sub, Int.tmod_def, Int.mul_comm b]
/-- what lcmp leaves -/
def cmpI (a b : Int) : Int := if b < a then 1 else if a = b then 0 else -1
theorem cmpI_cases (a b : Int) : (cmpI a b = 1 ∧ b < a) ∨ (cmpI a b = 0 ∧ a = b) ∨ (cmpI a b = -1 ∧ a < b) := by
  unfold cmpI
  by_cases h1 : b < a
  · rw [if_pos h1]; exact Or.inl ⟨rfl, h1⟩
  · rw [if_neg h1]
    by_cases h2 : a = b
    · rw [if_pos h2]; exact Or.inr (Or.inl ⟨rfl, h2⟩)
    · rw [if_neg h2]; exact Or.inr (Or.inr ⟨rfl, by omega⟩)
theorem lI_cmp {a b : Int} (ha : -9223372036854775808 ≤ a ∧ a ≤ 9223372036854775807) (hb : -9223372036854775808 ≤ b ∧ b ≤ 9223372036854775807) : lg_cmp (lI a) (lI b) = iI (cmpI a b) := by
  unfold lg_cmp cmpI
  by_cases h1 : b < a
  · rw [if_pos ((lI_lt hb ha).mpr h1), if_pos h1]; rfl
  · rw [if_neg (fun q => h1 ((lI_lt hb ha).mp q)), if_neg h1]
    by_cases h2 : a = b
    · rw [if_pos ((lI_eq ha hb).mpr h2), if_pos h2]; rfl
    · rw [if_neg (fun q => h2 ((lI_eq ha hb).mp q)), if_neg h2]; rfl
/-- cells: an array of ints, of longs, of booleans; an object -/
abbrev am_ia (n : Nat) (g : Nat → Int) : va_E := .inl (0, n, .inl fun j => iI (g j))
abbrev am_la (n : Nat) (g : Nat → Int) : va_E := .inl (1, n, .inr (.inl fun j => lI (g j)))
abbrev am_za (n : Nat) (g : Nat → Int) : va_E := .inl (2, n, .inl fun j => iI (g j))
def updI (g : Nat → Int) (k : Nat) (x : Int) : Nat → Int := fun j => if j = k then x else g j
theorem updI_s (g : Nat → Int) (k : Nat) (x : Int) : updI g k x k = x := by simp [updI]
theorem updI_n {g : Nat → Int} {k j : Nat} {x : Int} (h : j ≠ k) : updI g k x j = g j := by simp [updI, h]
theorem upd_iI (g : Nat → Int) (k : Nat) (x : Int) : upd (fun j => iI (g j)) k (iI x) = fun j => iI (updI g k x j) := by
  funext j
  by_cases h : j = k <;> simp [upd, updI, h]
theorem upd_lI (g : Nat → Int) (k : Nat) (x : Int) : vp_updL (fun j => lI (g j)) k (lI x) = fun j => lI (updI g k x j) := by
  funext j
  by_cases h : j = k <;> simp [vp_updL, updI, h]
theorem am_out_I {j : Int} {n : Nat} (h : 0 ≤ j ∧ j < n) (hn : (n : Int) ≤ 2147483648) : am_out (iI j) n = false := by
  have hj : -2147483648 ≤ j ∧ j ≤ 2147483647 := by omega
  unfold am_out
  rw [Bool.or_eq_false_iff]
  refine ⟨decide_eq_false ?_, decide_eq_false ?_⟩
  · rw [← iI_0, iI_lt hj (by omega)]
    omega
  · rw [iI_clamp hj]
    omega
theorem iI_max {a b : Int} (ha : -2147483648 ≤ a ∧ a ≤ 2147483647) (hb : -2147483648 ≤ b ∧ b ≤ 2147483647) : (if iI a < iI b then iI b else iI a) = iI (max a b) := by
  by_cases h : a < b
  · rw [if_pos ((iI_lt ha hb).mpr h), show max a b = b by omega]
  · rw [if_neg (fun q => h ((iI_lt ha hb).mp q)), show max a b = a by omega]
theorem iI_min {a b : Int} (ha : -2147483648 ≤ a ∧ a ≤ 2147483647) (hb : -2147483648 ≤ b ∧ b ≤ 2147483647) : (if iI b < iI a then iI b else iI a) = iI (min a b) := by
  by_cases h : b < a
  · rw [if_pos ((iI_lt hb ha).mpr h), show min a b = b by omega]
  · rw [if_neg (fun q => h ((iI_lt hb ha).mp q)), show min a b = a by omega]
theorem lI_abs {a : Int} (ha : -9223372036854775807 ≤ a ∧ a ≤ 9223372036854775807) : (if 0 < lI a then lI a else -lI a) = lI (a.natAbs) := by
  by_cases h : 0 < a
  · rw [if_pos (by rw [← lI_0, lI_lt (by omega) (by omega)]; exact h), show ((a.natAbs : Nat) : Int) = a by omega]
  · rw [if_neg (fun q => h (by rw [← lI_0, lI_lt (by omega) (by omega)] at q; exact q)), lI_neg, show ((a.natAbs : Nat) : Int) = -a by omega]
end
section
/-! ROWS OF THE PLAIN MACHINE, over integers; printed by wip/whole/tools/gen_rows.py -/
section AMRW
variable {X : Nat × (Nat → Int32)} {d k pc pc' : Nat} {ls st : List Value} {h : am_H} {Q : Option Value → am_H → Prop}
theorem wr_null (hi : am_code k pc = some (.aconst_null)) (hp : pc + 1 = pc') (kk : am_w X d k (pc', ls, .null :: st, h) Q) : am_w X d k (pc, ls, st, h) Q := by
  subst hp
  exact am_w.go hi rfl kk
theorem wr_iconst {n : Int} (hi : am_code k pc = some (.iconst n)) (hp : pc + 1 = pc') (kk : am_w X d k (pc', ls, .int (iI n) :: st, h) Q) : am_w X d k (pc, ls, st, h) Q := by
  subst hp
  exact am_w.go hi rfl kk
theorem wr_bipush {n : Int} (hi : am_code k pc = some (.bipush n)) (hp : pc + 2 = pc') (hv : (Int8.ofInt n).toInt32 = iI n) (kk : am_w X d k (pc', ls, .int (iI n) :: st, h) Q) : am_w X d k (pc, ls, st, h) Q := by
  subst hp
  refine am_w.go hi rfl ?_
  rw [hv]
  exact kk
theorem wr_sipush {n : Int} (hi : am_code k pc = some (.sipush n)) (hp : pc + 3 = pc') (hv : (Int16.ofInt n).toInt32 = iI n) (kk : am_w X d k (pc', ls, .int (iI n) :: st, h) Q) : am_w X d k (pc, ls, st, h) Q := by
  subst hp
  refine am_w.go hi rfl ?_
  rw [hv]
  exact kk
theorem wr_lconst {n : Fin 2} {z : Int} (hi : am_code k pc = some (.lconst n)) (hp : pc + 1 = pc') (hv : Int64.ofNat (n : Nat) = lI z) (kk : am_w X d k (pc', ls, .long (lI z) :: st, h) Q) : am_w X d k (pc, ls, st, h) Q := by
  subst hp
  refine am_w.go hi rfl ?_
  rw [hv]
  exact kk
theorem wr_ldc {j : Nat} {v : Int32} {z : Int} (hi : am_code k pc = some (.ldc j)) (hp : pc + 2 = pc') (hl : am_ldi (am_own k) j = some v) (hv : v = iI z) (kk : am_w X d k (pc', ls, .int (iI z) :: st, h) Q) : am_w X d k (pc, ls, st, h) Q := by
  subst hp
  refine am_w.go hi (by simp only [am_do, am_dp, hl]; rfl) ?_
  rw [hv]
  exact kk
theorem wr_ldc2 {j : Nat} {v : Int64} {z : Int} (hi : am_code k pc = some (.ldc2_w j)) (hp : pc + 3 = pc') (hl : am_ldl (am_own k) j = some v) (hv : v = lI z) (kk : am_w X d k (pc', ls, .long (lI z) :: st, h) Q) : am_w X d k (pc, ls, st, h) Q := by
  subst hp
  refine am_w.go hi (by simp only [am_do, am_dp, hl]; rfl) ?_
  rw [hv]
  exact kk
theorem wr_iload {x : Nat} {v : Int32} (hi : am_code k pc = some (.iload x)) (hp : pc + 2 = pc') (hl : ls[(x : Nat)]? = some (.int v)) (kk : am_w X d k (pc', ls, .int v :: st, h) Q) : am_w X d k (pc, ls, st, h) Q := by
  subst hp
  exact am_w.go hi (by simp only [am_do, am_dp, am_dl, am_gi, hl]; rfl) kk
theorem wr_iload_n {x : Fin 4} {v : Int32} (hi : am_code k pc = some (.iload_n x)) (hp : pc + 1 = pc') (hl : ls[(x : Nat)]? = some (.int v)) (kk : am_w X d k (pc', ls, .int v :: st, h) Q) : am_w X d k (pc, ls, st, h) Q := by
  subst hp
  exact am_w.go hi (by simp only [am_do, am_dp, am_dl, am_gi, hl]; rfl) kk
theorem wr_lload {x : Nat} {v : Int64} (hi : am_code k pc = some (.lload x)) (hp : pc + 2 = pc') (hl : ls[(x : Nat)]? = some (.long v)) (kk : am_w X d k (pc', ls, .long v :: st, h) Q) : am_w X d k (pc, ls, st, h) Q := by
  subst hp
  exact am_w.go hi (by simp only [am_do, am_dp, am_dl, am_gl, hl]; rfl) kk
theorem wr_lload_n {x : Fin 4} {v : Int64} (hi : am_code k pc = some (.lload_n x)) (hp : pc + 1 = pc') (hl : ls[(x : Nat)]? = some (.long v)) (kk : am_w X d k (pc', ls, .long v :: st, h) Q) : am_w X d k (pc, ls, st, h) Q := by
  subst hp
  exact am_w.go hi (by simp only [am_do, am_dp, am_dl, am_gl, hl]; rfl) kk
theorem wr_aload {x : Nat} {a : Nat} (hi : am_code k pc = some (.aload x)) (hp : pc + 2 = pc') (hl : ls[(x : Nat)]? = some (.ref a)) (kk : am_w X d k (pc', ls, .ref a :: st, h) Q) : am_w X d k (pc, ls, st, h) Q := by
  subst hp
  exact am_w.go hi (by simp only [am_do, am_dp, am_dl, am_ga, hl]; rfl) kk
theorem wr_aloadX {x : Nat} (hi : am_code k pc = some (.aload x)) (hp : pc + 2 = pc') (hl : ls[(x : Nat)]? = some am_X) (kk : am_w X d k (pc', ls, am_X :: st, h) Q) : am_w X d k (pc, ls, st, h) Q := by
  subst hp
  exact am_w.go hi (by simp only [am_do, am_dp, am_dl, am_ga, hl]; rfl) kk
theorem wr_aload_n {x : Fin 4} {a : Nat} (hi : am_code k pc = some (.aload_n x)) (hp : pc + 1 = pc') (hl : ls[(x : Nat)]? = some (.ref a)) (kk : am_w X d k (pc', ls, .ref a :: st, h) Q) : am_w X d k (pc, ls, st, h) Q := by
  subst hp
  exact am_w.go hi (by simp only [am_do, am_dp, am_dl, am_ga, hl]; rfl) kk
theorem wr_aload_nX {x : Fin 4} (hi : am_code k pc = some (.aload_n x)) (hp : pc + 1 = pc') (hl : ls[(x : Nat)]? = some am_X) (kk : am_w X d k (pc', ls, am_X :: st, h) Q) : am_w X d k (pc, ls, st, h) Q := by
  subst hp
  exact am_w.go hi (by simp only [am_do, am_dp, am_dl, am_ga, hl]; rfl) kk
theorem wr_istore {x : Nat} {v : Int32} {ls' : List Value} (hi : am_code k pc = some (.istore x)) (hp : pc + 2 = pc') (hx : (x : Nat) < ls.length) (hs : am_p1 ls x (.int v) = ls') (kk : am_w X d k (pc', ls', st, h) Q) : am_w X d k (pc, ls, .int v :: st, h) Q := by
  subst hp
  subst hs
  exact am_w.go hi (by simp only [am_do, am_dp, am_dl, am_i1]; rw [if_pos hx]; rfl) kk
theorem wr_istore_n {x : Fin 4} {v : Int32} {ls' : List Value} (hi : am_code k pc = some (.istore_n x)) (hp : pc + 1 = pc') (hx : (x : Nat) < ls.length) (hs : am_p1 ls x (.int v) = ls') (kk : am_w X d k (pc', ls', st, h) Q) : am_w X d k (pc, ls, .int v :: st, h) Q := by
  subst hp
  subst hs
  exact am_w.go hi (by simp only [am_do, am_dp, am_dl, am_i1]; rw [if_pos hx]; rfl) kk
theorem wr_lstore {x : Nat} {v : Int64} {ls' : List Value} (hi : am_code k pc = some (.lstore x)) (hp : pc + 2 = pc') (hx : (x : Nat) + 1 < ls.length) (hs : am_p2 ls x (.long v) = ls') (kk : am_w X d k (pc', ls', st, h) Q) : am_w X d k (pc, ls, .long v :: st, h) Q := by
  subst hp
  subst hs
  exact am_w.go hi (by simp only [am_do, am_dp, am_dl, am_l1]; rw [if_pos hx]; rfl) kk
theorem wr_lstore_n {x : Fin 4} {v : Int64} {ls' : List Value} (hi : am_code k pc = some (.lstore_n x)) (hp : pc + 1 = pc') (hx : (x : Nat) + 1 < ls.length) (hs : am_p2 ls x (.long v) = ls') (kk : am_w X d k (pc', ls', st, h) Q) : am_w X d k (pc, ls, .long v :: st, h) Q := by
  subst hp
  subst hs
  exact am_w.go hi (by simp only [am_do, am_dp, am_dl, am_l1]; rw [if_pos hx]; rfl) kk
theorem wr_astore {x : Nat} {v : Nat} {ls' : List Value} (hi : am_code k pc = some (.astore x)) (hp : pc + 2 = pc') (hx : (x : Nat) < ls.length) (hs : am_p1 ls x (.ref v) = ls') (kk : am_w X d k (pc', ls', st, h) Q) : am_w X d k (pc, ls, .ref v :: st, h) Q := by
  subst hp
  subst hs
  exact am_w.go hi (by simp only [am_do, am_dp, am_dl, am_r1]; rw [if_pos hx]; rfl) kk
theorem wr_astore_n {x : Fin 4} {v : Nat} {ls' : List Value} (hi : am_code k pc = some (.astore_n x)) (hp : pc + 1 = pc') (hx : (x : Nat) < ls.length) (hs : am_p1 ls x (.ref v) = ls') (kk : am_w X d k (pc', ls', st, h) Q) : am_w X d k (pc, ls, .ref v :: st, h) Q := by
  subst hp
  subst hs
  exact am_w.go hi (by simp only [am_do, am_dp, am_dl, am_r1]; rw [if_pos hx]; rfl) kk
theorem wr_iinc {x : Nat} {n a : Int} {ls' : List Value} (hi : am_code k pc = some (.iinc x n)) (hp : pc + 3 = pc') (hl : ls[x]? = some (.int (iI a))) (hs : am_p1 ls x (.int (iI (a + n))) = ls') (kk : am_w X d k (pc', ls', st, h) Q) : am_w X d k (pc, ls, st, h) Q := by
  subst hp
  subst hs
  refine am_w.go hi (σ' := (pc + 3, am_p1 ls x (.int (iI (a + n))), st, h)) (by simp only [am_do, am_dp, am_dl, am_gi, hl]; rw [← iI_add]; rfl) kk
theorem wr_dup {a : Nat} (hi : am_code k pc = some (.dup)) (hp : pc + 1 = pc') (kk : am_w X d k (pc', ls, .ref a :: .ref a :: st, h) Q) : am_w X d k (pc, ls, .ref a :: st, h) Q := by
  subst hp
  exact am_w.go hi rfl kk
theorem wr_dup_i {a : Int32} (hi : am_code k pc = some (.dup)) (hp : pc + 1 = pc') (kk : am_w X d k (pc', ls, .int a :: .int a :: st, h) Q) : am_w X d k (pc, ls, .int a :: st, h) Q := by
  subst hp
  exact am_w.go hi rfl kk
theorem wr_dup2_ri {a : Nat} {b : Int32} (hi : am_code k pc = some (.dup2)) (hp : pc + 1 = pc') (kk : am_w X d k (pc', ls, .int b :: .ref a :: .int b :: .ref a :: st, h) Q) : am_w X d k (pc, ls, .int b :: .ref a :: st, h) Q := by
  subst hp
  exact am_w.go hi rfl kk
theorem wr_dup2_l {b : Int64} (hi : am_code k pc = some (.dup2)) (hp : pc + 1 = pc') (kk : am_w X d k (pc', ls, .long b :: .long b :: st, h) Q) : am_w X d k (pc, ls, .long b :: st, h) Q := by
  subst hp
  exact am_w.go hi rfl kk
theorem wr_pop_i {a : Int32} (hi : am_code k pc = some (.pop)) (hp : pc + 1 = pc') (kk : am_w X d k (pc', ls, st, h) Q) : am_w X d k (pc, ls, .int a :: st, h) Q := by
  subst hp
  exact am_w.go hi rfl kk
theorem wr_iadd {a b : Int} (hi : am_code k pc = some (.iadd)) (hp : pc + 1 = pc') (kk : am_w X d k (pc', ls, .int (iI (a + b)) :: st, h) Q) : am_w X d k (pc, ls, .int (iI b) :: .int (iI a) :: st, h) Q := by
  subst hp
  refine am_w.go hi rfl ?_
  rw [iI_add]
  exact kk
theorem wr_isub {a b : Int} (hi : am_code k pc = some (.isub)) (hp : pc + 1 = pc') (kk : am_w X d k (pc', ls, .int (iI (a - b)) :: st, h) Q) : am_w X d k (pc, ls, .int (iI b) :: .int (iI a) :: st, h) Q := by
  subst hp
  refine am_w.go hi rfl ?_
  rw [iI_sub]
  exact kk
theorem wr_imul {a b : Int} (hi : am_code k pc = some (.imul)) (hp : pc + 1 = pc') (kk : am_w X d k (pc', ls, .int (iI (a * b)) :: st, h) Q) : am_w X d k (pc, ls, .int (iI b) :: .int (iI a) :: st, h) Q := by
  subst hp
  refine am_w.go hi rfl ?_
  rw [iI_mul]
  exact kk
theorem wr_ladd {a b : Int} (hi : am_code k pc = some (.ladd)) (hp : pc + 1 = pc') (kk : am_w X d k (pc', ls, .long (lI (a + b)) :: st, h) Q) : am_w X d k (pc, ls, .long (lI b) :: .long (lI a) :: st, h) Q := by
  subst hp
  refine am_w.go hi rfl ?_
  rw [lI_add]
  exact kk
theorem wr_lsub {a b : Int} (hi : am_code k pc = some (.lsub)) (hp : pc + 1 = pc') (kk : am_w X d k (pc', ls, .long (lI (a - b)) :: st, h) Q) : am_w X d k (pc, ls, .long (lI b) :: .long (lI a) :: st, h) Q := by
  subst hp
  refine am_w.go hi rfl ?_
  rw [lI_sub]
  exact kk
theorem wr_lmul {a b : Int} (hi : am_code k pc = some (.lmul)) (hp : pc + 1 = pc') (kk : am_w X d k (pc', ls, .long (lI (a * b)) :: st, h) Q) : am_w X d k (pc, ls, .long (lI b) :: .long (lI a) :: st, h) Q := by
  subst hp
  refine am_w.go hi rfl ?_
  rw [lI_mul]
  exact kk
theorem wr_ineg {a : Int} (hi : am_code k pc = some (.ineg)) (hp : pc + 1 = pc') (kk : am_w X d k (pc', ls, .int (iI (-a)) :: st, h) Q) : am_w X d k (pc, ls, .int (iI a) :: st, h) Q := by
  subst hp
  refine am_w.go hi rfl ?_
  rw [iI_neg]
  exact kk
theorem wr_lneg {a : Int} (hi : am_code k pc = some (.lneg)) (hp : pc + 1 = pc') (kk : am_w X d k (pc', ls, .long (lI (-a)) :: st, h) Q) : am_w X d k (pc, ls, .long (lI a) :: st, h) Q := by
  subst hp
  refine am_w.go hi rfl ?_
  rw [lI_neg]
  exact kk
theorem wr_idiv {a b : Int} (hi : am_code k pc = some (.idiv)) (hp : pc + 1 = pc') (hb0 : ¬ b = 0) (ha : -2147483648 ≤ a ∧ a ≤ 2147483647) (hb : -2147483648 ≤ b ∧ b ≤ 2147483647) (kk : am_w X d k (pc', ls, .int (iI (a.tdiv b)) :: st, h) Q) : am_w X d k (pc, ls, .int (iI b) :: .int (iI a) :: st, h) Q := by
  subst hp
  have hne : ¬ iI b = 0 := fun q => hb0 ((iI_eq hb (by omega)).mp (q.trans iI_0.symm))
  refine am_w.go hi (by simp only [am_do, am_dp, am_i2]; rw [if_neg hne]; rfl) ?_
  rw [iI_div ha hb]
  exact kk
theorem wr_irem {a b : Int} (hi : am_code k pc = some (.irem)) (hp : pc + 1 = pc') (hb0 : ¬ b = 0) (ha : -2147483648 ≤ a ∧ a ≤ 2147483647) (hb : -2147483648 ≤ b ∧ b ≤ 2147483647) (kk : am_w X d k (pc', ls, .int (iI (a.tmod b)) :: st, h) Q) : am_w X d k (pc, ls, .int (iI b) :: .int (iI a) :: st, h) Q := by
  subst hp
  have hne : ¬ iI b = 0 := fun q => hb0 ((iI_eq hb (by omega)).mp (q.trans iI_0.symm))
  refine am_w.go hi (by simp only [am_do, am_dp, am_i2]; rw [if_neg hne]; rfl) ?_
  rw [iI_rem ha hb]
  exact kk
theorem wr_ldiv {a b : Int} (hi : am_code k pc = some (.ldiv)) (hp : pc + 1 = pc') (hb0 : ¬ b = 0) (ha : -9223372036854775808 ≤ a ∧ a ≤ 9223372036854775807) (hb : -9223372036854775808 ≤ b ∧ b ≤ 9223372036854775807) (kk : am_w X d k (pc', ls, .long (lI (a.tdiv b)) :: st, h) Q) : am_w X d k (pc, ls, .long (lI b) :: .long (lI a) :: st, h) Q := by
  subst hp
  have hne : ¬ lI b = 0 := fun q => hb0 ((lI_eq hb (by omega)).mp (q.trans lI_0.symm))
  refine am_w.go hi (by simp only [am_do, am_dp, am_l2]; rw [if_neg hne]; rfl) ?_
  rw [lI_div ha hb]
  exact kk
theorem wr_lrem {a b : Int} (hi : am_code k pc = some (.lrem)) (hp : pc + 1 = pc') (hb0 : ¬ b = 0) (ha : -9223372036854775808 ≤ a ∧ a ≤ 9223372036854775807) (hb : -9223372036854775808 ≤ b ∧ b ≤ 9223372036854775807) (kk : am_w X d k (pc', ls, .long (lI (a.tmod b)) :: st, h) Q) : am_w X d k (pc, ls, .long (lI b) :: .long (lI a) :: st, h) Q := by
  subst hp
  have hne : ¬ lI b = 0 := fun q => hb0 ((lI_eq hb (by omega)).mp (q.trans lI_0.symm))
  refine am_w.go hi (by simp only [am_do, am_dp, am_l2]; rw [if_neg hne]; rfl) ?_
  rw [lI_rem ha hb]
  exact kk
theorem wr_idivN {a b : Int} (hi : am_code k pc = some (.idiv)) (hp : pc + 1 = pc') (hb0 : ¬ b = 0) (ha0 : 0 ≤ a) (ha : -2147483648 ≤ a ∧ a ≤ 2147483647) (hb : -2147483648 ≤ b ∧ b ≤ 2147483647) (kk : am_w X d k (pc', ls, .int (iI (a / b)) :: st, h) Q) : am_w X d k (pc, ls, .int (iI b) :: .int (iI a) :: st, h) Q := by
  subst hp
  refine wr_idiv hi rfl hb0 ha hb ?_
  rw [Int.tdiv_eq_ediv_of_nonneg ha0]
  exact kk
theorem wr_iremN {a b : Int} (hi : am_code k pc = some (.irem)) (hp : pc + 1 = pc') (hb0 : ¬ b = 0) (ha0 : 0 ≤ a) (ha : -2147483648 ≤ a ∧ a ≤ 2147483647) (hb : -2147483648 ≤ b ∧ b ≤ 2147483647) (kk : am_w X d k (pc', ls, .int (iI (a % b)) :: st, h) Q) : am_w X d k (pc, ls, .int (iI b) :: .int (iI a) :: st, h) Q := by
  subst hp
  refine wr_irem hi rfl hb0 ha hb ?_
  rw [Int.tmod_eq_emod_of_nonneg ha0]
  exact kk
theorem wr_ldivN {a b : Int} (hi : am_code k pc = some (.ldiv)) (hp : pc + 1 = pc') (hb0 : ¬ b = 0) (ha0 : 0 ≤ a) (ha : -9223372036854775808 ≤ a ∧ a ≤ 9223372036854775807) (hb : -9223372036854775808 ≤ b ∧ b ≤ 9223372036854775807) (kk : am_w X d k (pc', ls, .long (lI (a / b)) :: st, h) Q) : am_w X d k (pc, ls, .long (lI b) :: .long (lI a) :: st, h) Q := by
  subst hp
  refine wr_ldiv hi rfl hb0 ha hb ?_
  rw [Int.tdiv_eq_ediv_of_nonneg ha0]
  exact kk
theorem wr_lremN {a b : Int} (hi : am_code k pc = some (.lrem)) (hp : pc + 1 = pc') (hb0 : ¬ b = 0) (ha0 : 0 ≤ a) (ha : -9223372036854775808 ≤ a ∧ a ≤ 9223372036854775807) (hb : -9223372036854775808 ≤ b ∧ b ≤ 9223372036854775807) (kk : am_w X d k (pc', ls, .long (lI (a % b)) :: st, h) Q) : am_w X d k (pc, ls, .long (lI b) :: .long (lI a) :: st, h) Q := by
  subst hp
  refine wr_lrem hi rfl hb0 ha hb ?_
  rw [Int.tmod_eq_emod_of_nonneg ha0]
  exact kk
theorem wr_i2l {a : Int} (hi : am_code k pc = some (.i2l)) (hp : pc + 1 = pc') (ha : -2147483648 ≤ a ∧ a ≤ 2147483647) (kk : am_w X d k (pc', ls, .long (lI a) :: st, h) Q) : am_w X d k (pc, ls, .int (iI a) :: st, h) Q := by
  subst hp
  refine am_w.go hi rfl ?_
  rw [iI_l ha]
  exact kk
theorem wr_l2i {a : Int} (hi : am_code k pc = some (.l2i)) (hp : pc + 1 = pc') (kk : am_w X d k (pc', ls, .int (iI a) :: st, h) Q) : am_w X d k (pc, ls, .long (lI a) :: st, h) Q := by
  subst hp
  refine am_w.go hi rfl ?_
  rw [lI_i]
  exact kk
theorem wr_lcmp {a b : Int} (hi : am_code k pc = some (.lcmp)) (hp : pc + 1 = pc') (ha : -9223372036854775808 ≤ a ∧ a ≤ 9223372036854775807) (hb : -9223372036854775808 ≤ b ∧ b ≤ 9223372036854775807) (kk : am_w X d k (pc', ls, .int (iI (cmpI a b)) :: st, h) Q) : am_w X d k (pc, ls, .long (lI b) :: .long (lI a) :: st, h) Q := by
  subst hp
  refine am_w.go hi rfl ?_
  rw [lI_cmp ha hb]
  exact kk
theorem wr_if_eq {a : Int} {off : Int} {t : Nat} (hi : am_code k pc = some (.ifCond .eq off)) (hj : am_jmp pc off = some t) (hp : pc + 3 = pc') (ha : -2147483648 ≤ a ∧ a ≤ 2147483647) (kt : a = 0 → am_w X d k (t, ls, st, h) Q) (kf : ¬ (a = 0) → am_w X d k (pc', ls, st, h) Q) : am_w X d k (pc, ls, .int (iI a) :: st, h) Q := by
  subst hp
  have e : (iI a = 0 ↔ a = 0) := by rw [← iI_0]; exact iI_eq ha (by omega)
  by_cases hc : a = 0
  · exact am_w.go (σ' := (t, ls, st, h)) hi (by simp only [am_do, am_dp, am_i1, am_br, hj]; rw [show decide (iI a = 0) = true from decide_eq_true (e.mpr hc)]; rfl) (kt hc)
  · exact am_w.go (σ' := (pc + 3, ls, st, h)) hi (by simp only [am_do, am_dp, am_i1, am_br, hj]; rw [show decide (iI a = 0) = false from decide_eq_false (fun q => hc (e.mp q))]; rfl) (kf hc)
theorem wr_icmp_eq {a b : Int} {off : Int} {t : Nat} (hi : am_code k pc = some (.if_icmp .eq off)) (hj : am_jmp pc off = some t) (hp : pc + 3 = pc') (ha : -2147483648 ≤ a ∧ a ≤ 2147483647) (hb : -2147483648 ≤ b ∧ b ≤ 2147483647) (kt : a = b → am_w X d k (t, ls, st, h) Q) (kf : ¬ (a = b) → am_w X d k (pc', ls, st, h) Q) : am_w X d k (pc, ls, .int (iI b) :: .int (iI a) :: st, h) Q := by
  subst hp
  have e : (iI a = iI b ↔ a = b) := iI_eq ha hb
  by_cases hc : a = b
  · exact am_w.go (σ' := (t, ls, st, h)) hi (by simp only [am_do, am_dp, am_i2, am_br, hj]; rw [show decide (iI a = iI b) = true from decide_eq_true (e.mpr hc)]; rfl) (kt hc)
  · exact am_w.go (σ' := (pc + 3, ls, st, h)) hi (by simp only [am_do, am_dp, am_i2, am_br, hj]; rw [show decide (iI a = iI b) = false from decide_eq_false (fun q => hc (e.mp q))]; rfl) (kf hc)
theorem wr_if_ne {a : Int} {off : Int} {t : Nat} (hi : am_code k pc = some (.ifCond .ne off)) (hj : am_jmp pc off = some t) (hp : pc + 3 = pc') (ha : -2147483648 ≤ a ∧ a ≤ 2147483647) (kt : ¬ a = 0 → am_w X d k (t, ls, st, h) Q) (kf : ¬ (¬ a = 0) → am_w X d k (pc', ls, st, h) Q) : am_w X d k (pc, ls, .int (iI a) :: st, h) Q := by
  subst hp
  have e : (iI a = 0 ↔ a = 0) := by rw [← iI_0]; exact iI_eq ha (by omega)
  by_cases hc : ¬ a = 0
  · exact am_w.go (σ' := (t, ls, st, h)) hi (by simp only [am_do, am_dp, am_i1, am_br, hj]; rw [show decide (¬ iI a = 0) = true from decide_eq_true (fun q => hc (e.mp q))]; rfl) (kt hc)
  · exact am_w.go (σ' := (pc + 3, ls, st, h)) hi (by simp only [am_do, am_dp, am_i1, am_br, hj]; rw [show decide (¬ iI a = 0) = false from decide_eq_false (fun q => hc (fun z => q (e.mpr z)))]; rfl) (kf hc)
theorem wr_icmp_ne {a b : Int} {off : Int} {t : Nat} (hi : am_code k pc = some (.if_icmp .ne off)) (hj : am_jmp pc off = some t) (hp : pc + 3 = pc') (ha : -2147483648 ≤ a ∧ a ≤ 2147483647) (hb : -2147483648 ≤ b ∧ b ≤ 2147483647) (kt : ¬ a = b → am_w X d k (t, ls, st, h) Q) (kf : ¬ (¬ a = b) → am_w X d k (pc', ls, st, h) Q) : am_w X d k (pc, ls, .int (iI b) :: .int (iI a) :: st, h) Q := by
  subst hp
  have e : (iI a = iI b ↔ a = b) := iI_eq ha hb
  by_cases hc : ¬ a = b
  · exact am_w.go (σ' := (t, ls, st, h)) hi (by simp only [am_do, am_dp, am_i2, am_br, hj]; rw [show decide (¬ iI a = iI b) = true from decide_eq_true (fun q => hc (e.mp q))]; rfl) (kt hc)
  · exact am_w.go (σ' := (pc + 3, ls, st, h)) hi (by simp only [am_do, am_dp, am_i2, am_br, hj]; rw [show decide (¬ iI a = iI b) = false from decide_eq_false (fun q => hc (fun z => q (e.mpr z)))]; rfl) (kf hc)
theorem wr_if_lt {a : Int} {off : Int} {t : Nat} (hi : am_code k pc = some (.ifCond .lt off)) (hj : am_jmp pc off = some t) (hp : pc + 3 = pc') (ha : -2147483648 ≤ a ∧ a ≤ 2147483647) (kt : a < 0 → am_w X d k (t, ls, st, h) Q) (kf : ¬ (a < 0) → am_w X d k (pc', ls, st, h) Q) : am_w X d k (pc, ls, .int (iI a) :: st, h) Q := by
  subst hp
  have e : (iI a < 0 ↔ a < 0) := by rw [← iI_0]; exact iI_lt ha (by omega)
  by_cases hc : a < 0
  · exact am_w.go (σ' := (t, ls, st, h)) hi (by simp only [am_do, am_dp, am_i1, am_br, hj]; rw [show decide (iI a < 0) = true from decide_eq_true (e.mpr hc)]; rfl) (kt hc)
  · exact am_w.go (σ' := (pc + 3, ls, st, h)) hi (by simp only [am_do, am_dp, am_i1, am_br, hj]; rw [show decide (iI a < 0) = false from decide_eq_false (fun q => hc (e.mp q))]; rfl) (kf hc)
theorem wr_icmp_lt {a b : Int} {off : Int} {t : Nat} (hi : am_code k pc = some (.if_icmp .lt off)) (hj : am_jmp pc off = some t) (hp : pc + 3 = pc') (ha : -2147483648 ≤ a ∧ a ≤ 2147483647) (hb : -2147483648 ≤ b ∧ b ≤ 2147483647) (kt : a < b → am_w X d k (t, ls, st, h) Q) (kf : ¬ (a < b) → am_w X d k (pc', ls, st, h) Q) : am_w X d k (pc, ls, .int (iI b) :: .int (iI a) :: st, h) Q := by
  subst hp
  have e : (iI a < iI b ↔ a < b) := iI_lt ha hb
  by_cases hc : a < b
  · exact am_w.go (σ' := (t, ls, st, h)) hi (by simp only [am_do, am_dp, am_i2, am_br, hj]; rw [show decide (iI a < iI b) = true from decide_eq_true (e.mpr hc)]; rfl) (kt hc)
  · exact am_w.go (σ' := (pc + 3, ls, st, h)) hi (by simp only [am_do, am_dp, am_i2, am_br, hj]; rw [show decide (iI a < iI b) = false from decide_eq_false (fun q => hc (e.mp q))]; rfl) (kf hc)
theorem wr_if_ge {a : Int} {off : Int} {t : Nat} (hi : am_code k pc = some (.ifCond .ge off)) (hj : am_jmp pc off = some t) (hp : pc + 3 = pc') (ha : -2147483648 ≤ a ∧ a ≤ 2147483647) (kt : 0 ≤ a → am_w X d k (t, ls, st, h) Q) (kf : ¬ (0 ≤ a) → am_w X d k (pc', ls, st, h) Q) : am_w X d k (pc, ls, .int (iI a) :: st, h) Q := by
  subst hp
  have e : (0 ≤ iI a ↔ 0 ≤ a) := by rw [← iI_0]; exact iI_le (by omega) ha
  by_cases hc : 0 ≤ a
  · exact am_w.go (σ' := (t, ls, st, h)) hi (by simp only [am_do, am_dp, am_i1, am_br, hj]; rw [show decide (0 ≤ iI a) = true from decide_eq_true (e.mpr hc)]; rfl) (kt hc)
  · exact am_w.go (σ' := (pc + 3, ls, st, h)) hi (by simp only [am_do, am_dp, am_i1, am_br, hj]; rw [show decide (0 ≤ iI a) = false from decide_eq_false (fun q => hc (e.mp q))]; rfl) (kf hc)
theorem wr_icmp_ge {a b : Int} {off : Int} {t : Nat} (hi : am_code k pc = some (.if_icmp .ge off)) (hj : am_jmp pc off = some t) (hp : pc + 3 = pc') (ha : -2147483648 ≤ a ∧ a ≤ 2147483647) (hb : -2147483648 ≤ b ∧ b ≤ 2147483647) (kt : b ≤ a → am_w X d k (t, ls, st, h) Q) (kf : ¬ (b ≤ a) → am_w X d k (pc', ls, st, h) Q) : am_w X d k (pc, ls, .int (iI b) :: .int (iI a) :: st, h) Q := by
  subst hp
  have e : (iI b ≤ iI a ↔ b ≤ a) := iI_le hb ha
  by_cases hc : b ≤ a
  · exact am_w.go (σ' := (t, ls, st, h)) hi (by simp only [am_do, am_dp, am_i2, am_br, hj]; rw [show decide (iI b ≤ iI a) = true from decide_eq_true (e.mpr hc)]; rfl) (kt hc)
  · exact am_w.go (σ' := (pc + 3, ls, st, h)) hi (by simp only [am_do, am_dp, am_i2, am_br, hj]; rw [show decide (iI b ≤ iI a) = false from decide_eq_false (fun q => hc (e.mp q))]; rfl) (kf hc)
theorem wr_if_gt {a : Int} {off : Int} {t : Nat} (hi : am_code k pc = some (.ifCond .gt off)) (hj : am_jmp pc off = some t) (hp : pc + 3 = pc') (ha : -2147483648 ≤ a ∧ a ≤ 2147483647) (kt : 0 < a → am_w X d k (t, ls, st, h) Q) (kf : ¬ (0 < a) → am_w X d k (pc', ls, st, h) Q) : am_w X d k (pc, ls, .int (iI a) :: st, h) Q := by
  subst hp
  have e : (0 < iI a ↔ 0 < a) := by rw [← iI_0]; exact iI_lt (by omega) ha
  by_cases hc : 0 < a
  · exact am_w.go (σ' := (t, ls, st, h)) hi (by simp only [am_do, am_dp, am_i1, am_br, hj]; rw [show decide (0 < iI a) = true from decide_eq_true (e.mpr hc)]; rfl) (kt hc)
  · exact am_w.go (σ' := (pc + 3, ls, st, h)) hi (by simp only [am_do, am_dp, am_i1, am_br, hj]; rw [show decide (0 < iI a) = false from decide_eq_false (fun q => hc (e.mp q))]; rfl) (kf hc)
theorem wr_icmp_gt {a b : Int} {off : Int} {t : Nat} (hi : am_code k pc = some (.if_icmp .gt off)) (hj : am_jmp pc off = some t) (hp : pc + 3 = pc') (ha : -2147483648 ≤ a ∧ a ≤ 2147483647) (hb : -2147483648 ≤ b ∧ b ≤ 2147483647) (kt : b < a → am_w X d k (t, ls, st, h) Q) (kf : ¬ (b < a) → am_w X d k (pc', ls, st, h) Q) : am_w X d k (pc, ls, .int (iI b) :: .int (iI a) :: st, h) Q := by
  subst hp
  have e : (iI b < iI a ↔ b < a) := iI_lt hb ha
  by_cases hc : b < a
  · exact am_w.go (σ' := (t, ls, st, h)) hi (by simp only [am_do, am_dp, am_i2, am_br, hj]; rw [show decide (iI b < iI a) = true from decide_eq_true (e.mpr hc)]; rfl) (kt hc)
  · exact am_w.go (σ' := (pc + 3, ls, st, h)) hi (by simp only [am_do, am_dp, am_i2, am_br, hj]; rw [show decide (iI b < iI a) = false from decide_eq_false (fun q => hc (e.mp q))]; rfl) (kf hc)
theorem wr_if_le {a : Int} {off : Int} {t : Nat} (hi : am_code k pc = some (.ifCond .le off)) (hj : am_jmp pc off = some t) (hp : pc + 3 = pc') (ha : -2147483648 ≤ a ∧ a ≤ 2147483647) (kt : a ≤ 0 → am_w X d k (t, ls, st, h) Q) (kf : ¬ (a ≤ 0) → am_w X d k (pc', ls, st, h) Q) : am_w X d k (pc, ls, .int (iI a) :: st, h) Q := by
  subst hp
  have e : (iI a ≤ 0 ↔ a ≤ 0) := by rw [← iI_0]; exact iI_le ha (by omega)
  by_cases hc : a ≤ 0
  · exact am_w.go (σ' := (t, ls, st, h)) hi (by simp only [am_do, am_dp, am_i1, am_br, hj]; rw [show decide (iI a ≤ 0) = true from decide_eq_true (e.mpr hc)]; rfl) (kt hc)
  · exact am_w.go (σ' := (pc + 3, ls, st, h)) hi (by simp only [am_do, am_dp, am_i1, am_br, hj]; rw [show decide (iI a ≤ 0) = false from decide_eq_false (fun q => hc (e.mp q))]; rfl) (kf hc)
theorem wr_icmp_le {a b : Int} {off : Int} {t : Nat} (hi : am_code k pc = some (.if_icmp .le off)) (hj : am_jmp pc off = some t) (hp : pc + 3 = pc') (ha : -2147483648 ≤ a ∧ a ≤ 2147483647) (hb : -2147483648 ≤ b ∧ b ≤ 2147483647) (kt : a ≤ b → am_w X d k (t, ls, st, h) Q) (kf : ¬ (a ≤ b) → am_w X d k (pc', ls, st, h) Q) : am_w X d k (pc, ls, .int (iI b) :: .int (iI a) :: st, h) Q := by
  subst hp
  have e : (iI a ≤ iI b ↔ a ≤ b) := iI_le ha hb
  by_cases hc : a ≤ b
  · exact am_w.go (σ' := (t, ls, st, h)) hi (by simp only [am_do, am_dp, am_i2, am_br, hj]; rw [show decide (iI a ≤ iI b) = true from decide_eq_true (e.mpr hc)]; rfl) (kt hc)
  · exact am_w.go (σ' := (pc + 3, ls, st, h)) hi (by simp only [am_do, am_dp, am_i2, am_br, hj]; rw [show decide (iI a ≤ iI b) = false from decide_eq_false (fun q => hc (e.mp q))]; rfl) (kf hc)
theorem wr_l_eq {a b : Int} {off : Int} {t pc1 : Nat} (hi : am_code k pc = some .lcmp) (hp1 : pc + 1 = pc1) (hi2 : am_code k pc1 = some (.ifCond .eq off)) (hj : am_jmp pc1 off = some t) (hp : pc1 + 3 = pc') (ha : -9223372036854775808 ≤ a ∧ a ≤ 9223372036854775807) (hb : -9223372036854775808 ≤ b ∧ b ≤ 9223372036854775807) (kt : a = b → am_w X d k (t, ls, st, h) Q) (kf : ¬ (a = b) → am_w X d k (pc', ls, st, h) Q) : am_w X d k (pc, ls, .long (lI b) :: .long (lI a) :: st, h) Q := by
  refine wr_lcmp hi hp1 ha hb ?_
  have hc : -2147483648 ≤ cmpI a b ∧ cmpI a b ≤ 2147483647 := by have := cmpI_cases a b; omega
  refine wr_if_eq hi2 hj hp hc (fun c => kt ?_) (fun c => kf ?_)
  · have := cmpI_cases a b; omega
  · have := cmpI_cases a b; omega
theorem wr_l_ne {a b : Int} {off : Int} {t pc1 : Nat} (hi : am_code k pc = some .lcmp) (hp1 : pc + 1 = pc1) (hi2 : am_code k pc1 = some (.ifCond .ne off)) (hj : am_jmp pc1 off = some t) (hp : pc1 + 3 = pc') (ha : -9223372036854775808 ≤ a ∧ a ≤ 9223372036854775807) (hb : -9223372036854775808 ≤ b ∧ b ≤ 9223372036854775807) (kt : ¬ a = b → am_w X d k (t, ls, st, h) Q) (kf : ¬ (¬ a = b) → am_w X d k (pc', ls, st, h) Q) : am_w X d k (pc, ls, .long (lI b) :: .long (lI a) :: st, h) Q := by
  refine wr_lcmp hi hp1 ha hb ?_
  have hc : -2147483648 ≤ cmpI a b ∧ cmpI a b ≤ 2147483647 := by have := cmpI_cases a b; omega
  refine wr_if_ne hi2 hj hp hc (fun c => kt ?_) (fun c => kf ?_)
  · have := cmpI_cases a b; omega
  · have := cmpI_cases a b; omega
theorem wr_l_lt {a b : Int} {off : Int} {t pc1 : Nat} (hi : am_code k pc = some .lcmp) (hp1 : pc + 1 = pc1) (hi2 : am_code k pc1 = some (.ifCond .lt off)) (hj : am_jmp pc1 off = some t) (hp : pc1 + 3 = pc') (ha : -9223372036854775808 ≤ a ∧ a ≤ 9223372036854775807) (hb : -9223372036854775808 ≤ b ∧ b ≤ 9223372036854775807) (kt : a < b → am_w X d k (t, ls, st, h) Q) (kf : ¬ (a < b) → am_w X d k (pc', ls, st, h) Q) : am_w X d k (pc, ls, .long (lI b) :: .long (lI a) :: st, h) Q := by
  refine wr_lcmp hi hp1 ha hb ?_
  have hc : -2147483648 ≤ cmpI a b ∧ cmpI a b ≤ 2147483647 := by have := cmpI_cases a b; omega
  refine wr_if_lt hi2 hj hp hc (fun c => kt ?_) (fun c => kf ?_)
  · have := cmpI_cases a b; omega
  · have := cmpI_cases a b; omega
theorem wr_l_ge {a b : Int} {off : Int} {t pc1 : Nat} (hi : am_code k pc = some .lcmp) (hp1 : pc + 1 = pc1) (hi2 : am_code k pc1 = some (.ifCond .ge off)) (hj : am_jmp pc1 off = some t) (hp : pc1 + 3 = pc') (ha : -9223372036854775808 ≤ a ∧ a ≤ 9223372036854775807) (hb : -9223372036854775808 ≤ b ∧ b ≤ 9223372036854775807) (kt : b ≤ a → am_w X d k (t, ls, st, h) Q) (kf : ¬ (b ≤ a) → am_w X d k (pc', ls, st, h) Q) : am_w X d k (pc, ls, .long (lI b) :: .long (lI a) :: st, h) Q := by
  refine wr_lcmp hi hp1 ha hb ?_
  have hc : -2147483648 ≤ cmpI a b ∧ cmpI a b ≤ 2147483647 := by have := cmpI_cases a b; omega
  refine wr_if_ge hi2 hj hp hc (fun c => kt ?_) (fun c => kf ?_)
  · have := cmpI_cases a b; omega
  · have := cmpI_cases a b; omega
theorem wr_l_gt {a b : Int} {off : Int} {t pc1 : Nat} (hi : am_code k pc = some .lcmp) (hp1 : pc + 1 = pc1) (hi2 : am_code k pc1 = some (.ifCond .gt off)) (hj : am_jmp pc1 off = some t) (hp : pc1 + 3 = pc') (ha : -9223372036854775808 ≤ a ∧ a ≤ 9223372036854775807) (hb : -9223372036854775808 ≤ b ∧ b ≤ 9223372036854775807) (kt : b < a → am_w X d k (t, ls, st, h) Q) (kf : ¬ (b < a) → am_w X d k (pc', ls, st, h) Q) : am_w X d k (pc, ls, .long (lI b) :: .long (lI a) :: st, h) Q := by
  refine wr_lcmp hi hp1 ha hb ?_
  have hc : -2147483648 ≤ cmpI a b ∧ cmpI a b ≤ 2147483647 := by have := cmpI_cases a b; omega
  refine wr_if_gt hi2 hj hp hc (fun c => kt ?_) (fun c => kf ?_)
  · have := cmpI_cases a b; omega
  · have := cmpI_cases a b; omega
theorem wr_l_le {a b : Int} {off : Int} {t pc1 : Nat} (hi : am_code k pc = some .lcmp) (hp1 : pc + 1 = pc1) (hi2 : am_code k pc1 = some (.ifCond .le off)) (hj : am_jmp pc1 off = some t) (hp : pc1 + 3 = pc') (ha : -9223372036854775808 ≤ a ∧ a ≤ 9223372036854775807) (hb : -9223372036854775808 ≤ b ∧ b ≤ 9223372036854775807) (kt : a ≤ b → am_w X d k (t, ls, st, h) Q) (kf : ¬ (a ≤ b) → am_w X d k (pc', ls, st, h) Q) : am_w X d k (pc, ls, .long (lI b) :: .long (lI a) :: st, h) Q := by
  refine wr_lcmp hi hp1 ha hb ?_
  have hc : -2147483648 ≤ cmpI a b ∧ cmpI a b ≤ 2147483647 := by have := cmpI_cases a b; omega
  refine wr_if_le hi2 hj hp hc (fun c => kt ?_) (fun c => kf ?_)
  · have := cmpI_cases a b; omega
  · have := cmpI_cases a b; omega
theorem wr_goto {off : Int} (hi : am_code k pc = some (.goto off)) (hj : am_jmp pc off = some pc') (kk : am_w X d k (pc', ls, st, h) Q) : am_w X d k (pc, ls, st, h) Q := am_w.go hi (by simp only [am_do, am_dp, am_go, hj]; rfl) kk
theorem wr_acmp_eq {a b : Nat} {off : Int} {t : Nat} (hi : am_code k pc = some (.if_acmp .eq off)) (hj : am_jmp pc off = some t) (hp : pc + 3 = pc') (kt : a = b → am_w X d k (t, ls, st, h) Q) (kf : ¬ (a = b) → am_w X d k (pc', ls, st, h) Q) : am_w X d k (pc, ls, .ref b :: .ref a :: st, h) Q := by
  subst hp
  by_cases hc : a = b
  · exact am_w.go (σ' := (t, ls, st, h)) hi (by simp only [am_do, am_dp, am_r2, am_br, hj]; rw [show decide (a = b) = true from decide_eq_true hc]; rfl) (kt hc)
  · exact am_w.go (σ' := (pc + 3, ls, st, h)) hi (by simp only [am_do, am_dp, am_r2, am_br, hj]; rw [show decide (a = b) = false from decide_eq_false hc]; rfl) (kf hc)
theorem wr_acmp_ne {a b : Nat} {off : Int} {t : Nat} (hi : am_code k pc = some (.if_acmp .ne off)) (hj : am_jmp pc off = some t) (hp : pc + 3 = pc') (kt : ¬ a = b → am_w X d k (t, ls, st, h) Q) (kf : ¬ (¬ a = b) → am_w X d k (pc', ls, st, h) Q) : am_w X d k (pc, ls, .ref b :: .ref a :: st, h) Q := by
  subst hp
  by_cases hc : ¬ a = b
  · exact am_w.go (σ' := (t, ls, st, h)) hi (by simp only [am_do, am_dp, am_r2, am_br, hj]; rw [show decide (¬ a = b) = true from decide_eq_true hc]; rfl) (kt hc)
  · exact am_w.go (σ' := (pc + 3, ls, st, h)) hi (by simp only [am_do, am_dp, am_r2, am_br, hj]; rw [show decide (¬ a = b) = false from decide_eq_false hc]; rfl) (kf hc)
theorem wr_iald {a n : Nat} {g : Nat → Int} {j : Int} (hi : am_code k pc = some (.iaload)) (hp : pc + 1 = pc') (hc : h[a]? = some (am_ia n g)) (hj : 0 ≤ j ∧ j < n) (hn : (n : Int) ≤ 2147483648) (kk : am_w X d k (pc', ls, .int (iI (g j.toNat)) :: st, h) Q) : am_w X d k (pc, ls, .int (iI j) :: .ref a :: st, h) Q := by
  subst hp
  refine am_w.go (σ' := (pc + 1, ls, .int (iI (g (iI j).toNatClampNeg)) :: st, h)) hi (by simp only [am_do, am_dp, am_iald, hc, am_out_I hj hn]; rfl) ?_
  rw [iI_clamp (by omega)]
  exact kk
theorem wr_lald {a n : Nat} {g : Nat → Int} {j : Int} (hi : am_code k pc = some (.laload)) (hp : pc + 1 = pc') (hc : h[a]? = some (am_la n g)) (hj : 0 ≤ j ∧ j < n) (hn : (n : Int) ≤ 2147483648) (kk : am_w X d k (pc', ls, .long (lI (g j.toNat)) :: st, h) Q) : am_w X d k (pc, ls, .int (iI j) :: .ref a :: st, h) Q := by
  subst hp
  refine am_w.go (σ' := (pc + 1, ls, .long (lI (g (iI j).toNatClampNeg)) :: st, h)) hi (by simp only [am_do, am_dp, am_lald, hc, am_out_I hj hn]; rfl) ?_
  rw [iI_clamp (by omega)]
  exact kk
theorem wr_zald {a n : Nat} {g : Nat → Int} {j : Int} (hi : am_code k pc = some (.baload)) (hp : pc + 1 = pc') (hc : h[a]? = some (am_za n g)) (hj : 0 ≤ j ∧ j < n) (hn : (n : Int) ≤ 2147483648) (kk : am_w X d k (pc', ls, .int (iI (g j.toNat)) :: st, h) Q) : am_w X d k (pc, ls, .int (iI j) :: .ref a :: st, h) Q := by
  subst hp
  refine am_w.go (σ' := (pc + 1, ls, .int (iI (g (iI j).toNatClampNeg)) :: st, h)) hi (by simp only [am_do, am_dp, am_zald, hc, am_out_I hj hn]; rfl) ?_
  rw [iI_clamp (by omega)]
  exact kk
theorem wr_iast {a n : Nat} {g : Nat → Int} {j x : Int} (hi : am_code k pc = some .iastore) (hp : pc + 1 = pc') (hc : h[a]? = some (am_ia n g)) (hj : 0 ≤ j ∧ j < n) (hn : (n : Int) ≤ 2147483648) (kk : ∀ h1 : am_H, h1 = h.set a (am_ia n (updI g j.toNat x)) → am_w X d k (pc', ls, st, h1) Q) : am_w X d k (pc, ls, .int (iI x) :: .int (iI j) :: .ref a :: st, h) Q := by
  subst hp
  refine am_w.go (σ' := (pc + 1, ls, st, h.set a (.inl (0, n, .inl (upd (fun j => iI (g j)) (iI j).toNatClampNeg (iI x)))))) hi (by simp only [am_do, am_dp, am_iast, hc, am_out_I hj hn]; rfl) ?_
  rw [upd_iI, iI_clamp (by omega)]
  exact kk _ rfl
theorem wr_last {a n : Nat} {g : Nat → Int} {j x : Int} (hi : am_code k pc = some .lastore) (hp : pc + 1 = pc') (hc : h[a]? = some (am_la n g)) (hj : 0 ≤ j ∧ j < n) (hn : (n : Int) ≤ 2147483648) (kk : ∀ h1 : am_H, h1 = h.set a (am_la n (updI g j.toNat x)) → am_w X d k (pc', ls, st, h1) Q) : am_w X d k (pc, ls, .long (lI x) :: .int (iI j) :: .ref a :: st, h) Q := by
  subst hp
  refine am_w.go (σ' := (pc + 1, ls, st, h.set a (.inl (1, n, .inr (.inl (vp_updL (fun j => lI (g j)) (iI j).toNatClampNeg (lI x))))))) hi (by simp only [am_do, am_dp, am_last, hc, am_out_I hj hn]; rfl) ?_
  rw [upd_lI, iI_clamp (by omega)]
  exact kk _ rfl
theorem wr_ialX {j : Int} (hi : am_code k pc = some (.iaload)) (hp : pc + 1 = pc') (hj : 0 ≤ j ∧ j < X.1) (hn : (X.1 : Int) ≤ 2147483648) (kk : am_w X d k (pc', ls, .int (X.2 j.toNat) :: st, h) Q) : am_w X d k (pc, ls, .int (iI j) :: am_X :: st, h) Q := by
  subst hp
  refine am_w.go (σ' := (pc + 1, ls, .int (X.2 (iI j).toNatClampNeg) :: st, h)) hi (by simp only [am_do, am_dp, am_iald, am_out_I hj hn]; rfl) ?_
  rw [iI_clamp (by omega)]
  exact kk
theorem wr_alenI {a n : Nat} {g : Nat → Int} (hi : am_code k pc = some (.arraylength)) (hp : pc + 1 = pc') (hc : h[a]? = some (am_ia n g)) (kk : am_w X d k (pc', ls, .int (iI n) :: st, h) Q) : am_w X d k (pc, ls, .ref a :: st, h) Q := by
  subst hp
  exact am_w.go hi (by simp only [am_do, am_dp, am_alen, hc]; rfl) kk
theorem wr_alenL {a n : Nat} {g : Nat → Int} (hi : am_code k pc = some (.arraylength)) (hp : pc + 1 = pc') (hc : h[a]? = some (am_la n g)) (kk : am_w X d k (pc', ls, .int (iI n) :: st, h) Q) : am_w X d k (pc, ls, .ref a :: st, h) Q := by
  subst hp
  exact am_w.go hi (by simp only [am_do, am_dp, am_alen, hc]; rfl) kk
theorem wr_alen {a n kd : Nat} {y : (Nat → Int32) ⊕ (Nat → Int64) ⊕ (Nat → UInt32) ⊕ (Nat → UInt64) ⊕ (Nat → Option Nat)} (hi : am_code k pc = some (.arraylength)) (hp : pc + 1 = pc') (hc : h[a]? = some (.inl (kd, n, y))) (hk : kd < 2) (kk : am_w X d k (pc', ls, .int (iI n) :: st, h) Q) : am_w X d k (pc, ls, .ref a :: st, h) Q := by
  subst hp
  match kd, hk with
  | 0, _ => exact am_w.go hi (by simp only [am_do, am_dp, am_alen, hc]; rfl) kk
  | 1, _ => exact am_w.go hi (by simp only [am_do, am_dp, am_alen, hc]; rfl) kk
theorem wr_alenX (hi : am_code k pc = some (.arraylength)) (hp : pc + 1 = pc') (kk : am_w X d k (pc', ls, .int (iI X.1) :: st, h) Q) : am_w X d k (pc, ls, am_X :: st, h) Q := by
  subst hp
  exact am_w.go hi rfl kk
theorem wr_get {j ci f a : Nat} {fs : List Value} {v : Value} (hi : am_code k pc = some (.getfield j)) (hp : pc + 3 = pc') (hf : am_fld (am_own k) j = some (ci, f)) (hc : h[a]? = some (.inr (ci, fs))) (hv : fs[f]? = some v) (kk : am_w X d k (pc', ls, v :: st, h) Q) : am_w X d k (pc, ls, .ref a :: st, h) Q := by
  subst hp
  exact am_w.go hi (by simp only [am_do, am_dp, am_getf, hf, hc, hv, beq_self_eq_true]; rfl) kk
theorem wr_put {j ci f a : Nat} {fs fs' : List Value} {v : Value} (hi : am_code k pc = some (.putfield j)) (hp : pc + 3 = pc') (hf : am_fld (am_own k) j = some (ci, f)) (hc : h[a]? = some (.inr (ci, fs))) (hok : (decide (f < fs.length) && (!(am_fin ci f) || am_ctor k ci) && decide (narrow (am_fty ci f) v = v) && fits (am_fty ci f) v) = true) (hs : fs.set f v = fs') (kk : ∀ h1 : am_H, h1 = h.set a (.inr (ci, fs')) → am_w X d k (pc', ls, st, h1) Q) : am_w X d k (pc, ls, v :: .ref a :: st, h) Q := by
  subst hp
  subst hs
  refine am_w.go (σ' := (pc + 3, ls, st, h.set a (.inr (ci, fs.set f v)))) hi ?_ (kk _ rfl)
  simp only [am_do, am_dp, am_putf, hf, hc]
  rw [beq_self_eq_true, Bool.true_and, hok]
  rfl
theorem wr_putI {j ci f a : Nat} {fs fs' : List Value} {x : Int32} (hi : am_code k pc = some (.putfield j)) (hp : pc + 3 = pc') (hf : am_fld (am_own k) j = some (ci, f)) (hc : h[a]? = some (.inr (ci, fs))) (hty : am_fty ci f = .int) (hok : (decide (f < fs.length) && (!(am_fin ci f) || am_ctor k ci)) = true) (hs : fs.set f (.int x) = fs') (kk : ∀ h1 : am_H, h1 = h.set a (.inr (ci, fs')) → am_w X d k (pc', ls, st, h1) Q) : am_w X d k (pc, ls, .int x :: .ref a :: st, h) Q := by
  refine wr_put hi hp hf hc ?_ hs kk
  rw [hty, hok]
  simp [narrow, fits]
theorem wr_putL {j ci f a : Nat} {fs fs' : List Value} {x : Int64} (hi : am_code k pc = some (.putfield j)) (hp : pc + 3 = pc') (hf : am_fld (am_own k) j = some (ci, f)) (hc : h[a]? = some (.inr (ci, fs))) (hty : am_fty ci f = .long) (hok : (decide (f < fs.length) && (!(am_fin ci f) || am_ctor k ci)) = true) (hs : fs.set f (.long x) = fs') (kk : ∀ h1 : am_H, h1 = h.set a (.inr (ci, fs')) → am_w X d k (pc', ls, st, h1) Q) : am_w X d k (pc, ls, .long x :: .ref a :: st, h) Q := by
  refine wr_put hi hp hf hc ?_ hs kk
  rw [hty, hok]
  simp [narrow, fits]
theorem wr_putR {j ci f a : Nat} {fs fs' : List Value} {x : Nat} {C : String} (hi : am_code k pc = some (.putfield j)) (hp : pc + 3 = pc') (hf : am_fld (am_own k) j = some (ci, f)) (hc : h[a]? = some (.inr (ci, fs))) (hty : am_fty ci f = .object C) (hok : (decide (f < fs.length) && (!(am_fin ci f) || am_ctor k ci)) = true) (hs : fs.set f (.ref x) = fs') (kk : ∀ h1 : am_H, h1 = h.set a (.inr (ci, fs')) → am_w X d k (pc', ls, st, h1) Q) : am_w X d k (pc, ls, .ref x :: .ref a :: st, h) Q := by
  refine wr_put hi hp hf hc ?_ hs kk
  rw [hty, hok]
  simp [narrow, fits]
theorem wr_putA {j ci f a : Nat} {fs fs' : List Value} {x : Nat} {C : FieldType} (hi : am_code k pc = some (.putfield j)) (hp : pc + 3 = pc') (hf : am_fld (am_own k) j = some (ci, f)) (hc : h[a]? = some (.inr (ci, fs))) (hty : am_fty ci f = .array C) (hok : (decide (f < fs.length) && (!(am_fin ci f) || am_ctor k ci)) = true) (hs : fs.set f (.ref x) = fs') (kk : ∀ h1 : am_H, h1 = h.set a (.inr (ci, fs')) → am_w X d k (pc', ls, st, h1) Q) : am_w X d k (pc, ls, .ref x :: .ref a :: st, h) Q := by
  refine wr_put hi hp hf hc ?_ hs kk
  rw [hty, hok]
  simp [narrow, fits]
theorem wr_putZ {j ci f a : Nat} {fs fs' : List Value} {x : Int32} (hi : am_code k pc = some (.putfield j)) (hp : pc + 3 = pc') (hf : am_fld (am_own k) j = some (ci, f)) (hc : h[a]? = some (.inr (ci, fs))) (hty : am_fty ci f = .boolean) (hok : (decide (f < fs.length) && (!(am_fin ci f) || am_ctor k ci)) = true) (hx : x = iI 0 ∨ x = iI 1) (hs : fs.set f (.int x) = fs') (kk : ∀ h1 : am_H, h1 = h.set a (.inr (ci, fs')) → am_w X d k (pc', ls, st, h1) Q) : am_w X d k (pc, ls, .int x :: .ref a :: st, h) Q := by
  refine wr_put hi hp hf hc ?_ hs kk
  rw [hty, hok]
  rcases hx with rfl | rfl <;> decide
theorem wr_iret {a : Int} (hi : am_code k pc = some .ireturn) (hr : am_ret k = some .int) (hq : Q (some (.int (iI a))) h) : am_w X d k (pc, ls, [.int (iI a)], h) Q := am_w.ret hi (by simp only [am_rt, hr, narrow, if_true]) hq
theorem wr_zret {a : Int} (hi : am_code k pc = some .ireturn) (hr : am_ret k = some .boolean) (ha : iI a &&& 1 = iI a) (hq : Q (some (.int (iI a))) h) : am_w X d k (pc, ls, [.int (iI a)], h) Q := am_w.ret hi (by simp only [am_rt, hr, narrow, ha, if_true]) hq
theorem wr_lret {a : Int} (hi : am_code k pc = some .lreturn) (hr : am_ret k = some .long) (hq : Q (some (.long (lI a))) h) : am_w X d k (pc, ls, [.long (lI a)], h) Q := am_w.ret hi (by simp only [am_rt, hr, if_true]) hq
theorem wr_vret (hi : am_code k pc = some .return_) (hr : am_ret k = none) (hq : Q none h) : am_w X d k (pc, ls, [], h) Q := am_w.ret hi (by simp only [am_rt, hr, if_true]) hq
theorem wr_aret {a : Nat} {C : String} (hi : am_code k pc = some .areturn) (hr : am_ret k = some (.object C)) (hq : Q (some (.ref a)) h) : am_w X d k (pc, ls, [.ref a], h) Q := am_w.ret hi (by simp only [am_rt, hr]) hq
theorem wr_cv0 {j k' : Nat} {a : Nat} {ci : Nat} {fs : List Value} {Q' : Option Value → am_H → Prop} (hi : am_code k pc = some (.invokevirtual j)) (hp : pc + 3 = pc') (hm : am_met (am_own k) j = some (1, k', 0)) (hmay : am_may k k' = true) (hc : h[a]? = some (.inr (ci, fs))) (hr : am_rcv k' = ci) (hlow : am_low st = true) (hC : am_c X d k' [.ref a] h Q') (kk : ∀ r h', Q' r h' → am_w X d k (pc', ls, r.toList ++ st, h') Q) : am_w X d k (pc, ls, .ref a :: st, h) Q := by
  subst hp
  subst hr
  refine am_w.call (k' := k') (as := [.ref a]) (pc' := pc + 3) (ls' := ls) (st' := st) (h0 := h) hi ?_ hC kk
  simp [am_cl, am_inv, hm, hmay, hlow, hc]
theorem wr_ci0 {j k' : Nat} {a : Nat} {Q' : Option Value → am_H → Prop} (hi : am_code k pc = some (.invokespecial j)) (hp : pc + 3 = pc') (hm : am_met (am_own k) j = some (2, k', 0)) (hmay : am_may k k' = true) (hlow : am_low st = true) (hC : am_c X d k' [.ref a] h Q') (kk : ∀ r h', Q' r h' → am_w X d k (pc', ls, r.toList ++ st, h') Q) : am_w X d k (pc, ls, .ref a :: st, h) Q := by
  subst hp
  refine am_w.call (k' := k') (as := [.ref a]) (pc' := pc + 3) (ls' := ls) (st' := st) (h0 := h) hi ?_ hC kk
  simp [am_cl, am_inv, hm, hmay, hlow]
theorem wr_cs0 {j k' : Nat} {Q' : Option Value → am_H → Prop} (hi : am_code k pc = some (.invokestatic j)) (hp : pc + 3 = pc') (hm : am_met (am_own k) j = some (0, k', 0)) (hmay : am_may k k' = true) (hlow : am_low st = true) (hC : am_c X d k' [] h Q') (kk : ∀ r h', Q' r h' → am_w X d k (pc', ls, r.toList ++ st, h') Q) : am_w X d k (pc, ls, st, h) Q := by
  subst hp
  refine am_w.call (k' := k') (as := []) (pc' := pc + 3) (ls' := ls) (st' := st) (h0 := h) hi ?_ hC kk
  simp [am_cl, am_inv, hm, hmay, hlow]
theorem wr_cv1 {j k' : Nat} {a : Nat} {ci : Nat} {fs : List Value} {v1 : Value} {Q' : Option Value → am_H → Prop} (hi : am_code k pc = some (.invokevirtual j)) (hp : pc + 3 = pc') (hm : am_met (am_own k) j = some (1, k', 1)) (hmay : am_may k k' = true) (hc : h[a]? = some (.inr (ci, fs))) (hr : am_rcv k' = ci) (hlow : am_low st = true) (hC : am_c X d k' [.ref a, v1] h Q') (kk : ∀ r h', Q' r h' → am_w X d k (pc', ls, r.toList ++ st, h') Q) : am_w X d k (pc, ls, v1 :: .ref a :: st, h) Q := by
  subst hp
  subst hr
  refine am_w.call (k' := k') (as := [.ref a, v1]) (pc' := pc + 3) (ls' := ls) (st' := st) (h0 := h) hi ?_ hC kk
  simp [am_cl, am_inv, hm, hmay, hlow, hc]
theorem wr_ci1 {j k' : Nat} {a : Nat} {v1 : Value} {Q' : Option Value → am_H → Prop} (hi : am_code k pc = some (.invokespecial j)) (hp : pc + 3 = pc') (hm : am_met (am_own k) j = some (2, k', 1)) (hmay : am_may k k' = true) (hlow : am_low st = true) (hC : am_c X d k' [.ref a, v1] h Q') (kk : ∀ r h', Q' r h' → am_w X d k (pc', ls, r.toList ++ st, h') Q) : am_w X d k (pc, ls, v1 :: .ref a :: st, h) Q := by
  subst hp
  refine am_w.call (k' := k') (as := [.ref a, v1]) (pc' := pc + 3) (ls' := ls) (st' := st) (h0 := h) hi ?_ hC kk
  simp [am_cl, am_inv, hm, hmay, hlow]
theorem wr_cs1 {j k' : Nat} {v1 : Value} {Q' : Option Value → am_H → Prop} (hi : am_code k pc = some (.invokestatic j)) (hp : pc + 3 = pc') (hm : am_met (am_own k) j = some (0, k', 1)) (hmay : am_may k k' = true) (hlow : am_low st = true) (hC : am_c X d k' [v1] h Q') (kk : ∀ r h', Q' r h' → am_w X d k (pc', ls, r.toList ++ st, h') Q) : am_w X d k (pc, ls, v1 :: st, h) Q := by
  subst hp
  refine am_w.call (k' := k') (as := [v1]) (pc' := pc + 3) (ls' := ls) (st' := st) (h0 := h) hi ?_ hC kk
  simp [am_cl, am_inv, hm, hmay, hlow]
theorem wr_cv2 {j k' : Nat} {a : Nat} {ci : Nat} {fs : List Value} {v1 v2 : Value} {Q' : Option Value → am_H → Prop} (hi : am_code k pc = some (.invokevirtual j)) (hp : pc + 3 = pc') (hm : am_met (am_own k) j = some (1, k', 2)) (hmay : am_may k k' = true) (hc : h[a]? = some (.inr (ci, fs))) (hr : am_rcv k' = ci) (hlow : am_low st = true) (hC : am_c X d k' [.ref a, v1, v2] h Q') (kk : ∀ r h', Q' r h' → am_w X d k (pc', ls, r.toList ++ st, h') Q) : am_w X d k (pc, ls, v2 :: v1 :: .ref a :: st, h) Q := by
  subst hp
  subst hr
  refine am_w.call (k' := k') (as := [.ref a, v1, v2]) (pc' := pc + 3) (ls' := ls) (st' := st) (h0 := h) hi ?_ hC kk
  simp [am_cl, am_inv, hm, hmay, hlow, hc]
theorem wr_ci2 {j k' : Nat} {a : Nat} {v1 v2 : Value} {Q' : Option Value → am_H → Prop} (hi : am_code k pc = some (.invokespecial j)) (hp : pc + 3 = pc') (hm : am_met (am_own k) j = some (2, k', 2)) (hmay : am_may k k' = true) (hlow : am_low st = true) (hC : am_c X d k' [.ref a, v1, v2] h Q') (kk : ∀ r h', Q' r h' → am_w X d k (pc', ls, r.toList ++ st, h') Q) : am_w X d k (pc, ls, v2 :: v1 :: .ref a :: st, h) Q := by
  subst hp
  refine am_w.call (k' := k') (as := [.ref a, v1, v2]) (pc' := pc + 3) (ls' := ls) (st' := st) (h0 := h) hi ?_ hC kk
  simp [am_cl, am_inv, hm, hmay, hlow]
theorem wr_cs2 {j k' : Nat} {v1 v2 : Value} {Q' : Option Value → am_H → Prop} (hi : am_code k pc = some (.invokestatic j)) (hp : pc + 3 = pc') (hm : am_met (am_own k) j = some (0, k', 2)) (hmay : am_may k k' = true) (hlow : am_low st = true) (hC : am_c X d k' [v1, v2] h Q') (kk : ∀ r h', Q' r h' → am_w X d k (pc', ls, r.toList ++ st, h') Q) : am_w X d k (pc, ls, v2 :: v1 :: st, h) Q := by
  subst hp
  refine am_w.call (k' := k') (as := [v1, v2]) (pc' := pc + 3) (ls' := ls) (st' := st) (h0 := h) hi ?_ hC kk
  simp [am_cl, am_inv, hm, hmay, hlow]
theorem wr_cv3 {j k' : Nat} {a : Nat} {ci : Nat} {fs : List Value} {v1 v2 v3 : Value} {Q' : Option Value → am_H → Prop} (hi : am_code k pc = some (.invokevirtual j)) (hp : pc + 3 = pc') (hm : am_met (am_own k) j = some (1, k', 3)) (hmay : am_may k k' = true) (hc : h[a]? = some (.inr (ci, fs))) (hr : am_rcv k' = ci) (hlow : am_low st = true) (hC : am_c X d k' [.ref a, v1, v2, v3] h Q') (kk : ∀ r h', Q' r h' → am_w X d k (pc', ls, r.toList ++ st, h') Q) : am_w X d k (pc, ls, v3 :: v2 :: v1 :: .ref a :: st, h) Q := by
  subst hp
  subst hr
  refine am_w.call (k' := k') (as := [.ref a, v1, v2, v3]) (pc' := pc + 3) (ls' := ls) (st' := st) (h0 := h) hi ?_ hC kk
  simp [am_cl, am_inv, hm, hmay, hlow, hc]
theorem wr_ci3 {j k' : Nat} {a : Nat} {v1 v2 v3 : Value} {Q' : Option Value → am_H → Prop} (hi : am_code k pc = some (.invokespecial j)) (hp : pc + 3 = pc') (hm : am_met (am_own k) j = some (2, k', 3)) (hmay : am_may k k' = true) (hlow : am_low st = true) (hC : am_c X d k' [.ref a, v1, v2, v3] h Q') (kk : ∀ r h', Q' r h' → am_w X d k (pc', ls, r.toList ++ st, h') Q) : am_w X d k (pc, ls, v3 :: v2 :: v1 :: .ref a :: st, h) Q := by
  subst hp
  refine am_w.call (k' := k') (as := [.ref a, v1, v2, v3]) (pc' := pc + 3) (ls' := ls) (st' := st) (h0 := h) hi ?_ hC kk
  simp [am_cl, am_inv, hm, hmay, hlow]
theorem wr_cs3 {j k' : Nat} {v1 v2 v3 : Value} {Q' : Option Value → am_H → Prop} (hi : am_code k pc = some (.invokestatic j)) (hp : pc + 3 = pc') (hm : am_met (am_own k) j = some (0, k', 3)) (hmay : am_may k k' = true) (hlow : am_low st = true) (hC : am_c X d k' [v1, v2, v3] h Q') (kk : ∀ r h', Q' r h' → am_w X d k (pc', ls, r.toList ++ st, h') Q) : am_w X d k (pc, ls, v3 :: v2 :: v1 :: st, h) Q := by
  subst hp
  refine am_w.call (k' := k') (as := [v1, v2, v3]) (pc' := pc + 3) (ls' := ls) (st' := st) (h0 := h) hi ?_ hC kk
  simp [am_cl, am_inv, hm, hmay, hlow]
theorem wr_cv4 {j k' : Nat} {a : Nat} {ci : Nat} {fs : List Value} {v1 v2 v3 v4 : Value} {Q' : Option Value → am_H → Prop} (hi : am_code k pc = some (.invokevirtual j)) (hp : pc + 3 = pc') (hm : am_met (am_own k) j = some (1, k', 4)) (hmay : am_may k k' = true) (hc : h[a]? = some (.inr (ci, fs))) (hr : am_rcv k' = ci) (hlow : am_low st = true) (hC : am_c X d k' [.ref a, v1, v2, v3, v4] h Q') (kk : ∀ r h', Q' r h' → am_w X d k (pc', ls, r.toList ++ st, h') Q) : am_w X d k (pc, ls, v4 :: v3 :: v2 :: v1 :: .ref a :: st, h) Q := by
  subst hp
  subst hr
  refine am_w.call (k' := k') (as := [.ref a, v1, v2, v3, v4]) (pc' := pc + 3) (ls' := ls) (st' := st) (h0 := h) hi ?_ hC kk
  simp [am_cl, am_inv, hm, hmay, hlow, hc]
theorem wr_ci4 {j k' : Nat} {a : Nat} {v1 v2 v3 v4 : Value} {Q' : Option Value → am_H → Prop} (hi : am_code k pc = some (.invokespecial j)) (hp : pc + 3 = pc') (hm : am_met (am_own k) j = some (2, k', 4)) (hmay : am_may k k' = true) (hlow : am_low st = true) (hC : am_c X d k' [.ref a, v1, v2, v3, v4] h Q') (kk : ∀ r h', Q' r h' → am_w X d k (pc', ls, r.toList ++ st, h') Q) : am_w X d k (pc, ls, v4 :: v3 :: v2 :: v1 :: .ref a :: st, h) Q := by
  subst hp
  refine am_w.call (k' := k') (as := [.ref a, v1, v2, v3, v4]) (pc' := pc + 3) (ls' := ls) (st' := st) (h0 := h) hi ?_ hC kk
  simp [am_cl, am_inv, hm, hmay, hlow]
theorem wr_cs4 {j k' : Nat} {v1 v2 v3 v4 : Value} {Q' : Option Value → am_H → Prop} (hi : am_code k pc = some (.invokestatic j)) (hp : pc + 3 = pc') (hm : am_met (am_own k) j = some (0, k', 4)) (hmay : am_may k k' = true) (hlow : am_low st = true) (hC : am_c X d k' [v1, v2, v3, v4] h Q') (kk : ∀ r h', Q' r h' → am_w X d k (pc', ls, r.toList ++ st, h') Q) : am_w X d k (pc, ls, v4 :: v3 :: v2 :: v1 :: st, h) Q := by
  subst hp
  refine am_w.call (k' := k') (as := [v1, v2, v3, v4]) (pc' := pc + 3) (ls' := ls) (st' := st) (h0 := h) hi ?_ hC kk
  simp [am_cl, am_inv, hm, hmay, hlow]
theorem wr_cv5 {j k' : Nat} {a : Nat} {ci : Nat} {fs : List Value} {v1 v2 v3 v4 v5 : Value} {Q' : Option Value → am_H → Prop} (hi : am_code k pc = some (.invokevirtual j)) (hp : pc + 3 = pc') (hm : am_met (am_own k) j = some (1, k', 5)) (hmay : am_may k k' = true) (hc : h[a]? = some (.inr (ci, fs))) (hr : am_rcv k' = ci) (hlow : am_low st = true) (hC : am_c X d k' [.ref a, v1, v2, v3, v4, v5] h Q') (kk : ∀ r h', Q' r h' → am_w X d k (pc', ls, r.toList ++ st, h') Q) : am_w X d k (pc, ls, v5 :: v4 :: v3 :: v2 :: v1 :: .ref a :: st, h) Q := by
  subst hp
  subst hr
  refine am_w.call (k' := k') (as := [.ref a, v1, v2, v3, v4, v5]) (pc' := pc + 3) (ls' := ls) (st' := st) (h0 := h) hi ?_ hC kk
  simp [am_cl, am_inv, hm, hmay, hlow, hc]
theorem wr_ci5 {j k' : Nat} {a : Nat} {v1 v2 v3 v4 v5 : Value} {Q' : Option Value → am_H → Prop} (hi : am_code k pc = some (.invokespecial j)) (hp : pc + 3 = pc') (hm : am_met (am_own k) j = some (2, k', 5)) (hmay : am_may k k' = true) (hlow : am_low st = true) (hC : am_c X d k' [.ref a, v1, v2, v3, v4, v5] h Q') (kk : ∀ r h', Q' r h' → am_w X d k (pc', ls, r.toList ++ st, h') Q) : am_w X d k (pc, ls, v5 :: v4 :: v3 :: v2 :: v1 :: .ref a :: st, h) Q := by
  subst hp
  refine am_w.call (k' := k') (as := [.ref a, v1, v2, v3, v4, v5]) (pc' := pc + 3) (ls' := ls) (st' := st) (h0 := h) hi ?_ hC kk
  simp [am_cl, am_inv, hm, hmay, hlow]
theorem wr_cs5 {j k' : Nat} {v1 v2 v3 v4 v5 : Value} {Q' : Option Value → am_H → Prop} (hi : am_code k pc = some (.invokestatic j)) (hp : pc + 3 = pc') (hm : am_met (am_own k) j = some (0, k', 5)) (hmay : am_may k k' = true) (hlow : am_low st = true) (hC : am_c X d k' [v1, v2, v3, v4, v5] h Q') (kk : ∀ r h', Q' r h' → am_w X d k (pc', ls, r.toList ++ st, h') Q) : am_w X d k (pc, ls, v5 :: v4 :: v3 :: v2 :: v1 :: st, h) Q := by
  subst hp
  refine am_w.call (k' := k') (as := [v1, v2, v3, v4, v5]) (pc' := pc + 3) (ls' := ls) (st' := st) (h0 := h) hi ?_ hC kk
  simp [am_cl, am_inv, hm, hmay, hlow]
theorem wr_oinit {j a x y : Nat} (hi : am_code k pc = some (.invokespecial j)) (hp : pc + 3 = pc') (hm : am_met (am_own k) j = some (3, x, y)) (hlow : (am_low st && Nat.ble 1 (am_fr k) && Nat.ble 20 (am_lc k)) = true) (kk : am_w X d k (pc', ls, st, h) Q) : am_w X d k (pc, ls, .ref a :: st, h) Q := by
  subst hp
  refine am_w.go (σ' := (pc + 3, ls, st, h)) hi ?_ kk
  simp only [am_do, am_dp, hm, am_r1]
  rw [if_pos hlow]
  rfl
theorem wr_mmax {j y : Nat} {a b : Int} (hi : am_code k pc = some (.invokestatic j)) (hp : pc + 3 = pc') (hm : am_met (am_own k) j = some (4, 0, y)) (hlow : (am_low st && Nat.ble 1 (am_fr k) && Nat.ble 21 (am_lc k)) = true) (ha : -2147483648 ≤ a ∧ a ≤ 2147483647) (hb : -2147483648 ≤ b ∧ b ≤ 2147483647) (kk : am_w X d k (pc', ls, .int (iI (max a b)) :: st, h) Q) : am_w X d k (pc, ls, .int (iI b) :: .int (iI a) :: st, h) Q := by
  subst hp
  refine am_w.go (σ' := (pc + 3, ls, .int (if iI a < iI b then iI b else iI a) :: st, h)) hi ?_ ?_
  · simp only [am_do, am_dp, hm, am_math, am_i2]
    rw [if_pos hlow]
    rfl
  · rw [iI_max ha hb]
    exact kk
theorem wr_mmin {j y : Nat} {a b : Int} (hi : am_code k pc = some (.invokestatic j)) (hp : pc + 3 = pc') (hm : am_met (am_own k) j = some (4, 1, y)) (hlow : (am_low st && Nat.ble 1 (am_fr k) && Nat.ble 21 (am_lc k)) = true) (ha : -2147483648 ≤ a ∧ a ≤ 2147483647) (hb : -2147483648 ≤ b ∧ b ≤ 2147483647) (kk : am_w X d k (pc', ls, .int (iI (min a b)) :: st, h) Q) : am_w X d k (pc, ls, .int (iI b) :: .int (iI a) :: st, h) Q := by
  subst hp
  refine am_w.go (σ' := (pc + 3, ls, .int (if iI b < iI a then iI b else iI a) :: st, h)) hi ?_ ?_
  · simp only [am_do, am_dp, hm, am_math, am_i2]
    rw [if_pos hlow]
    rfl
  · rw [iI_min ha hb]
    exact kk
theorem wr_mabs {j y : Nat} {a b : Int} (hi : am_code k pc = some (.invokestatic j)) (hp : pc + 3 = pc') (hm : am_met (am_own k) j = some (4, 5, y)) (hlow : (am_low st && Nat.ble 1 (am_fr k) && Nat.ble 21 (am_lc k)) = true) (ha : -9223372036854775807 ≤ a ∧ a ≤ 9223372036854775807) (kk : am_w X d k (pc', ls, .long (lI (a.natAbs)) :: st, h) Q) : am_w X d k (pc, ls, .long (lI a) :: st, h) Q := by
  subst hp
  refine am_w.go (σ' := (pc + 3, ls, .long (if 0 < lI a then lI a else -lI a) :: st, h)) hi ?_ ?_
  · simp only [am_do, am_dp, hm, am_math, am_l1]
    rw [if_pos hlow]
    rfl
  · rw [lI_abs ha]
    exact kk
theorem wr_new {j ci : Nat} (hi : am_code k pc = some (.new j)) (hp : pc + 3 = pc') (hn : am_newc (am_own k) j = some ci) (kk : am_w X d k (pc', ls, .ref h.length :: st, h ++ [.inr (ci, am_dfl ci)]) Q) : am_w X d k (pc, ls, st, h) Q := by
  subst hp
  exact am_w.go hi (by simp only [am_do, am_dp, hn]; rfl) kk
theorem wr_newi {n : Nat} (hi : am_code k pc = some (.newarray .int)) (hp : pc + 2 = pc') (hn : n ≤ 1000000) (kk : am_w X d k (pc', ls, .ref h.length :: st, h ++ [am_ia n fun _ => 0]) Q) : am_w X d k (pc, ls, .int (iI n) :: st, h) Q := by
  subst hp
  have h1 : (iI (n : Int)).toNatClampNeg = n := by rw [iI_clamp (by omega)]; simp
  have h2 : (decide (iI (n : Int) < 0) || decide (1000000 < (iI (n : Int)).toNatClampNeg)) = false := by
    rw [Bool.or_eq_false_iff, h1]
    exact ⟨decide_eq_false (by rw [← iI_0, iI_lt (by omega) (by omega)]; omega), decide_eq_false (by omega)⟩
  refine am_w.go (σ' := (pc + 2, ls, .ref h.length :: st, h ++ [am_ia n fun _ => 0])) hi ?_ kk
  rw [h1] at h2
  simp only [am_do, am_dp, am_newa, h1, h2]
  rfl
theorem wr_newl {n : Nat} (hi : am_code k pc = some (.newarray .long)) (hp : pc + 2 = pc') (hn : n ≤ 1000000) (kk : am_w X d k (pc', ls, .ref h.length :: st, h ++ [am_la n fun _ => 0]) Q) : am_w X d k (pc, ls, .int (iI n) :: st, h) Q := by
  subst hp
  have h1 : (iI (n : Int)).toNatClampNeg = n := by rw [iI_clamp (by omega)]; simp
  have h2 : (decide (iI (n : Int) < 0) || decide (1000000 < (iI (n : Int)).toNatClampNeg)) = false := by
    rw [Bool.or_eq_false_iff, h1]
    exact ⟨decide_eq_false (by rw [← iI_0, iI_lt (by omega) (by omega)]; omega), decide_eq_false (by omega)⟩
  refine am_w.go (σ' := (pc + 2, ls, .ref h.length :: st, h ++ [am_la n fun _ => 0])) hi ?_ kk
  rw [h1] at h2
  simp only [am_do, am_dp, am_newa, h1, h2]
  rfl
theorem wr_newz {n : Nat} (hi : am_code k pc = some (.newarray .boolean)) (hp : pc + 2 = pc') (hn : n ≤ 1000000) (kk : am_w X d k (pc', ls, .ref h.length :: st, h ++ [am_za n fun _ => 0]) Q) : am_w X d k (pc, ls, .int (iI n) :: st, h) Q := by
  subst hp
  have h1 : (iI (n : Int)).toNatClampNeg = n := by rw [iI_clamp (by omega)]; simp
  have h2 : (decide (iI (n : Int) < 0) || decide (1000000 < (iI (n : Int)).toNatClampNeg)) = false := by
    rw [Bool.or_eq_false_iff, h1]
    exact ⟨decide_eq_false (by rw [← iI_0, iI_lt (by omega) (by omega)]; omega), decide_eq_false (by omega)⟩
  refine am_w.go (σ' := (pc + 2, ls, .ref h.length :: st, h ++ [am_za n fun _ => 0])) hi ?_ kk
  rw [h1] at h2
  simp only [am_do, am_dp, am_newa, h1, h2]
  rfl
end AMRW
end
section
/-! WHOLE NUMBERS OF THE CLASS: limbs of nine digits, the lowest first (from wip/whole/50.whole.tmpl by tools/walk.py) -/
def nv (g : Nat → Int) : Nat → Int
  | 0 => 0
  | n + 1 => nv g n + g n * 1000000000 ^ n
theorem nv_congr {g g' : Nat → Int} : ∀ {n : Nat}, (∀ i, i < n → g' i = g i) → nv g' n = nv g n
  | 0, _ => rfl
  | n + 1, h => by
    show nv g' n + g' n * _ = nv g n + g n * _
    rw [nv_congr (n := n) (fun i hi => h i (by omega)), h n (by omega)]
theorem nv_upd (g : Nat → Int) (n : Nat) (x : Int) : nv (updI g n x) (n + 1) = nv g n + x * 1000000000 ^ n := by
  show nv (updI g n x) n + updI g n x n * _ = _
  rw [updI_s, nv_congr (fun i hi => updI_n (by omega))]
theorem bp_pos (n : Nat) : (0 : Int) < 1000000000 ^ n := Int.pow_pos (by decide)
theorem nv_nonneg {g : Nat → Int} : ∀ {n : Nat}, (∀ i, i < n → 0 ≤ g i ∧ g i < 1000000000) → 0 ≤ nv g n ∧ nv g n < 1000000000 ^ n
  | 0, _ => ⟨Int.le_refl _, by show (0 : Int) < 1; decide⟩
  | n + 1, h => by
    obtain ⟨h1, h2⟩ := nv_nonneg (n := n) (fun i hi => h i (by omega))
    obtain ⟨h3, h4⟩ := h n (by omega)
    have hp := bp_pos n
    show 0 ≤ nv g n + g n * _ ∧ nv g n + g n * _ < _
    rw [Int.pow_succ]
    have h5 : 0 ≤ g n * 1000000000 ^ n := Int.mul_nonneg h3 (by omega)
    have h6 : g n * 1000000000 ^ n ≤ 999999999 * 1000000000 ^ n := Int.mul_le_mul_of_nonneg_right (by omega) (by omega)
    omega
/-- n limbs below the base, the highest not 0 -/
def nok (g : Nat → Int) (n : Nat) : Prop := (∀ i, i < n → 0 ≤ g i ∧ g i < 1000000000) ∧ (0 < n → g (n - 1) ≠ 0)
abbrev cWh : Nat := 5
theorem am_set_s {h : am_H} {a : Nat} {c c' : va_E} (hc : h[a]? = some c') : (h.set a c)[a]? = some c := by
  have hl := (List.getElem?_eq_some_iff.mp hc).1
  simp [hl]
theorem am_set_n {h : am_H} {a b : Nat} {c : va_E} (hne : a ≠ b) : (h.set a c)[b]? = h[b]? := List.getElem?_set_ne hne
theorem am_set_id {h : am_H} {a : Nat} {c : va_E} (hc : h[a]? = some c) : h.set a c = h := by
  apply List.ext_getElem?
  intro i
  by_cases e : a = i
  · subst e
    rw [am_set_s hc, hc]
  · rw [am_set_n e]
theorem am_oa {h : am_H} {a b ci : Nat} {fs : List Value} {y : ClassId × vp_A} (ha : h[a]? = some (.inr (ci, fs))) (hb : h[b]? = some (.inl y)) : a ≠ b := by
  intro e
  subst e
  rw [ha] at hb
  cases hb
/-- nothing but the cells S has changed, none was made -/
def fr (S : List Nat) (h h' : am_H) : Prop := h'.length = h.length ∧ ∀ i, i ∉ S → h'[i]? = h[i]?
theorem fr_rf (S : List Nat) (h : am_H) : fr S h h := ⟨rfl, fun _ _ => rfl⟩
theorem fr_tr {S T U : List Nat} {h h1 h2 : am_H} (a : fr S h h1) (b : fr T h1 h2) (hS : ∀ i ∈ S, i ∈ U) (hT : ∀ i ∈ T, i ∈ U) : fr U h h2 :=
  ⟨b.1.trans a.1, fun i hi => (b.2 i (fun q => hi (hT i q))).trans (a.2 i (fun q => hi (hS i q)))⟩
theorem fr_wk {S U : List Nat} {h h1 : am_H} (a : fr S h h1) (hS : ∀ i ∈ S, i ∈ U) : fr U h h1 := ⟨a.1, fun i hi => a.2 i (fun q => hi (hS i q))⟩
theorem fr_set2 {h : am_H} {a b : Nat} {c e : va_E} : fr [b, a] h ((h.set a c).set b e) := by
  refine ⟨by simp, fun i hi => ?_⟩
  simp only [List.mem_cons, List.not_mem_nil, or_false, not_or] at hi
  rw [am_set_n (fun q => hi.1 q.symm), am_set_n (fun q => hi.2 q.symm)]
/-- the cells t (an object) and l (its limbs, cap of them) hold the number v -/
def isW (h : am_H) (t l cap : Nat) (v : Int) : Prop := ∃ (g : Nat → Int) (n : Nat), h[t]? = some (.inr (cWh, [.ref l, .int (iI n)])) ∧ h[l]? = some (am_la cap g) ∧ n ≤ cap ∧ nok g n ∧ nv g n = v
theorem isW.kept {h h' : am_H} {t l cap : Nat} {v : Int} {S : List Nat} (w : isW h t l cap v) (f : fr S h h') (h1 : t ∉ S) (h2 : l ∉ S) : isW h' t l cap v := by
  obtain ⟨g, n, a, b, c⟩ := w
  exact ⟨g, n, by rw [f.2 t h1]; exact a, by rw [f.2 l h2]; exact b, c⟩
theorem isW.mk2 {h : am_H} {t l cap n : Nat} {c0 c1 : va_E} {g : Nat → Int} (ht : h[t]? = some c0) (hl : h[l]? = some c1) (hne : l ≠ t) (hn : n ≤ cap) (hk : nok g n) : isW ((h.set l (am_la cap g)).set t (.inr (cWh, [.ref l, .int (iI n)]))) t l cap (nv g n) :=
  ⟨g, n, am_set_s (c' := c0) (by rw [am_set_n hne]; exact ht), by rw [am_set_n (Ne.symm hne)]; exact am_set_s hl, hn, hk, rfl⟩
section WHP
variable {X : Nat × (Nat → Int32)}
theorem wp_put_loop {d t l cap : Nat} {h0 : am_H} {n0 v : Int} {g0 : Nat → Int} {Q : Option Value → am_H → Prop} (ht : h0[t]? = some (.inr (cWh, [.ref l, .int (iI n0)]))) (hl : h0[l]? = some (am_la cap g0)) (hcap : cap ≤ 1000000)
    (K : ∀ (g : Nat → Int) (n : Nat) (r : Int), n ≤ cap → 0 ≤ r → (r = 0 ∨ n = cap) → nv g n + r * 1000000000 ^ n = v → (∀ j, j < n → 0 ≤ g j ∧ g j < 1000000000) → (r = 0 → nok g n) → Q none ((h0.set l (am_la cap g)).set t (.inr (cWh, [.ref l, .int (iI n)])))) :
    ∀ (m i : Nat) (g : Nat → Int) (r : Int), i + m = cap → 0 ≤ r → r ≤ 9223372036854775807 → nv g i + r * 1000000000 ^ i = v → (∀ j, j < i → 0 ≤ g j ∧ g j < 1000000000) → (0 < i → g (i - 1) = 0 → 0 < r) → am_w X d 10 (8, [.ref t, .long (lI v), am_U, .long (lI r), am_U, .int (iI i), .int (iI i)], [], h0.set l (am_la cap g)) Q := by
  have hne : l ≠ t := fun e => am_oa ht hl e.symm
  intro m
  induction m with
  | zero =>
    intro i g r hm hr hr2 hv hg hz
    have c_t : (h0.set l (am_la cap g))[t]? = some (.inr (cWh, [.ref l, .int (iI n0)])) := by rw [am_set_n hne]; exact ht
    have c_l : (h0.set l (am_la cap g))[l]? = some (am_la cap g) := am_set_s hl
    refine wr_iload rfl rfl rfl ?_
    refine wr_aload_n rfl rfl rfl ?_
    refine wr_get (ci := 5) (f := 0) rfl rfl rfl (by assumption) rfl ?_
    refine wr_alen rfl rfl (by assumption) (by decide) ?_
    refine wr_icmp_ge rfl rfl rfl (by omega) (by omega) (fun c15 => ?_) (fun c15 => ?_)
    ·
      refine wr_aload_n rfl rfl rfl ?_
      refine wr_iload rfl rfl rfl ?_
      refine wr_putI (ci := 5) (f := 1) (fs' := [_, _]) rfl rfl rfl (by assumption) rfl rfl rfl (fun h1 e1 => ?_)
      refine wr_vret rfl rfl ?_
      rw [e1]
      exact K g i r (by omega) hr (Or.inr (by omega)) hv hg (fun e0 => ⟨hg, fun q1 q2 => by have := hz q1 q2; omega⟩)
    · exfalso; omega
  | succ m ih =>
    intro i g r hm hr hr2 hv hg hz
    have c_t : (h0.set l (am_la cap g))[t]? = some (.inr (cWh, [.ref l, .int (iI n0)])) := by rw [am_set_n hne]; exact ht
    have c_l : (h0.set l (am_la cap g))[l]? = some (am_la cap g) := am_set_s hl
    refine wr_iload rfl rfl rfl ?_
    refine wr_aload_n rfl rfl rfl ?_
    refine wr_get (ci := 5) (f := 0) rfl rfl rfl (by assumption) rfl ?_
    refine wr_alen rfl rfl (by assumption) (by decide) ?_
    refine wr_icmp_ge rfl rfl rfl (by omega) (by omega) (fun c15 => ?_) (fun c15 => ?_)
    · exfalso; omega
    ·
      refine wr_lload_n rfl rfl rfl ?_
      refine wr_lconst (z := 0) rfl rfl rfl ?_
      refine wr_l_le rfl rfl rfl rfl rfl (by omega) (by omega) (fun c20 => ?_) (fun c20 => ?_)
      ·
        refine wr_aload_n rfl rfl rfl ?_
        refine wr_iload rfl rfl rfl ?_
        refine wr_putI (ci := 5) (f := 1) (fs' := [_, _]) rfl rfl rfl (by assumption) rfl rfl rfl (fun h1 e1 => ?_)
        refine wr_vret rfl rfl ?_
        rw [e1]
        exact K g i r (by omega) hr (Or.inl (by omega)) hv hg (fun e0 => ⟨hg, fun q1 q2 => by have := hz q1 q2; omega⟩)
      ·
        refine wr_aload_n rfl rfl rfl ?_
        refine wr_get (ci := 5) (f := 0) rfl rfl rfl (by assumption) rfl ?_
        refine wr_iload rfl rfl rfl ?_
        refine wr_lload_n rfl rfl rfl ?_
        refine wr_ldc2 (z := 1000000000) rfl rfl rfl (by decide) ?_
        refine wr_lremN rfl rfl (by omega) (by omega) (by omega) (by omega) ?_
        refine wr_last rfl rfl (by assumption) (by omega) (by omega) (fun h1 e1 => ?_)
        rw [List.set_set, Int.toNat_natCast] at e1
        subst e1
        refine wr_lload_n rfl rfl rfl ?_
        refine wr_ldc2 (z := 1000000000) rfl rfl rfl (by decide) ?_
        refine wr_ldivN rfl rfl (by omega) (by omega) (by omega) (by omega) ?_
        refine wr_lstore_n (ls' := [_, _, _, _, _, _, _]) rfl rfl (Nat.le_of_ble_eq_true rfl) rfl ?_
        refine wr_iload rfl rfl rfl ?_
        refine wr_iconst rfl rfl ?_
        refine wr_iadd rfl rfl ?_
        refine wr_istore (ls' := [_, _, _, _, _, _, _]) rfl rfl (Nat.le_of_ble_eq_true rfl) rfl ?_
        refine wr_iinc (ls' := [_, _, _, _, _, _, _]) rfl rfl rfl rfl ?_
        refine wr_goto rfl rfl ?_
        have e2 : r = 1000000000 * (r / 1000000000) + r % 1000000000 := (Int.mul_ediv_add_emod r 1000000000).symm
        rw [show (i : Int) + 1 = ((i + 1 : Nat) : Int) by omega]
        refine ih (i + 1) (updI g i (r % 1000000000)) (r / 1000000000) (by omega) (by omega) (by omega) ?_ ?_ ?_
        · rw [nv_upd, ← hv, Int.pow_succ]
          generalize (1000000000 : Int) ^ i = p
          generalize r / 1000000000 = q at e2 ⊢
          generalize r % 1000000000 = s at e2 ⊢
          subst e2
          grind
        · intro j hj
          by_cases e : j = i
          · subst e
            rw [updI_s]
            omega
          · rw [updI_n e]
            exact hg j (by omega)
        · intro _ hq
          rw [show i + 1 - 1 = i by omega, updI_s] at hq
          omega
theorem wp_put {d t l cap : Nat} {h : am_H} {n0 v : Int} {g0 : Nat → Int} (ht : h[t]? = some (.inr (cWh, [.ref l, .int (iI n0)]))) (hl : h[l]? = some (am_la cap g0)) (hcap : cap ≤ 1000000) (hv : 0 ≤ v ∧ v ≤ 9223372036854775807) (hfit : v < 1000000000 ^ cap) :
    am_c X (d + 1) 10 [.ref t, .long (lI v)] h (fun r h' => r = none ∧ isW h' t l cap v ∧ fr [t, l] h h') := by
  have hne : l ≠ t := fun e => am_oa ht hl e.symm
  refine am_c.of (Nat.le_of_ble_eq_true rfl) ?_
  show am_w _ _ _ (_, [_, _, _, _, _, _, _], _, _) _
  refine wr_lload_n rfl rfl rfl ?_
  refine wr_lstore_n (ls' := [_, _, _, _, _, _, _]) rfl rfl (Nat.le_of_ble_eq_true rfl) rfl ?_
  refine wr_iconst rfl rfl ?_
  refine wr_istore (ls' := [_, _, _, _, _, _, _]) rfl rfl (Nat.le_of_ble_eq_true rfl) rfl ?_
  refine wr_iconst rfl rfl ?_
  refine wr_istore (ls' := [_, _, _, _, _, _, _]) rfl rfl (Nat.le_of_ble_eq_true rfl) rfl ?_
  have hw := wp_put_loop (X := X) (d := d) (v := v) (Q := fun r h' => r = none ∧ isW h' t l cap v ∧ fr [t, l] h h') ht hl hcap ?_ cap 0 g0 v (by omega) hv.1 hv.2 (by show 0 + v * 1 = v; omega) (fun j hj => by omega) (fun q => by omega)
  · rw [am_set_id hl] at hw
    exact hw
  · intro g n r hn hr hc he hg hk
    have h0 : r = 0 := by
      rcases hc with q | q
      · exact q
      · subst q
        rcases Int.lt_or_le 0 r with q | q
        · have h1 := (nv_nonneg hg).1
          have h2 : 1 * 1000000000 ^ n ≤ r * 1000000000 ^ n := Int.mul_le_mul_of_nonneg_right (by omega) (by have := bp_pos n; omega)
          omega
        · omega
    subst h0
    have e1 : nv g n = v := by omega
    refine ⟨rfl, ?_, fr_set2⟩
    rw [← e1]
    exact isW.mk2 ht hl hne hn (hk rfl)
end WHP
end
section
/-! WHOLE NUMBERS OF THE CLASS: copy, eighteen, compare -/
theorem nv_low {g : Nat → Int} {n : Nat} (h : nok g n) (hn : 0 < n) : 1000000000 ^ (n - 1) ≤ nv g n := by
  obtain ⟨m, rfl⟩ : ∃ m, n = m + 1 := ⟨n - 1, by omega⟩
  have h1 := nv_nonneg (g := g) (n := m) (fun i hi => h.1 i (by omega))
  have h2 := h.2 hn
  have h3 := h.1 m (by omega)
  rw [show m + 1 - 1 = m by omega] at h2 ⊢
  show _ ≤ nv g m + g m * _
  have h4 : 1 * 1000000000 ^ m ≤ g m * 1000000000 ^ m := Int.mul_le_mul_of_nonneg_right (by omega) (by have := bp_pos m; omega)
  omega
theorem bp_mono {m n : Nat} (h : m ≤ n) : (1000000000 : Int) ^ m ≤ 1000000000 ^ n := by
  obtain ⟨k, rfl⟩ : ∃ k, n = m + k := ⟨n - m, by omega⟩
  rw [Int.pow_add]
  have h1 := bp_pos m
  have h2 := bp_pos k
  have h3 : 1000000000 ^ m * 1 ≤ (1000000000 : Int) ^ m * 1000000000 ^ k := Int.mul_le_mul_of_nonneg_left (by omega) (by omega)
  omega
/-- a number below the base's power has no more limbs -/
theorem nv_fit {g : Nat → Int} {n c : Nat} (h : nok g n) (hv : nv g n < 1000000000 ^ c) : n ≤ c := by
  rcases Nat.lt_or_ge c n with q | q
  · have h1 := nv_low h (by omega)
    have h2 := bp_mono (m := c) (n := n - 1) (by omega)
    omega
  · exact q
theorem nok_congr {g g' : Nat → Int} {n : Nat} (h : nok g n) (he : ∀ i, i < n → g' i = g i) : nok g' n :=
  ⟨fun i hi => by rw [he i hi]; exact h.1 i hi, fun hn => by rw [he (n - 1) (by omega)]; exact h.2 hn⟩
theorem nv_split {g g' : Nat → Int} {i : Nat} : ∀ {n : Nat}, i ≤ n → (∀ j, i ≤ j → j < n → g j = g' j) → nv g n - nv g i = nv g' n - nv g' i
  | 0, h, _ => by
    obtain rfl : i = 0 := by omega
    omega
  | n + 1, h, he => by
    by_cases e : i = n + 1
    · subst e; omega
    · have ih := nv_split (g := g) (g' := g') (i := i) (n := n) (by omega) (fun j h1 h2 => he j h1 (by omega))
      show nv g n + g n * _ - _ = nv g' n + g' n * _ - _
      rw [he n (by omega) (by omega)]
      omega
/-- two numbers, alike above limb i, and greater there -/
theorem nv_gt {g g' : Nat → Int} {n i : Nat} (h : nok g n) (h' : nok g' n) (hi : i < n) (he : ∀ j, i < j → j < n → g j = g' j) (hg : g' i < g i) : nv g' n < nv g n := by
  have h1 := nv_split (g := g) (g' := g') (i := i + 1) (n := n) (by omega) (fun j a b => he j (by omega) b)
  have h2 := nv_nonneg (g := g) (n := i) (fun j hj => h.1 j (by omega))
  have h3 := nv_nonneg (g := g') (n := i) (fun j hj => h'.1 j (by omega))
  have h4 : nv g (i + 1) = nv g i + g i * 1000000000 ^ i := rfl
  have h5 : nv g' (i + 1) = nv g' i + g' i * 1000000000 ^ i := rfl
  have h6 : (g' i + 1) * 1000000000 ^ i ≤ g i * 1000000000 ^ i := Int.mul_le_mul_of_nonneg_right (by omega) (by have := bp_pos i; omega)
  rw [Int.add_mul] at h6
  omega
/-- fewer limbs, a smaller number -/
theorem nv_short {g g' : Nat → Int} {n n' : Nat} (h : nok g n) (h' : nok g' n') (hn : n' < n) : nv g' n' < nv g n := by
  have h1 := nv_low h (by omega)
  have h2 := nv_nonneg (g := g') (n := n') h'.1
  have h3 := bp_mono (m := n') (n := n - 1) (by omega)
  omega
theorem nv_shift (g : Nat → Int) (i : Nat) : ∀ m : Nat, nv g (i + m) = nv g i + 1000000000 ^ i * nv (fun j => g (i + j)) m
  | 0 => by show nv g i = nv g i + _ * 0; omega
  | m + 1 => by
    show nv g (i + m) + g (i + m) * 1000000000 ^ (i + m) = nv g i + 1000000000 ^ i * (nv (fun j => g (i + j)) m + g (i + m) * 1000000000 ^ m)
    rw [nv_shift g i m, Int.pow_add]
    grind
theorem nv_div {g : Nat → Int} {n i : Nat} (h : ∀ j, j < n → 0 ≤ g j ∧ g j < 1000000000) (hi : i ≤ n) : nv g n / 1000000000 ^ i = nv (fun j => g (i + j)) (n - i) := by
  obtain ⟨m, rfl⟩ : ∃ m, n = i + m := ⟨n - i, by omega⟩
  have h1 := nv_nonneg (g := g) (n := i) (fun j hj => h j (by omega))
  have hp := bp_pos i
  rw [nv_shift, Int.add_mul_ediv_left _ _ (by omega), Int.ediv_eq_zero_of_lt h1.1 h1.2, show i + m - i = m by omega]
  omega
/-- eighteen digits are two limbs -/
theorem nv_two {g : Nat → Int} {n i : Nat} (h : ∀ j, j < n → 0 ≤ g j ∧ g j < 1000000000) : nv g n / 1000000000 ^ i % 1000000000000000000 = (if i < n then g i else 0) + (if i + 1 < n then g (i + 1) else 0) * 1000000000 := by
  rcases Nat.lt_or_ge i n with q | q
  · rw [nv_div h (by omega), if_pos q]
    rcases Nat.lt_or_ge (i + 1) n with r | r
    · rw [if_pos r]
      obtain ⟨m, hm⟩ : ∃ m, n - i = 2 + m := ⟨n - i - 2, by omega⟩
      have h0 := h i q
      have h1 := h (i + 1) r
      rw [hm, nv_shift]
      show (0 + g (i + 0) * 1 + g (i + 1) * 1000000000 + 1000000000000000000 * _) % _ = _
      rw [Int.add_mul_emod_self_left, Nat.add_zero]
      omega
    · rw [if_neg (by omega)]
      have h0 := h i q
      rw [show n - i = 1 by omega]
      show (0 + g (i + 0) * 1) % _ = _
      rw [Nat.add_zero]
      omega
  · have h1 := nv_nonneg h
    have h2 := bp_mono q
    rw [if_neg (by omega), if_neg (by omega), Int.ediv_eq_zero_of_lt h1.1 (by omega)]
    rfl
section WHQ
variable {X : Nat × (Nat → Int32)}
theorem wp_copy_loop {d t l cap ta la ca n : Nat} {h0 : am_H} {n0 : Int} {g0 ga : Nat → Int} {Q : Option Value → am_H → Prop} (ht : h0[t]? = some (.inr (cWh, [.ref l, .int (iI n0)]))) (hl : h0[l]? = some (am_la cap g0)) (hta : h0[ta]? = some (.inr (cWh, [.ref la, .int (iI n)]))) (hla : h0[la]? = some (am_la ca ga)) (hcap : cap ≤ 1000000) (hca : ca ≤ 1000000) (hn : n ≤ cap) (hna : n ≤ ca) (hd : l ≠ la)
    (K : ∀ g : Nat → Int, (∀ j, j < n → g j = ga j) → Q none ((h0.set l (am_la cap g)).set t (.inr (cWh, [.ref l, .int (iI n)])))) :
    ∀ (m i : Nat) (g : Nat → Int), i + m = n → (∀ j, j < i → g j = ga j) → am_w X d 87 (27, [.ref t, .ref ta, .int (iI n), .int (iI i)], [], h0.set l (am_la cap g)) Q := by
  have hne : l ≠ t := fun e => am_oa ht hl e.symm
  have hne2 : l ≠ ta := fun e => am_oa hta hl e.symm
  intro m
  induction m with
  | zero =>
    intro i g hm hg
    have c_t : (h0.set l (am_la cap g))[t]? = some (.inr (cWh, [.ref l, .int (iI n0)])) := by rw [am_set_n hne]; exact ht
    refine wr_iload_n rfl rfl rfl ?_
    refine wr_iload_n rfl rfl rfl ?_
    refine wr_icmp_ge rfl rfl rfl (by omega) (by omega) (fun c29 => ?_) (fun c29 => ?_)
    ·
      refine wr_aload_n rfl rfl rfl ?_
      refine wr_iload_n rfl rfl rfl ?_
      refine wr_putI (ci := 5) (f := 1) (fs' := [_, _]) rfl rfl rfl (by assumption) rfl rfl rfl (fun h1 e1 => ?_)
      refine wr_vret rfl rfl ?_
      rw [e1]
      exact K g (fun j hj => hg j (by omega))
    · exfalso; omega
  | succ m ih =>
    intro i g hm hg
    have c_t : (h0.set l (am_la cap g))[t]? = some (.inr (cWh, [.ref l, .int (iI n0)])) := by rw [am_set_n hne]; exact ht
    have c_l : (h0.set l (am_la cap g))[l]? = some (am_la cap g) := am_set_s hl
    have c_ta : (h0.set l (am_la cap g))[ta]? = some (.inr (cWh, [.ref la, .int (iI n)])) := by rw [am_set_n hne2]; exact hta
    have c_la : (h0.set l (am_la cap g))[la]? = some (am_la ca ga) := by rw [am_set_n hd]; exact hla
    refine wr_iload_n rfl rfl rfl ?_
    refine wr_iload_n rfl rfl rfl ?_
    refine wr_icmp_ge rfl rfl rfl (by omega) (by omega) (fun c29 => ?_) (fun c29 => ?_)
    · exfalso; omega
    ·
      refine wr_aload_n rfl rfl rfl ?_
      refine wr_get (ci := 5) (f := 0) rfl rfl rfl (by assumption) rfl ?_
      refine wr_iload_n rfl rfl rfl ?_
      refine wr_aload_n rfl rfl rfl ?_
      refine wr_get (ci := 5) (f := 0) rfl rfl rfl (by assumption) rfl ?_
      refine wr_iload_n rfl rfl rfl ?_
      refine wr_lald rfl rfl (by assumption) (by omega) (by omega) ?_
      refine wr_last rfl rfl (by assumption) (by omega) (by omega) (fun h1 e1 => ?_)
      rw [List.set_set, Int.toNat_natCast] at e1
      subst e1
      refine wr_iinc (ls' := [_, _, _, _]) rfl rfl rfl rfl ?_
      refine wr_goto rfl rfl ?_
      rw [show (i : Int) + 1 = ((i + 1 : Nat) : Int) by omega]
      refine ih (i + 1) (updI g i (ga i)) (by omega) (fun j hj => ?_)
      by_cases e : j = i
      · subst e
        rw [updI_s]
      · rw [updI_n e]
        exact hg j (by omega)
theorem wp_copy {d t l cap ta la ca : Nat} {h : am_H} {v0 v : Int} (ht : isW h t l cap v0) (ha : isW h ta la ca v) (hcap : cap ≤ 1000000) (hca : ca ≤ 1000000) (hd : l ≠ la) (hfit : v < 1000000000 ^ cap) :
    am_c X (d + 1) 87 [.ref t, .ref ta] h (fun r h' => r = none ∧ isW h' t l cap v ∧ fr [t, l] h h') := by
  obtain ⟨g0, n0, c_t, c_l, q1, q2, q3⟩ := ht
  obtain ⟨ga, n, c_ta, c_la, p1, p2, p3⟩ := ha
  have hn : n ≤ cap := nv_fit p2 (by omega)
  have hne : l ≠ t := fun e => am_oa c_t c_l e.symm
  have J : am_w X d 87 (24, [.ref t, .ref ta, am_U, am_U], [.int (iI n)], h) (fun r h' => r = none ∧ isW h' t l cap v ∧ fr [t, l] h h') := by
    refine wr_istore_n (ls' := [_, _, _, _]) rfl rfl (Nat.le_of_ble_eq_true rfl) rfl ?_
    refine wr_iconst rfl rfl ?_
    refine wr_istore_n (ls' := [_, _, _, _]) rfl rfl (Nat.le_of_ble_eq_true rfl) rfl ?_
    have hw := wp_copy_loop (X := X) (d := d) (Q := fun r h' => r = none ∧ isW h' t l cap v ∧ fr [t, l] h h') c_t c_l c_ta c_la hcap hca hn p1 hd ?_ n 0 g0 (by omega) (fun j hj => by omega)
    · rw [am_set_id c_l] at hw
      exact hw
    · intro g hg
      refine ⟨rfl, ?_, fr_set2⟩
      rw [← p3, ← nv_congr hg]
      exact isW.mk2 c_t c_l hne hn (nok_congr p2 hg)
  refine am_c.of (Nat.le_of_ble_eq_true rfl) ?_
  show am_w _ _ _ (_, [_, _, _, _], _, _) _
  refine wr_aload_n rfl rfl rfl ?_
  refine wr_get (ci := 5) (f := 1) rfl rfl rfl (by assumption) rfl ?_
  refine wr_aload_n rfl rfl rfl ?_
  refine wr_get (ci := 5) (f := 0) rfl rfl rfl (by assumption) rfl ?_
  refine wr_alen rfl rfl (by assumption) (by decide) ?_
  refine wr_icmp_ge rfl rfl rfl (by omega) (by omega) (fun c9 => ?_) (fun c9 => ?_)
  ·
    refine wr_aload_n rfl rfl rfl ?_
    refine wr_get (ci := 5) (f := 0) rfl rfl rfl (by assumption) rfl ?_
    refine wr_alen rfl rfl (by assumption) (by decide) ?_
    rw [show (cap : Int) = n by omega]
    exact J
  ·
    refine wr_aload_n rfl rfl rfl ?_
    refine wr_get (ci := 5) (f := 1) rfl rfl rfl (by assumption) rfl ?_
    refine wr_goto rfl rfl ?_
    exact J
/-- eighteen digits, the k-th ones from below -/
theorem wp_eighteen {d t l cap : Nat} {h : am_H} {v k : Int} (ht : isW h t l cap v) (hcap : cap ≤ 1000000) (hk : 0 ≤ k ∧ k ≤ 1073741823) :
    am_c X (d + 1) 88 [.ref t, .int (iI k)] h (fun r h' => r = some (.long (lI (v / 1000000000 ^ (2 * k.toNat) % 1000000000000000000))) ∧ h' = h) := by
  obtain ⟨g, n, c_t, c_l, q1, q2, q3⟩ := ht
  subst q3
  have e0 := nv_two (g := g) (n := n) (i := 2 * k.toNat) q2.1
  refine am_c.of (Nat.le_of_ble_eq_true rfl) ?_
  show am_w _ _ _ (_, [_, _, _], _, _) _
  refine wr_iconst rfl rfl ?_
  refine wr_iload_n rfl rfl rfl ?_
  refine wr_imul rfl rfl ?_
  refine wr_istore_n (ls' := [_, _, _]) rfl rfl (Nat.le_of_ble_eq_true rfl) rfl ?_
  refine wr_iload_n rfl rfl rfl ?_
  refine wr_if_lt rfl rfl rfl (by omega) (fun c5 => ?_) (fun c5 => ?_)
  · exfalso; omega
  ·
    refine wr_iload_n rfl rfl rfl ?_
    refine wr_aload_n rfl rfl rfl ?_
    refine wr_get (ci := 5) (f := 1) rfl rfl rfl (by assumption) rfl ?_
    refine wr_icmp_lt rfl rfl rfl (by omega) (by omega) (fun c13 => ?_) (fun c13 => ?_)
    ·
      have d1 := q2.1 (2 * k.toNat) (by omega)
      rw [if_pos (by omega)] at e0
      refine wr_aload_n rfl rfl rfl ?_
      refine wr_get (ci := 5) (f := 0) rfl rfl rfl (by assumption) rfl ?_
      refine wr_iload_n rfl rfl rfl ?_
      refine wr_lald rfl rfl (by assumption) (by omega) (by omega) ?_
      refine wr_iload_n rfl rfl rfl ?_
      refine wr_iconst rfl rfl ?_
      refine wr_iadd rfl rfl ?_
      refine wr_aload_n rfl rfl rfl ?_
      refine wr_get (ci := 5) (f := 1) rfl rfl rfl (by assumption) rfl ?_
      refine wr_icmp_ge rfl rfl rfl (by omega) (by omega) (fun c31 => ?_) (fun c31 => ?_)
      ·
        refine wr_lconst (z := 0) rfl rfl rfl ?_
        refine wr_ladd rfl rfl ?_
        refine wr_lret rfl rfl ?_
        rw [if_neg (by omega)] at e0
        rw [e0, show (2 * k).toNat = 2 * k.toNat by omega, show g (2 * k.toNat) + 0 * 1000000000 = g (2 * k.toNat) + 0 by omega]
        exact ⟨rfl, rfl⟩
      ·
        refine wr_aload_n rfl rfl rfl ?_
        refine wr_get (ci := 5) (f := 0) rfl rfl rfl (by assumption) rfl ?_
        refine wr_iload_n rfl rfl rfl ?_
        refine wr_iconst rfl rfl ?_
        refine wr_iadd rfl rfl ?_
        refine wr_lald rfl rfl (by assumption) (by omega) (by omega) ?_
        refine wr_ldc2 (z := 1000000000) rfl rfl rfl (by decide) ?_
        refine wr_lmul rfl rfl ?_
        refine wr_goto rfl rfl ?_
        refine wr_ladd rfl rfl ?_
        refine wr_lret rfl rfl ?_
        rw [if_pos (by omega)] at e0
        rw [e0, show (2 * k).toNat = 2 * k.toNat by omega, show (2 * k + 1).toNat = 2 * k.toNat + 1 by omega]
        exact ⟨rfl, rfl⟩
    ·
      refine wr_lconst (z := 0) rfl rfl rfl ?_
      refine wr_lret rfl rfl ?_
      rw [e0, if_neg (by omega), if_neg (by omega)]
      exact ⟨rfl, rfl⟩
theorem wp_compare_loop {d t l cap ta la ca n : Nat} {h : am_H} {g ga : Nat → Int} {Q : Option Value → am_H → Prop} (c_t : h[t]? = some (.inr (cWh, [.ref l, .int (iI n)]))) (c_l : h[l]? = some (am_la cap g)) (c_ta : h[ta]? = some (.inr (cWh, [.ref la, .int (iI n)]))) (c_la : h[la]? = some (am_la ca ga)) (hcap : cap ≤ 1000000) (hca : ca ≤ 1000000) (hn : n ≤ cap) (hna : n ≤ ca) (hg : nok g n) (hga : nok ga n)
    (K : Q (some (.int (iI (cmpI (nv g n) (nv ga n))))) h) :
    ∀ i : Nat, i ≤ n → (∀ j, i ≤ j → j < n → g j = ga j) → am_w X d 98 (35, [.ref t, .ref ta, .int (iI ((i : Int) - 1))], [], h) Q := by
  intro i
  induction i with
  | zero =>
    intro hi he
    have h1 : nv g n = nv ga n := by
      have := nv_split (g := g) (g' := ga) (i := 0) (n := n) (by omega) he
      have h2 : nv g 0 = 0 := rfl
      have h3 : nv ga 0 = 0 := rfl
      omega
    refine wr_iload_n rfl rfl rfl ?_
    refine wr_if_lt rfl rfl rfl (by omega) (fun c36 => ?_) (fun c36 => ?_)
    ·
      refine wr_iconst rfl rfl ?_
      refine wr_iret rfl rfl ?_
      have h2 : cmpI (nv g n) (nv ga n) = 0 := by have := cmpI_cases (nv g n) (nv ga n); omega
      rw [h2] at K
      exact K
    · exfalso; omega
  | succ i ih =>
    intro hi he
    have d1 := hg.1 i (by omega)
    have d2 := hga.1 i (by omega)
    rw [show ((i + 1 : Nat) : Int) - 1 = i by omega]
    refine wr_iload_n rfl rfl rfl ?_
    refine wr_if_lt rfl rfl rfl (by omega) (fun c36 => ?_) (fun c36 => ?_)
    · exfalso; omega
    ·
      refine wr_aload_n rfl rfl rfl ?_
      refine wr_get (ci := 5) (f := 0) rfl rfl rfl (by assumption) rfl ?_
      refine wr_iload_n rfl rfl rfl ?_
      refine wr_lald rfl rfl (by assumption) (by omega) (by omega) ?_
      refine wr_aload_n rfl rfl rfl ?_
      refine wr_get (ci := 5) (f := 0) rfl rfl rfl (by assumption) rfl ?_
      refine wr_iload_n rfl rfl rfl ?_
      refine wr_lald rfl rfl (by assumption) (by omega) (by omega) ?_
      rw [Int.toNat_natCast]
      refine wr_l_eq rfl rfl rfl rfl rfl (by omega) (by omega) (fun c51 => ?_) (fun c51 => ?_)
      ·
        refine wr_iinc (ls' := [_, _, _]) rfl rfl rfl rfl ?_
        refine wr_goto rfl rfl ?_
        refine ih (by omega) (fun j h1 h2 => ?_)
        by_cases e : j = i
        · subst e; exact c51
        · exact he j (by omega) h2
      ·
        refine wr_aload_n rfl rfl rfl ?_
        refine wr_get (ci := 5) (f := 0) rfl rfl rfl (by assumption) rfl ?_
        refine wr_iload_n rfl rfl rfl ?_
        refine wr_lald rfl rfl (by assumption) (by omega) (by omega) ?_
        refine wr_aload_n rfl rfl rfl ?_
        refine wr_get (ci := 5) (f := 0) rfl rfl rfl (by assumption) rfl ?_
        refine wr_iload_n rfl rfl rfl ?_
        refine wr_lald rfl rfl (by assumption) (by omega) (by omega) ?_
        rw [Int.toNat_natCast]
        refine wr_l_le rfl rfl rfl rfl rfl (by omega) (by omega) (fun c67 => ?_) (fun c67 => ?_)
        ·
          refine wr_iconst rfl rfl ?_
          refine wr_iret rfl rfl ?_
          have h1 := nv_gt (g := ga) (g' := g) hga hg (i := i) (by omega) (fun j a b => (he j (by omega) b).symm) (by omega)
          have h2 : cmpI (nv g n) (nv ga n) = -1 := by have := cmpI_cases (nv g n) (nv ga n); omega
          rw [h2] at K
          exact K
        ·
          refine wr_iconst rfl rfl ?_
          refine wr_goto rfl rfl ?_
          refine wr_iret rfl rfl ?_
          have h1 := nv_gt (g := g) (g' := ga) hg hga (i := i) (by omega) (fun j a b => he j (by omega) b) (by omega)
          have h2 : cmpI (nv g n) (nv ga n) = 1 := by have := cmpI_cases (nv g n) (nv ga n); omega
          rw [h2] at K
          exact K
theorem wp_compare {d t l cap ta la ca : Nat} {h : am_H} {v va : Int} (ht : isW h t l cap v) (ha : isW h ta la ca va) (hcap : cap ≤ 1000000) (hca : ca ≤ 1000000) :
    am_c X (d + 1) 98 [.ref t, .ref ta] h (fun r h' => r = some (.int (iI (cmpI v va))) ∧ h' = h) := by
  obtain ⟨g, n, c_t, c_l, q1, q2, q3⟩ := ht
  obtain ⟨ga, na, c_ta, c_la, p1, p2, p3⟩ := ha
  subst q3 p3
  refine am_c.of (Nat.le_of_ble_eq_true rfl) ?_
  show am_w _ _ _ (_, [_, _, _], _, _) _
  refine wr_aload_n rfl rfl rfl ?_
  refine wr_get (ci := 5) (f := 1) rfl rfl rfl (by assumption) rfl ?_
  refine wr_aload_n rfl rfl rfl ?_
  refine wr_get (ci := 5) (f := 1) rfl rfl rfl (by assumption) rfl ?_
  refine wr_icmp_eq rfl rfl rfl (by omega) (by omega) (fun c8 => ?_) (fun c8 => ?_)
  ·
    obtain rfl : n = na := by omega
    refine wr_aload_n rfl rfl rfl ?_
    refine wr_get (ci := 5) (f := 1) rfl rfl rfl (by assumption) rfl ?_
    refine wr_iconst rfl rfl ?_
    refine wr_isub rfl rfl ?_
    refine wr_istore_n (ls' := [_, _, _]) rfl rfl (Nat.le_of_ble_eq_true rfl) rfl ?_
    exact wp_compare_loop c_t c_l c_ta c_la hcap hca q1 p1 q2 p2 ⟨rfl, rfl⟩ n (Nat.le_refl _) (fun j a b => by omega)
  ·
    refine wr_aload_n rfl rfl rfl ?_
    refine wr_get (ci := 5) (f := 1) rfl rfl rfl (by assumption) rfl ?_
    refine wr_aload_n rfl rfl rfl ?_
    refine wr_get (ci := 5) (f := 1) rfl rfl rfl (by assumption) rfl ?_
    refine wr_icmp_le rfl rfl rfl (by omega) (by omega) (fun c19 => ?_) (fun c19 => ?_)
    ·
      refine wr_iconst rfl rfl ?_
      refine wr_iret rfl rfl ?_
      have h1 := nv_short (g := ga) (g' := g) (n := na) (n' := n) p2 q2 (by omega)
      have h2 : cmpI (nv g n) (nv ga na) = -1 := by have := cmpI_cases (nv g n) (nv ga na); omega
      rw [h2]
      exact ⟨rfl, rfl⟩
    ·
      refine wr_iconst rfl rfl ?_
      refine wr_goto rfl rfl ?_
      refine wr_iret rfl rfl ?_
      have h1 := nv_short (g := g) (g' := ga) (n := n) (n' := na) q2 p2 (by omega)
      have h2 : cmpI (nv g n) (nv ga na) = 1 := by have := cmpI_cases (nv g n) (nv ga na); omega
      rw [h2]
      exact ⟨rfl, rfl⟩
end WHQ
end
section
/-! WHOLE NUMBERS OF THE CLASS: sum, difference -/
/-- limbs, and zeros behind them -/
def ext (g : Nat → Int) (n : Nat) : Nat → Int := fun j => if j < n then g j else 0
theorem ext_lt {g : Nat → Int} {n j : Nat} (h : j < n) : ext g n j = g j := by simp [ext, h]
theorem ext_ge {g : Nat → Int} {n j : Nat} (h : n ≤ j) : ext g n j = 0 := by simp [ext]; omega
theorem ext_in {g : Nat → Int} {n : Nat} (h : nok g n) (j : Nat) : 0 ≤ ext g n j ∧ ext g n j < 1000000000 := by
  rcases Nat.lt_or_ge j n with q | q
  · rw [ext_lt q]; exact h.1 j q
  · rw [ext_ge q]; omega
theorem nv_ext {g : Nat → Int} {n : Nat} : ∀ {i : Nat}, n ≤ i → nv (ext g n) i = nv g n := by
  intro i
  induction i with
  | zero =>
    intro h
    obtain rfl : n = 0 := by omega
    rfl
  | succ i ih =>
    intro h
    by_cases e : n = i + 1
    · subst e
      exact nv_congr (fun j hj => ext_lt hj)
    · show nv (ext g n) i + ext g n i * _ = _
      rw [ih (by omega), ext_ge (by omega)]
      omega
/-- the highest limb that is not 0, so far -/
def top (g : Nat → Int) (u i : Nat) : Prop := u ≤ i ∧ (∀ j, u ≤ j → j < i → g j = 0) ∧ (0 < u → g (u - 1) ≠ 0)
theorem top_nv {g : Nat → Int} {u i : Nat} (h : top g u i) : nv g i = nv g u := by
  have h1 := nv_split (g := g) (g' := ext g u) (i := u) (n := i) h.1 (fun j a b => by rw [h.2.1 j a b, ext_ge a])
  rw [nv_ext h.1, nv_ext (Nat.le_refl u)] at h1
  omega
theorem top_step {g : Nat → Int} {u i : Nat} {x : Int} (h : top g u i) : (x = 0 → top (updI g i x) u (i + 1)) ∧ (x ≠ 0 → top (updI g i x) (i + 1) (i + 1)) := by
  obtain ⟨h1, h2, h3⟩ := h
  refine ⟨fun hx => ⟨by omega, fun j a b => ?_, fun hu => ?_⟩, fun hx => ⟨by omega, fun j a b => by omega, fun _ => ?_⟩⟩
  · by_cases e : j = i
    · subst e; rw [updI_s]; exact hx
    · rw [updI_n e]; exact h2 j a (by omega)
  · rw [updI_n (by omega)]; exact h3 hu
  · rw [show i + 1 - 1 = i by omega, updI_s]; exact hx
theorem dig_step {g : Nat → Int} {i : Nat} {x : Int} (h : ∀ j, j < i → 0 ≤ g j ∧ g j < 1000000000) (hx : 0 ≤ x ∧ x < 1000000000) : ∀ j, j < i + 1 → 0 ≤ updI g i x j ∧ updI g i x j < 1000000000 := by
  intro j hj
  by_cases e : j = i
  · subst e; rw [updI_s]; exact hx
  · rw [updI_n e]; exact h j (by omega)
section WHR
variable {X : Nat × (Nat → Int32)}
theorem wp_sum_loop {d t l cap ta la ca tb lb cb na nb most : Nat} {h0 : am_H} {n0 lon : Int} {g0 ga gb : Nat → Int} {Q : Option Value → am_H → Prop} (ht : h0[t]? = some (.inr (cWh, [.ref l, .int (iI n0)]))) (hl : h0[l]? = some (am_la cap g0)) (hta : h0[ta]? = some (.inr (cWh, [.ref la, .int (iI na)]))) (hla : h0[la]? = some (am_la ca ga)) (htb : h0[tb]? = some (.inr (cWh, [.ref lb, .int (iI nb)]))) (hlb : h0[lb]? = some (am_la cb gb))
    (hcap : cap ≤ 1000000) (hca : ca ≤ 1000000) (hcb : cb ≤ 1000000) (hna : na ≤ ca) (hnb : nb ≤ cb) (ka : nok ga na) (kb : nok gb nb) (hmost : most ≤ cap) (hdb : l ≠ lb)
    (K : ∀ (g : Nat → Int) (u : Nat) (c : Int), (c = 0 ∨ c = 1) → nv g most + c * 1000000000 ^ most = nv (ext ga na) most + nv (ext gb nb) most → (∀ j, j < most → 0 ≤ g j ∧ g j < 1000000000) → top g u most → Q none ((h0.set l (am_la cap g)).set t (.inr (cWh, [.ref l, .int (iI u)])))) :
    ∀ (m i u : Nat) (g : Nat → Int) (c : Int), i + m = most → (c = 0 ∨ c = 1) → nv g i + c * 1000000000 ^ i = nv (ext ga na) i + nv (ext gb nb) i → (∀ j, j < i → 0 ≤ g j ∧ g j < 1000000000) → (∀ j, i ≤ j → g j = g0 j) → top g u i → am_w X d 99 (54, [.ref t, .ref ta, .ref tb, .int (iI lon), .int (iI most), .long (lI c), am_U, .int (iI u), .int (iI i), am_U, am_U], [], h0.set l (am_la cap g)) Q := by
  have hne : l ≠ t := fun e => am_oa ht hl e.symm
  have hne2 : l ≠ ta := fun e => am_oa hta hl e.symm
  have hne3 : l ≠ tb := fun e => am_oa htb hl e.symm
  intro m
  induction m with
  | zero =>
    intro i u g c hm hc he hg hk hu
    have c_t : (h0.set l (am_la cap g))[t]? = some (.inr (cWh, [.ref l, .int (iI n0)])) := by rw [am_set_n hne]; exact ht
    obtain rfl : i = most := by omega
    refine wr_iload rfl rfl rfl ?_
    refine wr_iload rfl rfl rfl ?_
    refine wr_icmp_ge rfl rfl rfl (by omega) (by omega) (fun c58 => ?_) (fun c58 => ?_)
    ·
      refine wr_aload_n rfl rfl rfl ?_
      refine wr_iload rfl rfl rfl ?_
      refine wr_putI (ci := 5) (f := 1) (fs' := [_, _]) rfl rfl rfl (by assumption) rfl rfl rfl (fun h1 e1 => ?_)
      refine wr_vret rfl rfl ?_
      rw [e1]
      exact K g u c hc he hg hu
    · exfalso; omega
  | succ m ih =>
    intro i u g c hm hc he hg hk hu
    have hu1 := hu.1
    have c_t : (h0.set l (am_la cap g))[t]? = some (.inr (cWh, [.ref l, .int (iI n0)])) := by rw [am_set_n hne]; exact ht
    have c_l : (h0.set l (am_la cap g))[l]? = some (am_la cap g) := am_set_s hl
    have c_ta : (h0.set l (am_la cap g))[ta]? = some (.inr (cWh, [.ref la, .int (iI na)])) := by rw [am_set_n hne2]; exact hta
    have c_tb : (h0.set l (am_la cap g))[tb]? = some (.inr (cWh, [.ref lb, .int (iI nb)])) := by rw [am_set_n hne3]; exact htb
    have c_lb : (h0.set l (am_la cap g))[lb]? = some (am_la cb gb) := by rw [am_set_n hdb]; exact hlb
    obtain ⟨fa, c_la, hfa⟩ : ∃ fa, (h0.set l (am_la cap g))[la]? = some (am_la ca fa) ∧ fa i = ga i := by
      by_cases e : l = la
      · subst e
        rw [hl] at hla
        have e1 : cap = ca ∧ (fun j => lI (g0 j)) = fun j => lI (ga j) := by
          simpa using hla
        refine ⟨fun j => if j = i then ga i else g j, ?_, by simp⟩
        rw [c_l, ← e1.1]
        have e2 : (fun j => lI (g j)) = fun j => lI ((fun j => if j = i then ga i else g j) j) := by
          funext j
          by_cases q : j = i
          · subst q
            have := congrFun e1.2 j
            simp only [if_true]
            rw [hk j (Nat.le_refl _)]
            exact this
          · simp [q]
        show some (Sum.inl (1, cap, Sum.inr (Sum.inl fun j => lI (g j)))) = some (Sum.inl (1, cap, Sum.inr (Sum.inl fun j => lI ((fun j => if j = i then ga i else g j) j))))
        rw [e2]
      · exact ⟨ga, by rw [am_set_n e]; exact hla, rfl⟩
    have xa := ext_in ka i
    have xb := ext_in kb i
    obtain ⟨s, hs⟩ : ∃ s, s = c + ext ga na i + ext gb nb i := ⟨_, rfl⟩
    obtain ⟨c', hc'⟩ : ∃ c' : Int, c' = if s < 1000000000 then 0 else 1 := ⟨_, rfl⟩
    have hc2 : (c' = 0 ∧ s < 1000000000) ∨ (c' = 1 ∧ 1000000000 ≤ s) := by
      by_cases q : s < 1000000000
      · rw [if_pos q] at hc'; exact Or.inl ⟨hc', q⟩
      · rw [if_neg q] at hc'; exact Or.inr ⟨hc', by omega⟩
    have hx : 0 ≤ s - c' * 1000000000 ∧ s - c' * 1000000000 < 1000000000 := by omega
    obtain ⟨x, hxe⟩ : ∃ x, x = s - c' * 1000000000 := ⟨_, rfl⟩
    have J4 : ∀ u' : Nat, top (updI g i x) u' (i + 1) → am_w X d 99 (160, [.ref t, .ref ta, .ref tb, .int (iI lon), .int (iI most), .long (lI c'), am_U, .int (iI u), .int (iI i), am_U, am_U], [.int (iI u')], h0.set l (am_la cap (updI g i x))) Q := by
      intro u' hu'
      refine wr_istore (ls' := [_, _, _, _, _, _, _, _, _, _, _]) rfl rfl (Nat.le_of_ble_eq_true rfl) rfl ?_
      refine wr_iinc (ls' := [_, _, _, _, _, _, _, _, _, _, _]) rfl rfl rfl rfl ?_
      refine wr_goto rfl rfl ?_
      rw [show (i : Int) + 1 = ((i + 1 : Nat) : Int) by omega]
      refine ih (i + 1) u' (updI g i x) c' (by omega) (by omega) ?_ (dig_step hg (by omega)) (fun j hj => ?_) hu'
      · rw [nv_upd]
        show _ = nv (ext ga na) i + ext ga na i * 1000000000 ^ i + (nv (ext gb nb) i + ext gb nb i * 1000000000 ^ i)
        rw [Int.pow_succ]
        generalize (1000000000 : Int) ^ i = p at he ⊢
        generalize nv (ext ga na) i = A at he ⊢
        generalize nv (ext gb nb) i = B at he ⊢
        generalize nv g i = G at he ⊢
        subst hxe hs
        grind
      · rw [updI_n (by omega)]
        exact hk j (by omega)
    have J3 : am_w X d 99 (121, [.ref t, .ref ta, .ref tb, .int (iI lon), .int (iI most), .long (lI c), am_U, .int (iI u), .int (iI i), .long (lI s), am_U], [.long (lI c')], h0.set l (am_la cap g)) Q := by
      refine wr_lstore (ls' := [_, _, _, _, _, _, _, _, _, _, _]) rfl rfl (Nat.le_of_ble_eq_true rfl) rfl ?_
      refine wr_aload_n rfl rfl rfl ?_
      refine wr_get (ci := 5) (f := 0) rfl rfl rfl (by assumption) rfl ?_
      refine wr_iload rfl rfl rfl ?_
      refine wr_lload rfl rfl rfl ?_
      refine wr_lload rfl rfl rfl ?_
      refine wr_ldc2 (z := 1000000000) rfl rfl rfl (by decide) ?_
      refine wr_lmul rfl rfl ?_
      refine wr_lsub rfl rfl ?_
      refine wr_last rfl rfl (by assumption) (by omega) (by omega) (fun h1 e1 => ?_)
      rw [List.set_set, Int.toNat_natCast, ← hxe] at e1
      have d_t : h1[t]? = some (.inr (cWh, [.ref l, .int (iI n0)])) := by rw [e1, am_set_n hne]; exact ht
      have d_l : h1[l]? = some (am_la cap (updI g i x)) := by rw [e1]; exact am_set_s hl
      refine wr_aload_n rfl rfl rfl ?_
      refine wr_get (ci := 5) (f := 0) rfl rfl rfl (by assumption) rfl ?_
      refine wr_iload rfl rfl rfl ?_
      refine wr_lald rfl rfl (by assumption) (by omega) (by omega) ?_
      refine wr_lconst (z := 0) rfl rfl rfl ?_
      rw [Int.toNat_natCast, updI_s]
      refine wr_l_eq rfl rfl rfl rfl rfl (by omega) (by omega) (fun c147 => ?_) (fun c147 => ?_)
      ·
        refine wr_iload rfl rfl rfl ?_
        refine am_w.wk (ls' := [_, _, _, _, _, _, _, _, _, am_U, _]) ⟨Or.inr rfl, Or.inr rfl, Or.inr rfl, Or.inr rfl, Or.inr rfl, Or.inr rfl, Or.inr rfl, Or.inr rfl, Or.inr rfl, Or.inl rfl, Or.inr rfl, trivial⟩ ?_
        rw [e1]
        exact J4 u ((top_step hu).1 c147)
      ·
        refine wr_iload rfl rfl rfl ?_
        refine wr_iconst rfl rfl ?_
        refine wr_iadd rfl rfl ?_
        refine wr_goto rfl rfl ?_
        refine am_w.wk (ls' := [_, _, _, _, _, _, _, _, _, am_U, _]) ⟨Or.inr rfl, Or.inr rfl, Or.inr rfl, Or.inr rfl, Or.inr rfl, Or.inr rfl, Or.inr rfl, Or.inr rfl, Or.inr rfl, Or.inl rfl, Or.inr rfl, trivial⟩ ?_
        rw [e1, show (i : Int) + 1 = ((i + 1 : Nat) : Int) by omega]
        exact J4 (i + 1) ((top_step hu).2 c147)
    have J2 : am_w X d 99 (104, [.ref t, .ref ta, .ref tb, .int (iI lon), .int (iI most), .long (lI c), am_U, .int (iI u), .int (iI i), am_U, am_U], [.long (lI (ext gb nb i)), .long (lI (c + ext ga na i))], h0.set l (am_la cap g)) Q := by
      refine wr_ladd rfl rfl ?_
      refine wr_lstore (ls' := [_, _, _, _, _, _, _, _, _, _, _]) rfl rfl (Nat.le_of_ble_eq_true rfl) rfl ?_
      refine wr_lload rfl rfl rfl ?_
      refine wr_ldc2 (z := 1000000000) rfl rfl rfl (by decide) ?_
      rw [← hs]
      refine wr_l_lt rfl rfl rfl rfl rfl (by omega) (by omega) (fun c112 => ?_) (fun c112 => ?_)
      ·
        refine wr_lconst (z := 0) rfl rfl rfl ?_
        rw [show (0 : Int) = c' by omega]
        exact J3
      ·
        refine wr_lconst (z := 1) rfl rfl rfl ?_
        refine wr_goto rfl rfl ?_
        rw [show (1 : Int) = c' by omega]
        exact J3
    have J1 : am_w X d 99 (83, [.ref t, .ref ta, .ref tb, .int (iI lon), .int (iI most), .long (lI c), am_U, .int (iI u), .int (iI i), am_U, am_U], [.long (lI (ext ga na i)), .long (lI c)], h0.set l (am_la cap g)) Q := by
      refine wr_ladd rfl rfl ?_
      refine wr_iload rfl rfl rfl ?_
      refine wr_aload_n rfl rfl rfl ?_
      refine wr_get (ci := 5) (f := 1) rfl rfl rfl (by assumption) rfl ?_
      refine wr_icmp_ge rfl rfl rfl (by omega) (by omega) (fun c90 => ?_) (fun c90 => ?_)
      ·
        refine wr_lconst (z := 0) rfl rfl rfl ?_
        rw [show (0 : Int) = ext gb nb i from (ext_ge (by omega)).symm]
        exact J2
      ·
        refine wr_aload_n rfl rfl rfl ?_
        refine wr_get (ci := 5) (f := 0) rfl rfl rfl (by assumption) rfl ?_
        refine wr_iload rfl rfl rfl ?_
        refine wr_lald rfl rfl (by assumption) (by omega) (by omega) ?_
        refine wr_goto rfl rfl ?_
        rw [Int.toNat_natCast, ← ext_lt (g := gb) (n := nb) (j := i) (by omega)]
        exact J2
    refine wr_iload rfl rfl rfl ?_
    refine wr_iload rfl rfl rfl ?_
    refine wr_icmp_ge rfl rfl rfl (by omega) (by omega) (fun c58 => ?_) (fun c58 => ?_)
    · exfalso; omega
    ·
      refine wr_lload rfl rfl rfl ?_
      refine wr_iload rfl rfl rfl ?_
      refine wr_aload_n rfl rfl rfl ?_
      refine wr_get (ci := 5) (f := 1) rfl rfl rfl (by assumption) rfl ?_
      refine wr_icmp_ge rfl rfl rfl (by omega) (by omega) (fun c69 => ?_) (fun c69 => ?_)
      ·
        refine wr_lconst (z := 0) rfl rfl rfl ?_
        rw [show (0 : Int) = ext ga na i from (ext_ge (by omega)).symm]
        exact J1
      ·
        refine wr_aload_n rfl rfl rfl ?_
        refine wr_get (ci := 5) (f := 0) rfl rfl rfl (by assumption) rfl ?_
        refine wr_iload rfl rfl rfl ?_
        refine wr_lald rfl rfl (by assumption) (by omega) (by omega) ?_
        refine wr_goto rfl rfl ?_
        rw [Int.toNat_natCast, hfa, ← ext_lt (g := ga) (n := na) (j := i) (by omega)]
        exact J1
theorem wp_sum {d t l cap ta la ca tb lb cb : Nat} {h : am_H} {v0 va vb : Int} (ht : isW h t l cap v0) (ha : isW h ta la ca va) (hb : isW h tb lb cb vb) (hcap : 0 < cap ∧ cap ≤ 1000000) (hca : ca ≤ 1000000) (hcb : cb ≤ 1000000) (hdb : l ≠ lb) (hfit : va + vb < 1000000000 ^ cap) :
    am_c X (d + 1) 99 [.ref t, .ref ta, .ref tb] h (fun r h' => r = none ∧ isW h' t l cap (va + vb) ∧ fr [t, l] h h') := by
  obtain ⟨g0, n0, c_t, c_l, q1, q2, q3⟩ := ht
  obtain ⟨ga, na, c_ta, c_la, p1, p2, p3⟩ := ha
  obtain ⟨gb, nb, c_tb, c_lb, r1, r2, r3⟩ := hb
  have s1 := nv_nonneg p2.1
  have s2 := nv_nonneg r2.1
  have hna : na ≤ cap := nv_fit p2 (by omega)
  have hnb : nb ≤ cap := nv_fit r2 (by omega)
  have hne : l ≠ t := fun e => am_oa c_t c_l e.symm
  have J2 : ∀ lon : Nat, na ≤ lon → nb ≤ lon → ∀ most : Nat, most ≤ cap → lon ≤ most → (lon < most ∨ most = cap) → am_w X d 99 (43, [.ref t, .ref ta, .ref tb, .int (iI lon), am_U, am_U, am_U, am_U, am_U, am_U, am_U], [.int (iI most)], h) (fun r h' => r = none ∧ isW h' t l cap (va + vb) ∧ fr [t, l] h h') := by
    intro lon h1 h2 most h3 h4 h5
    refine wr_istore (ls' := [_, _, _, _, _, _, _, _, _, _, _]) rfl rfl (Nat.le_of_ble_eq_true rfl) rfl ?_
    refine wr_lconst (z := 0) rfl rfl rfl ?_
    refine wr_lstore (ls' := [_, _, _, _, _, _, _, _, _, _, _]) rfl rfl (Nat.le_of_ble_eq_true rfl) rfl ?_
    refine wr_iconst rfl rfl ?_
    refine wr_istore (ls' := [_, _, _, _, _, _, _, _, _, _, _]) rfl rfl (Nat.le_of_ble_eq_true rfl) rfl ?_
    refine wr_iconst rfl rfl ?_
    refine wr_istore (ls' := [_, _, _, _, _, _, _, _, _, _, _]) rfl rfl (Nat.le_of_ble_eq_true rfl) rfl ?_
    have hw := wp_sum_loop (X := X) (d := d) (lon := lon) (most := most) (Q := fun r h' => r = none ∧ isW h' t l cap (va + vb) ∧ fr [t, l] h h') c_t c_l c_ta c_la c_tb c_lb hcap.2 hca hcb p1 r1 p2 r2 h3 hdb ?_ most 0 0 g0 0 (by omega) (Or.inl rfl) rfl (fun j hj => by omega) (fun j hj => rfl) ⟨Nat.le_refl _, fun j a b => by omega, fun q => by omega⟩
    · rw [am_set_id c_l] at hw
      exact hw
    · intro g u c hc he hg hu
      rw [nv_ext (by omega), nv_ext (by omega), p3, r3] at he
      have n1 := nv_nonneg hg
      have hlt : va + vb < 1000000000 ^ most := by
        rcases h5 with q | q
        · have a1 := bp_mono (m := na) (n := lon) h1
          have a2 := bp_mono (m := nb) (n := lon) h2
          have a3 := bp_mono (m := lon + 1) (n := most) (by omega)
          rw [Int.pow_succ] at a3
          have a4 := bp_pos lon
          omega
        · rw [q]; exact hfit
      have hc0 : c = 0 := by
        rcases hc with q | q
        · exact q
        · subst q; omega
      subst hc0
      have e2 : nv g u = va + vb := by rw [← top_nv hu]; omega
      have hu1 := hu.1
      refine ⟨rfl, ?_, fr_set2⟩
      rw [← e2]
      exact isW.mk2 c_t c_l hne (by omega) ⟨fun j hj => hg j (by omega), hu.2.2⟩
  have J1 : ∀ lon : Nat, na ≤ lon → nb ≤ lon → lon ≤ cap → am_w X d 99 (22, [.ref t, .ref ta, .ref tb, am_U, am_U, am_U, am_U, am_U, am_U, am_U, am_U], [.int (iI lon)], h) (fun r h' => r = none ∧ isW h' t l cap (va + vb) ∧ fr [t, l] h h') := by
    intro lon h1 h2 h3
    refine wr_istore_n (ls' := [_, _, _, _, _, _, _, _, _, _, _]) rfl rfl (Nat.le_of_ble_eq_true rfl) rfl ?_
    refine wr_iload_n rfl rfl rfl ?_
    refine wr_aload_n rfl rfl rfl ?_
    refine wr_get (ci := 5) (f := 0) rfl rfl rfl (by assumption) rfl ?_
    refine wr_alen rfl rfl (by assumption) (by decide) ?_
    refine wr_icmp_ge rfl rfl rfl (by omega) (by omega) (fun c29 => ?_) (fun c29 => ?_)
    ·
      refine wr_aload_n rfl rfl rfl ?_
      refine wr_get (ci := 5) (f := 0) rfl rfl rfl (by assumption) rfl ?_
      refine wr_alen rfl rfl (by assumption) (by decide) ?_
      exact J2 lon h1 h2 cap (by omega) (by omega) (by omega)
    ·
      refine wr_iload_n rfl rfl rfl ?_
      refine wr_iconst rfl rfl ?_
      refine wr_iadd rfl rfl ?_
      refine wr_goto rfl rfl ?_
      rw [show (lon : Int) + 1 = ((lon + 1 : Nat) : Int) by omega]
      exact J2 lon h1 h2 (lon + 1) (by omega) (by omega) (by omega)
  refine am_c.of (Nat.le_of_ble_eq_true rfl) ?_
  show am_w _ _ _ (_, [_, _, _, _, _, _, _, _, _, _, _], _, _) _
  refine wr_aload_n rfl rfl rfl ?_
  refine wr_get (ci := 5) (f := 1) rfl rfl rfl (by assumption) rfl ?_
  refine wr_aload_n rfl rfl rfl ?_
  refine wr_get (ci := 5) (f := 1) rfl rfl rfl (by assumption) rfl ?_
  refine wr_icmp_le rfl rfl rfl (by omega) (by omega) (fun c8 => ?_) (fun c8 => ?_)
  ·
    refine wr_aload_n rfl rfl rfl ?_
    refine wr_get (ci := 5) (f := 1) rfl rfl rfl (by assumption) rfl ?_
    exact J1 nb (by omega) (by omega) (by omega)
  ·
    refine wr_aload_n rfl rfl rfl ?_
    refine wr_get (ci := 5) (f := 1) rfl rfl rfl (by assumption) rfl ?_
    refine wr_goto rfl rfl ?_
    exact J1 na (by omega) (by omega) (by omega)
end WHR
end
section
/-! WHOLE NUMBERS OF THE CLASS: difference, factor, scale, beginDigits, setDigit -/
section WHS
variable {X : Nat × (Nat → Int32)}
theorem wp_diff_loop {d t l cap ta la ca tb lb cb na nb : Nat} {h0 : am_H} {n0 : Int} {g0 ga gb : Nat → Int} {Q : Option Value → am_H → Prop} (ht : h0[t]? = some (.inr (cWh, [.ref l, .int (iI n0)]))) (hl : h0[l]? = some (am_la cap g0)) (hta : h0[ta]? = some (.inr (cWh, [.ref la, .int (iI na)]))) (hla : h0[la]? = some (am_la ca ga)) (htb : h0[tb]? = some (.inr (cWh, [.ref lb, .int (iI nb)]))) (hlb : h0[lb]? = some (am_la cb gb))
    (hcap : cap ≤ 1000000) (hca : ca ≤ 1000000) (hcb : cb ≤ 1000000) (hna : na ≤ ca) (hnb : nb ≤ cb) (ka : nok ga na) (kb : nok gb nb) (hmost : na ≤ cap) (hda : l ≠ la) (hdb : l ≠ lb)
    (K : ∀ (g : Nat → Int) (u : Nat) (c : Int), (c = 0 ∨ c = 1) → nv g na - c * 1000000000 ^ na = nv ga na - nv (ext gb nb) na → (∀ j, j < na → 0 ≤ g j ∧ g j < 1000000000) → top g u na → Q none ((h0.set l (am_la cap g)).set t (.inr (cWh, [.ref l, .int (iI u)])))) :
    ∀ (m i u : Nat) (g : Nat → Int) (c : Int), i + m = na → (c = 0 ∨ c = 1) → nv g i - c * 1000000000 ^ i = nv ga i - nv (ext gb nb) i → (∀ j, j < i → 0 ≤ g j ∧ g j < 1000000000) → top g u i → am_w X d 100 (34, [.ref t, .ref ta, .ref tb, .int (iI na), .long (lI c), am_U, .int (iI u), .int (iI i), am_U, am_U], [], h0.set l (am_la cap g)) Q := by
  have hne : l ≠ t := fun e => am_oa ht hl e.symm
  have hne2 : l ≠ ta := fun e => am_oa hta hl e.symm
  have hne3 : l ≠ tb := fun e => am_oa htb hl e.symm
  intro m
  induction m with
  | zero =>
    intro i u g c hm hc he hg hu
    have c_t : (h0.set l (am_la cap g))[t]? = some (.inr (cWh, [.ref l, .int (iI n0)])) := by rw [am_set_n hne]; exact ht
    obtain rfl : i = na := by omega
    refine wr_iload rfl rfl rfl ?_
    refine wr_iload_n rfl rfl rfl ?_
    refine wr_icmp_ge rfl rfl rfl (by omega) (by omega) (fun c37 => ?_) (fun c37 => ?_)
    ·
      refine wr_aload_n rfl rfl rfl ?_
      refine wr_iload rfl rfl rfl ?_
      refine wr_putI (ci := 5) (f := 1) (fs' := [_, _]) rfl rfl rfl (by assumption) rfl rfl rfl (fun h1 e1 => ?_)
      refine wr_vret rfl rfl ?_
      rw [e1]
      exact K g u c hc he hg hu
    · exfalso; omega
  | succ m ih =>
    intro i u g c hm hc he hg hu
    have hu1 := hu.1
    have c_t : (h0.set l (am_la cap g))[t]? = some (.inr (cWh, [.ref l, .int (iI n0)])) := by rw [am_set_n hne]; exact ht
    have c_l : (h0.set l (am_la cap g))[l]? = some (am_la cap g) := am_set_s hl
    have c_ta : (h0.set l (am_la cap g))[ta]? = some (.inr (cWh, [.ref la, .int (iI na)])) := by rw [am_set_n hne2]; exact hta
    have c_la : (h0.set l (am_la cap g))[la]? = some (am_la ca ga) := by rw [am_set_n hda]; exact hla
    have c_tb : (h0.set l (am_la cap g))[tb]? = some (.inr (cWh, [.ref lb, .int (iI nb)])) := by rw [am_set_n hne3]; exact htb
    have c_lb : (h0.set l (am_la cap g))[lb]? = some (am_la cb gb) := by rw [am_set_n hdb]; exact hlb
    have xa := ka.1 i (by omega)
    have xb := ext_in kb i
    obtain ⟨s, hs⟩ : ∃ s, s = ga i - c - ext gb nb i := ⟨_, rfl⟩
    obtain ⟨c', hc'⟩ : ∃ c' : Int, c' = if s < 0 then 1 else 0 := ⟨_, rfl⟩
    have hc2 : (c' = 1 ∧ s < 0) ∨ (c' = 0 ∧ 0 ≤ s) := by
      by_cases q : s < 0
      · rw [if_pos q] at hc'; exact Or.inl ⟨hc', q⟩
      · rw [if_neg q] at hc'; exact Or.inr ⟨hc', by omega⟩
    have hx : 0 ≤ s + c' * 1000000000 ∧ s + c' * 1000000000 < 1000000000 := by omega
    obtain ⟨x, hxe⟩ : ∃ x, x = s + c' * 1000000000 := ⟨_, rfl⟩
    have J4 : ∀ u' : Nat, top (updI g i x) u' (i + 1) → am_w X d 100 (124, [.ref t, .ref ta, .ref tb, .int (iI na), .long (lI c'), am_U, .int (iI u), .int (iI i), am_U, am_U], [.int (iI u')], h0.set l (am_la cap (updI g i x))) Q := by
      intro u' hu'
      refine wr_istore (ls' := [_, _, _, _, _, _, _, _, _, _]) rfl rfl (Nat.le_of_ble_eq_true rfl) rfl ?_
      refine wr_iinc (ls' := [_, _, _, _, _, _, _, _, _, _]) rfl rfl rfl rfl ?_
      refine wr_goto rfl rfl ?_
      rw [show (i : Int) + 1 = ((i + 1 : Nat) : Int) by omega]
      refine ih (i + 1) u' (updI g i x) c' (by omega) (by omega) ?_ (dig_step hg (by omega)) hu'
      rw [nv_upd]
      show _ = nv ga i + ga i * 1000000000 ^ i - (nv (ext gb nb) i + ext gb nb i * 1000000000 ^ i)
      rw [Int.pow_succ]
      generalize (1000000000 : Int) ^ i = p at he ⊢
      generalize nv ga i = A at he ⊢
      generalize nv (ext gb nb) i = B at he ⊢
      generalize nv g i = G at he ⊢
      subst hxe hs
      grind
    have J3 : am_w X d 100 (85, [.ref t, .ref ta, .ref tb, .int (iI na), .long (lI c), am_U, .int (iI u), .int (iI i), .long (lI s), am_U], [.long (lI c')], h0.set l (am_la cap g)) Q := by
      refine wr_lstore (ls' := [_, _, _, _, _, _, _, _, _, _]) rfl rfl (Nat.le_of_ble_eq_true rfl) rfl ?_
      refine wr_aload_n rfl rfl rfl ?_
      refine wr_get (ci := 5) (f := 0) rfl rfl rfl (by assumption) rfl ?_
      refine wr_iload rfl rfl rfl ?_
      refine wr_lload rfl rfl rfl ?_
      refine wr_lload rfl rfl rfl ?_
      refine wr_ldc2 (z := 1000000000) rfl rfl rfl (by decide) ?_
      refine wr_lmul rfl rfl ?_
      refine wr_ladd rfl rfl ?_
      refine wr_last rfl rfl (by assumption) (by omega) (by omega) (fun h1 e1 => ?_)
      rw [List.set_set, Int.toNat_natCast, ← hxe] at e1
      have d_t : h1[t]? = some (.inr (cWh, [.ref l, .int (iI n0)])) := by rw [e1, am_set_n hne]; exact ht
      have d_l : h1[l]? = some (am_la cap (updI g i x)) := by rw [e1]; exact am_set_s hl
      refine wr_aload_n rfl rfl rfl ?_
      refine wr_get (ci := 5) (f := 0) rfl rfl rfl (by assumption) rfl ?_
      refine wr_iload rfl rfl rfl ?_
      refine wr_lald rfl rfl (by assumption) (by omega) (by omega) ?_
      refine wr_lconst (z := 0) rfl rfl rfl ?_
      rw [Int.toNat_natCast, updI_s]
      refine wr_l_eq rfl rfl rfl rfl rfl (by omega) (by omega) (fun c111 => ?_) (fun c111 => ?_)
      ·
        refine wr_iload rfl rfl rfl ?_
        refine am_w.wk (ls' := [_, _, _, _, _, _, _, _, am_U, _]) ⟨Or.inr rfl, Or.inr rfl, Or.inr rfl, Or.inr rfl, Or.inr rfl, Or.inr rfl, Or.inr rfl, Or.inr rfl, Or.inl rfl, Or.inr rfl, trivial⟩ ?_
        rw [e1]
        exact J4 u ((top_step hu).1 c111)
      ·
        refine wr_iload rfl rfl rfl ?_
        refine wr_iconst rfl rfl ?_
        refine wr_iadd rfl rfl ?_
        refine wr_goto rfl rfl ?_
        refine am_w.wk (ls' := [_, _, _, _, _, _, _, _, am_U, _]) ⟨Or.inr rfl, Or.inr rfl, Or.inr rfl, Or.inr rfl, Or.inr rfl, Or.inr rfl, Or.inr rfl, Or.inr rfl, Or.inl rfl, Or.inr rfl, trivial⟩ ?_
        rw [e1, show (i : Int) + 1 = ((i + 1 : Nat) : Int) by omega]
        exact J4 (i + 1) ((top_step hu).2 c111)
    have J2 : am_w X d 100 (70, [.ref t, .ref ta, .ref tb, .int (iI na), .long (lI c), am_U, .int (iI u), .int (iI i), am_U, am_U], [.long (lI (ext gb nb i)), .long (lI (ga i - c))], h0.set l (am_la cap g)) Q := by
      refine wr_lsub rfl rfl ?_
      refine wr_lstore (ls' := [_, _, _, _, _, _, _, _, _, _]) rfl rfl (Nat.le_of_ble_eq_true rfl) rfl ?_
      refine wr_lload rfl rfl rfl ?_
      refine wr_lconst (z := 0) rfl rfl rfl ?_
      rw [← hs]
      refine wr_l_ge rfl rfl rfl rfl rfl (by omega) (by omega) (fun c76 => ?_) (fun c76 => ?_)
      ·
        refine wr_lconst (z := 0) rfl rfl rfl ?_
        rw [show (0 : Int) = c' by omega]
        exact J3
      ·
        refine wr_lconst (z := 1) rfl rfl rfl ?_
        refine wr_goto rfl rfl ?_
        rw [show (1 : Int) = c' by omega]
        exact J3
    refine wr_iload rfl rfl rfl ?_
    refine wr_iload_n rfl rfl rfl ?_
    refine wr_icmp_ge rfl rfl rfl (by omega) (by omega) (fun c37 => ?_) (fun c37 => ?_)
    · exfalso; omega
    ·
      refine wr_aload_n rfl rfl rfl ?_
      refine wr_get (ci := 5) (f := 0) rfl rfl rfl (by assumption) rfl ?_
      refine wr_iload rfl rfl rfl ?_
      refine wr_lald rfl rfl (by assumption) (by omega) (by omega) ?_
      refine wr_lload rfl rfl rfl ?_
      refine wr_lsub rfl rfl ?_
      refine wr_iload rfl rfl rfl ?_
      refine wr_aload_n rfl rfl rfl ?_
      refine wr_get (ci := 5) (f := 1) rfl rfl rfl (by assumption) rfl ?_
      rw [Int.toNat_natCast]
      refine wr_icmp_ge rfl rfl rfl (by omega) (by omega) (fun c56 => ?_) (fun c56 => ?_)
      ·
        refine wr_lconst (z := 0) rfl rfl rfl ?_
        rw [show (0 : Int) = ext gb nb i from (ext_ge (by omega)).symm]
        exact J2
      ·
        refine wr_aload_n rfl rfl rfl ?_
        refine wr_get (ci := 5) (f := 0) rfl rfl rfl (by assumption) rfl ?_
        refine wr_iload rfl rfl rfl ?_
        refine wr_lald rfl rfl (by assumption) (by omega) (by omega) ?_
        refine wr_goto rfl rfl ?_
        rw [Int.toNat_natCast, ← ext_lt (g := gb) (n := nb) (j := i) (by omega)]
        exact J2
theorem wp_diff {d t l cap ta la ca tb lb cb : Nat} {h : am_H} {v0 va vb : Int} (ht : isW h t l cap v0) (ha : isW h ta la ca va) (hb : isW h tb lb cb vb) (hcap : cap ≤ 1000000) (hca : ca ≤ 1000000) (hcb : cb ≤ 1000000) (hda : l ≠ la) (hdb : l ≠ lb) (hfit : va < 1000000000 ^ cap) (hle : vb ≤ va) :
    am_c X (d + 1) 100 [.ref t, .ref ta, .ref tb] h (fun r h' => r = none ∧ isW h' t l cap (va - vb) ∧ fr [t, l] h h') := by
  obtain ⟨g0, n0, c_t, c_l, q1, q2, q3⟩ := ht
  obtain ⟨ga, na, c_ta, c_la, p1, p2, p3⟩ := ha
  obtain ⟨gb, nb, c_tb, c_lb, r1, r2, r3⟩ := hb
  have hna : na ≤ cap := nv_fit p2 (by omega)
  have hnb : nb ≤ na := by
    rcases Nat.lt_or_ge na nb with q | q
    · have := nv_short r2 p2 q
      omega
    · exact q
  have hne : l ≠ t := fun e => am_oa c_t c_l e.symm
  have J1 : am_w X d 100 (24, [.ref t, .ref ta, .ref tb, am_U, am_U, am_U, am_U, am_U, am_U, am_U], [.int (iI na)], h) (fun r h' => r = none ∧ isW h' t l cap (va - vb) ∧ fr [t, l] h h') := by
    refine wr_istore_n (ls' := [_, _, _, _, _, _, _, _, _, _]) rfl rfl (Nat.le_of_ble_eq_true rfl) rfl ?_
    refine wr_lconst (z := 0) rfl rfl rfl ?_
    refine wr_lstore (ls' := [_, _, _, _, _, _, _, _, _, _]) rfl rfl (Nat.le_of_ble_eq_true rfl) rfl ?_
    refine wr_iconst rfl rfl ?_
    refine wr_istore (ls' := [_, _, _, _, _, _, _, _, _, _]) rfl rfl (Nat.le_of_ble_eq_true rfl) rfl ?_
    refine wr_iconst rfl rfl ?_
    refine wr_istore (ls' := [_, _, _, _, _, _, _, _, _, _]) rfl rfl (Nat.le_of_ble_eq_true rfl) rfl ?_
    have hw := wp_diff_loop (X := X) (d := d) (Q := fun r h' => r = none ∧ isW h' t l cap (va - vb) ∧ fr [t, l] h h') c_t c_l c_ta c_la c_tb c_lb hcap hca hcb p1 r1 p2 r2 hna hda hdb ?_ na 0 0 g0 0 (by omega) (Or.inl rfl) rfl (fun j hj => by omega) ⟨Nat.le_refl _, fun j a b => by omega, fun q => by omega⟩
    · rw [am_set_id c_l] at hw
      exact hw
    · intro g u c hc he hg hu
      rw [nv_ext hnb, p3, r3] at he
      have n1 := nv_nonneg hg
      have hc0 : c = 0 := by
        rcases hc with q | q
        · exact q
        · subst q; omega
      subst hc0
      have e2 : nv g u = va - vb := by rw [← top_nv hu]; omega
      have hu1 := hu.1
      refine ⟨rfl, ?_, fr_set2⟩
      rw [← e2]
      exact isW.mk2 c_t c_l hne (by omega) ⟨fun j hj => hg j (by omega), hu.2.2⟩
  refine am_c.of (Nat.le_of_ble_eq_true rfl) ?_
  show am_w _ _ _ (_, [_, _, _, _, _, _, _, _, _, _], _, _) _
  refine wr_aload_n rfl rfl rfl ?_
  refine wr_get (ci := 5) (f := 1) rfl rfl rfl (by assumption) rfl ?_
  refine wr_aload_n rfl rfl rfl ?_
  refine wr_get (ci := 5) (f := 0) rfl rfl rfl (by assumption) rfl ?_
  refine wr_alen rfl rfl (by assumption) (by decide) ?_
  refine wr_icmp_ge rfl rfl rfl (by omega) (by omega) (fun c9 => ?_) (fun c9 => ?_)
  ·
    refine wr_aload_n rfl rfl rfl ?_
    refine wr_get (ci := 5) (f := 0) rfl rfl rfl (by assumption) rfl ?_
    refine wr_alen rfl rfl (by assumption) (by decide) ?_
    rw [show (cap : Int) = na by omega]
    exact J1
  ·
    refine wr_aload_n rfl rfl rfl ?_
    refine wr_get (ci := 5) (f := 1) rfl rfl rfl (by assumption) rfl ?_
    refine wr_goto rfl rfl ?_
    exact J1
/-- the factor of a divisor -/
def wFac (g : Nat → Int) (n : Nat) : Int := if n = 0 then 1 else 1000000000 / (g (n - 1) + 1)
theorem wFac_in {g : Nat → Int} {n : Nat} (h : nok g n) : 1 ≤ wFac g n ∧ wFac g n ≤ 500000000 := by
  unfold wFac
  by_cases e : n = 0
  · rw [if_pos e]; omega
  · rw [if_neg e]
    have h1 := h.1 (n - 1) (by omega)
    have h2 := h.2 (by omega)
    constructor
    · exact (Int.le_ediv_iff_mul_le (by omega)).mpr (by omega)
    · have h3 : 1000000000 / (g (n - 1) + 1) ≤ 1000000000 / 2 := by
        apply Int.ediv_le_of_le_mul (by omega)
        have h4 : 500000000 * 2 ≤ 500000000 * (g (n - 1) + 1) := Int.mul_le_mul_of_nonneg_left (by omega) (by omega)
        omega
      omega
theorem wp_factor {d t l cap n : Nat} {h : am_H} {g : Nat → Int} (c_t : h[t]? = some (.inr (cWh, [.ref l, .int (iI n)]))) (c_l : h[l]? = some (am_la cap g)) (hcap : cap ≤ 1000000) (hn : n ≤ cap) (hk : nok g n) :
    am_c X (d + 1) 90 [.ref t] h (fun r h' => r = some (.long (lI (wFac g n))) ∧ h' = h) := by
  refine am_c.of (Nat.le_of_ble_eq_true rfl) ?_
  show am_w _ _ _ (_, [_], _, _) _
  refine wr_aload_n rfl rfl rfl ?_
  refine wr_get (ci := 5) (f := 1) rfl rfl rfl (by assumption) rfl ?_
  refine wr_if_le rfl rfl rfl (by omega) (fun c4 => ?_) (fun c4 => ?_)
  ·
    refine wr_lconst (z := 1) rfl rfl rfl ?_
    refine wr_lret rfl rfl ?_
    have e0 : n = 0 := by omega
    unfold wFac
    rw [if_pos e0]
    exact ⟨rfl, rfl⟩
  ·
    have h1 := hk.1 (n - 1) (by omega)
    refine wr_ldc2 (z := 1000000000) rfl rfl rfl (by decide) ?_
    refine wr_aload_n rfl rfl rfl ?_
    refine wr_get (ci := 5) (f := 0) rfl rfl rfl (by assumption) rfl ?_
    refine wr_aload_n rfl rfl rfl ?_
    refine wr_get (ci := 5) (f := 1) rfl rfl rfl (by assumption) rfl ?_
    refine wr_iconst rfl rfl ?_
    refine wr_isub rfl rfl ?_
    rw [show (n : Int) - 1 = ((n - 1 : Nat) : Int) by omega]
    refine wr_lald rfl rfl (by assumption) (by omega) (by omega) ?_
    rw [Int.toNat_natCast]
    refine wr_lconst (z := 1) rfl rfl rfl ?_
    refine wr_ladd rfl rfl ?_
    refine wr_ldivN rfl rfl (by omega) (by omega) (by omega) (by omega) ?_
    refine wr_goto rfl rfl ?_
    refine wr_lret rfl rfl ?_
    unfold wFac
    rw [if_neg (by omega)]
    exact ⟨rfl, rfl⟩
theorem wp_scale_loop {d t l cap ta la ca na most : Nat} {h0 : am_H} {n0 f : Int} {g0 ga : Nat → Int} {Q : Option Value → am_H → Prop} (ht : h0[t]? = some (.inr (cWh, [.ref l, .int (iI n0)]))) (hl : h0[l]? = some (am_la cap g0)) (hta : h0[ta]? = some (.inr (cWh, [.ref la, .int (iI na)]))) (hla : h0[la]? = some (am_la ca ga))
    (hcap : cap ≤ 1000000) (hca : ca ≤ 1000000) (hna : na ≤ ca) (ka : nok ga na) (hf : 1 ≤ f ∧ f ≤ 500000000) (hmost : most ≤ cap) (hda : l ≠ la)
    (K : ∀ (g : Nat → Int) (u : Nat) (c : Int), 0 ≤ c → c < f → nv g most + c * 1000000000 ^ most = f * nv (ext ga na) most → (∀ j, j < most → 0 ≤ g j ∧ g j < 1000000000) → top g u most → Q none ((h0.set l (am_la cap g)).set t (.inr (cWh, [.ref l, .int (iI u)])))) :
    ∀ (m i u : Nat) (g : Nat → Int) (c : Int), i + m = most → 0 ≤ c → c < f → nv g i + c * 1000000000 ^ i = f * nv (ext ga na) i → (∀ j, j < i → 0 ≤ g j ∧ g j < 1000000000) → top g u i → am_w X d 91 (37, [.ref t, .ref ta, .long (lI f), am_U, .int (iI most), .long (lI c), am_U, .int (iI u), .int (iI i), am_U, am_U], [], h0.set l (am_la cap g)) Q := by
  have hne : l ≠ t := fun e => am_oa ht hl e.symm
  have hne2 : l ≠ ta := fun e => am_oa hta hl e.symm
  intro m
  induction m with
  | zero =>
    intro i u g c hm hc hcf he hg hu
    have c_t : (h0.set l (am_la cap g))[t]? = some (.inr (cWh, [.ref l, .int (iI n0)])) := by rw [am_set_n hne]; exact ht
    obtain rfl : i = most := by omega
    refine wr_iload rfl rfl rfl ?_
    refine wr_iload rfl rfl rfl ?_
    refine wr_icmp_ge rfl rfl rfl (by omega) (by omega) (fun c41 => ?_) (fun c41 => ?_)
    ·
      refine wr_aload_n rfl rfl rfl ?_
      refine wr_iload rfl rfl rfl ?_
      refine wr_putI (ci := 5) (f := 1) (fs' := [_, _]) rfl rfl rfl (by assumption) rfl rfl rfl (fun h1 e1 => ?_)
      refine wr_vret rfl rfl ?_
      rw [e1]
      exact K g u c hc hcf he hg hu
    · exfalso; omega
  | succ m ih =>
    intro i u g c hm hc hcf he hg hu
    have hu1 := hu.1
    have c_t : (h0.set l (am_la cap g))[t]? = some (.inr (cWh, [.ref l, .int (iI n0)])) := by rw [am_set_n hne]; exact ht
    have c_l : (h0.set l (am_la cap g))[l]? = some (am_la cap g) := am_set_s hl
    have c_ta : (h0.set l (am_la cap g))[ta]? = some (.inr (cWh, [.ref la, .int (iI na)])) := by rw [am_set_n hne2]; exact hta
    have c_la : (h0.set l (am_la cap g))[la]? = some (am_la ca ga) := by rw [am_set_n hda]; exact hla
    have xa := ext_in ka i
    have xm : 0 ≤ ext ga na i * f ∧ ext ga na i * f ≤ 999999999 * f := ⟨Int.mul_nonneg (by omega) (by omega), Int.mul_le_mul_of_nonneg_right (by omega) (by omega)⟩
    obtain ⟨s, hs⟩ : ∃ s, s = c + ext ga na i * f := ⟨_, rfl⟩
    obtain ⟨c', hc'⟩ : ∃ c', c' = s / 1000000000 := ⟨_, rfl⟩
    obtain ⟨x, hxe⟩ : ∃ x, x = s - c' * 1000000000 := ⟨_, rfl⟩
    have hx : 0 ≤ x ∧ x < 1000000000 ∧ 0 ≤ c' ∧ c' < f := by omega
    have J4 : ∀ u' : Nat, top (updI g i x) u' (i + 1) → am_w X d 91 (116, [.ref t, .ref ta, .long (lI f), am_U, .int (iI most), .long (lI c'), am_U, .int (iI u), .int (iI i), am_U, am_U], [.int (iI u')], h0.set l (am_la cap (updI g i x))) Q := by
      intro u' hu'
      refine wr_istore (ls' := [_, _, _, _, _, _, _, _, _, _, _]) rfl rfl (Nat.le_of_ble_eq_true rfl) rfl ?_
      refine wr_iinc (ls' := [_, _, _, _, _, _, _, _, _, _, _]) rfl rfl rfl rfl ?_
      refine wr_goto rfl rfl ?_
      rw [show (i : Int) + 1 = ((i + 1 : Nat) : Int) by omega]
      refine ih (i + 1) u' (updI g i x) c' (by omega) (by omega) (by omega) ?_ (dig_step hg (by omega)) hu'
      rw [nv_upd]
      show _ = f * (nv (ext ga na) i + ext ga na i * 1000000000 ^ i)
      rw [Int.pow_succ]
      generalize (1000000000 : Int) ^ i = p at he ⊢
      generalize nv (ext ga na) i = A at he ⊢
      generalize nv g i = G at he ⊢
      clear hc'
      subst hxe hs
      grind
    have J2 : am_w X d 91 (68, [.ref t, .ref ta, .long (lI f), am_U, .int (iI most), .long (lI c), am_U, .int (iI u), .int (iI i), am_U, am_U], [.long (lI (ext ga na i * f)), .long (lI c)], h0.set l (am_la cap g)) Q := by
      refine wr_ladd rfl rfl ?_
      refine wr_lstore (ls' := [_, _, _, _, _, _, _, _, _, _, _]) rfl rfl (Nat.le_of_ble_eq_true rfl) rfl ?_
      rw [← hs]
      refine wr_lload rfl rfl rfl ?_
      refine wr_ldc2 (z := 1000000000) rfl rfl rfl (by decide) ?_
      refine wr_ldivN rfl rfl (by omega) (by omega) (by omega) (by omega) ?_
      rw [← hc']
      refine wr_lstore (ls' := [_, _, _, _, _, _, _, _, _, _, _]) rfl rfl (Nat.le_of_ble_eq_true rfl) rfl ?_
      refine wr_aload_n rfl rfl rfl ?_
      refine wr_get (ci := 5) (f := 0) rfl rfl rfl (by assumption) rfl ?_
      refine wr_iload rfl rfl rfl ?_
      refine wr_lload rfl rfl rfl ?_
      refine wr_lload rfl rfl rfl ?_
      refine wr_ldc2 (z := 1000000000) rfl rfl rfl (by decide) ?_
      refine wr_lmul rfl rfl ?_
      refine wr_lsub rfl rfl ?_
      refine wr_last rfl rfl (by assumption) (by omega) (by omega) (fun h1 e1 => ?_)
      rw [List.set_set, Int.toNat_natCast, ← hxe] at e1
      have d_t : h1[t]? = some (.inr (cWh, [.ref l, .int (iI n0)])) := by rw [e1, am_set_n hne]; exact ht
      have d_l : h1[l]? = some (am_la cap (updI g i x)) := by rw [e1]; exact am_set_s hl
      refine wr_aload_n rfl rfl rfl ?_
      refine wr_get (ci := 5) (f := 0) rfl rfl rfl (by assumption) rfl ?_
      refine wr_iload rfl rfl rfl ?_
      refine wr_lald rfl rfl (by assumption) (by omega) (by omega) ?_
      refine wr_lconst (z := 0) rfl rfl rfl ?_
      rw [Int.toNat_natCast, updI_s]
      refine wr_l_eq rfl rfl rfl rfl rfl (by omega) (by omega) (fun c103 => ?_) (fun c103 => ?_)
      ·
        refine wr_iload rfl rfl rfl ?_
        refine am_w.wk (ls' := [_, _, _, _, _, _, _, _, _, am_U, _]) ⟨Or.inr rfl, Or.inr rfl, Or.inr rfl, Or.inr rfl, Or.inr rfl, Or.inr rfl, Or.inr rfl, Or.inr rfl, Or.inr rfl, Or.inl rfl, Or.inr rfl, trivial⟩ ?_
        rw [e1]
        exact J4 u ((top_step hu).1 c103)
      ·
        refine wr_iload rfl rfl rfl ?_
        refine wr_iconst rfl rfl ?_
        refine wr_iadd rfl rfl ?_
        refine wr_goto rfl rfl ?_
        refine am_w.wk (ls' := [_, _, _, _, _, _, _, _, _, am_U, _]) ⟨Or.inr rfl, Or.inr rfl, Or.inr rfl, Or.inr rfl, Or.inr rfl, Or.inr rfl, Or.inr rfl, Or.inr rfl, Or.inr rfl, Or.inl rfl, Or.inr rfl, trivial⟩ ?_
        rw [e1, show (i : Int) + 1 = ((i + 1 : Nat) : Int) by omega]
        exact J4 (i + 1) ((top_step hu).2 c103)
    refine wr_iload rfl rfl rfl ?_
    refine wr_iload rfl rfl rfl ?_
    refine wr_icmp_ge rfl rfl rfl (by omega) (by omega) (fun c41 => ?_) (fun c41 => ?_)
    · exfalso; omega
    ·
      refine wr_lload rfl rfl rfl ?_
      refine wr_iload rfl rfl rfl ?_
      refine wr_aload_n rfl rfl rfl ?_
      refine wr_get (ci := 5) (f := 1) rfl rfl rfl (by assumption) rfl ?_
      refine wr_icmp_ge rfl rfl rfl (by omega) (by omega) (fun c52 => ?_) (fun c52 => ?_)
      ·
        refine wr_lconst (z := 0) rfl rfl rfl ?_
        rw [show (0 : Int) = ext ga na i * f by rw [ext_ge (by omega)]; omega]
        exact J2
      ·
        refine wr_aload_n rfl rfl rfl ?_
        refine wr_get (ci := 5) (f := 0) rfl rfl rfl (by assumption) rfl ?_
        refine wr_iload rfl rfl rfl ?_
        refine wr_lald rfl rfl (by assumption) (by omega) (by omega) ?_
        refine wr_lload_n rfl rfl rfl ?_
        refine wr_lmul rfl rfl ?_
        refine wr_goto rfl rfl ?_
        rw [Int.toNat_natCast, ← ext_lt (g := ga) (n := na) (j := i) (by omega)]
        exact J2
theorem wp_scale {d t l cap ta la ca : Nat} {h : am_H} {v0 va f : Int} (ht : isW h t l cap v0) (ha : isW h ta la ca va) (hcap : 0 < cap ∧ cap ≤ 1000000) (hca : ca ≤ 1000000) (hda : l ≠ la) (hf : 1 ≤ f ∧ f ≤ 500000000) (hfit : f * va < 1000000000 ^ cap) :
    am_c X (d + 1) 91 [.ref t, .ref ta, .long (lI f)] h (fun r h' => r = none ∧ isW h' t l cap (f * va) ∧ fr [t, l] h h') := by
  obtain ⟨g0, n0, c_t, c_l, q1, q2, q3⟩ := ht
  obtain ⟨ga, na, c_ta, c_la, p1, p2, p3⟩ := ha
  have s1 := nv_nonneg p2.1
  have s3 : 1 * va ≤ f * va := Int.mul_le_mul_of_nonneg_right (by omega) (by omega)
  have hna : na ≤ cap := nv_fit p2 (by omega)
  have hne : l ≠ t := fun e => am_oa c_t c_l e.symm
  have J1 : ∀ most : Nat, most ≤ cap → na ≤ most → (na < most ∨ most = cap) → am_w X d 91 (26, [.ref t, .ref ta, .long (lI f), am_U, am_U, am_U, am_U, am_U, am_U, am_U, am_U], [.int (iI most)], h) (fun r h' => r = none ∧ isW h' t l cap (f * va) ∧ fr [t, l] h h') := by
    intro most h3 h4 h5
    refine wr_istore (ls' := [_, _, _, _, _, _, _, _, _, _, _]) rfl rfl (Nat.le_of_ble_eq_true rfl) rfl ?_
    refine wr_lconst (z := 0) rfl rfl rfl ?_
    refine wr_lstore (ls' := [_, _, _, _, _, _, _, _, _, _, _]) rfl rfl (Nat.le_of_ble_eq_true rfl) rfl ?_
    refine wr_iconst rfl rfl ?_
    refine wr_istore (ls' := [_, _, _, _, _, _, _, _, _, _, _]) rfl rfl (Nat.le_of_ble_eq_true rfl) rfl ?_
    refine wr_iconst rfl rfl ?_
    refine wr_istore (ls' := [_, _, _, _, _, _, _, _, _, _, _]) rfl rfl (Nat.le_of_ble_eq_true rfl) rfl ?_
    have hw := wp_scale_loop (X := X) (d := d) (most := most) (Q := fun r h' => r = none ∧ isW h' t l cap (f * va) ∧ fr [t, l] h h') c_t c_l c_ta c_la hcap.2 hca p1 p2 hf h3 hda ?_ most 0 0 g0 0 (by omega) (by omega) (by omega) (by show (0 : Int) + 0 * _ = f * 0; omega) (fun j hj => by omega) ⟨Nat.le_refl _, fun j a b => by omega, fun q => by omega⟩
    · rw [am_set_id c_l] at hw
      exact hw
    · intro g u c hc hcf he hg hu
      rw [nv_ext h4, p3] at he
      have n1 := nv_nonneg hg
      have hlt : f * va < 1000000000 ^ most := by
        rcases h5 with q | q
        · have a3 := bp_mono (m := na + 1) (n := most) (by omega)
          rw [Int.pow_succ] at a3
          have a4 := bp_pos na
          have a5 : f * va ≤ 500000000 * va := Int.mul_le_mul_of_nonneg_right (by omega) (by omega)
          omega
        · rw [q]; exact hfit
      have hc0 : c = 0 := by
        rcases Int.lt_or_le 0 c with q | q
        · have : 1 * 1000000000 ^ most ≤ c * 1000000000 ^ most := Int.mul_le_mul_of_nonneg_right (by omega) (by have := bp_pos most; omega)
          omega
        · omega
      subst hc0
      have e2 : nv g u = f * va := by rw [← top_nv hu]; omega
      have hu1 := hu.1
      refine ⟨rfl, ?_, fr_set2⟩
      rw [← e2]
      exact isW.mk2 c_t c_l hne (by omega) ⟨fun j hj => hg j (by omega), hu.2.2⟩
  refine am_c.of (Nat.le_of_ble_eq_true rfl) ?_
  show am_w _ _ _ (_, [_, _, _, _, _, _, _, _, _, _, _], _, _) _
  refine wr_aload_n rfl rfl rfl ?_
  refine wr_get (ci := 5) (f := 1) rfl rfl rfl (by assumption) rfl ?_
  refine wr_aload_n rfl rfl rfl ?_
  refine wr_get (ci := 5) (f := 0) rfl rfl rfl (by assumption) rfl ?_
  refine wr_alen rfl rfl (by assumption) (by decide) ?_
  refine wr_icmp_ge rfl rfl rfl (by omega) (by omega) (fun c9 => ?_) (fun c9 => ?_)
  ·
    refine wr_aload_n rfl rfl rfl ?_
    refine wr_get (ci := 5) (f := 0) rfl rfl rfl (by assumption) rfl ?_
    refine wr_alen rfl rfl (by assumption) (by decide) ?_
    exact J1 cap (by omega) (by omega) (by omega)
  ·
    refine wr_aload_n rfl rfl rfl ?_
    refine wr_get (ci := 5) (f := 1) rfl rfl rfl (by assumption) rfl ?_
    refine wr_iconst rfl rfl ?_
    refine wr_iadd rfl rfl ?_
    refine wr_goto rfl rfl ?_
    rw [show (na : Int) + 1 = ((na + 1 : Nat) : Int) by omega]
    exact J1 (na + 1) (by omega) (by omega) (by omega)
end WHS
end
section
/-! WHOLE NUMBERS OF THE CLASS: product -/
theorem nv_at {g : Nat → Int} {p : Nat} {x : Int} : ∀ {n : Nat}, p < n → nv (updI g p x) n = nv g n + (x - g p) * 1000000000 ^ p
  | 0, h => by omega
  | n + 1, h => by
    show nv (updI g p x) n + updI g p x n * _ = nv g n + g n * _ + _
    by_cases e : p = n
    · subst e
      rw [updI_s, nv_congr (g := g) (g' := updI g p x) (fun i hi => updI_n (by omega))]
      grind
    · rw [updI_n (by omega), nv_at (n := n) (by omega)]
      omega
theorem nv_zero {g : Nat → Int} : ∀ {n : Nat}, (∀ j, j < n → g j = 0) → nv g n = 0
  | 0, _ => rfl
  | n + 1, h => by
    show nv g n + g n * _ = 0
    rw [nv_zero (n := n) (fun j hj => h j (by omega)), h n (by omega)]
    omega
theorem dig_at {g : Nat → Int} {n i : Nat} {x : Int} (h : ∀ j, j < n → 0 ≤ g j ∧ g j < 1000000000) (hx : 0 ≤ x ∧ x < 1000000000) : ∀ j, j < n → 0 ≤ updI g i x j ∧ updI g i x j < 1000000000 := by
  intro j hj
  by_cases e : j = i
  · subst e; rw [updI_s]; exact hx
  · rw [updI_n e]; exact h j hj
section WHT
variable {X : Nat × (Nat → Int32)}
theorem wp_prod_fill {d t l cap most ta tb : Nat} {h0 : am_H} {n0 bo : Int} {g0 : Nat → Int} {Q : Option Value → am_H → Prop} (ht : h0[t]? = some (.inr (cWh, [.ref l, .int (iI n0)]))) (hl : h0[l]? = some (am_la cap g0)) (hcap : cap ≤ 1000000) (hm0 : most ≤ cap)
    (K : ∀ g : Nat → Int, (∀ j, j < most → g j = 0) → am_w X d 97 (72, [.ref t, .ref ta, .ref tb, .int (iI bo), .int (iI most), am_U, am_U, am_U, am_U, am_U, am_U], [], h0.set l (am_la cap g)) Q) :
    ∀ (m i : Nat) (g : Nat → Int), i + m = most → (∀ j, j < i → g j = 0) → am_w X d 97 (51, [.ref t, .ref ta, .ref tb, .int (iI bo), .int (iI most), .int (iI i), am_U, am_U, am_U, am_U, am_U], [], h0.set l (am_la cap g)) Q := by
  have hne : l ≠ t := fun e => am_oa ht hl e.symm
  intro m
  induction m with
  | zero =>
    intro i g hm hg
    refine wr_iload rfl rfl rfl ?_
    refine wr_iload rfl rfl rfl ?_
    refine wr_icmp_ge rfl rfl rfl (by omega) (by omega) (fun c55 => ?_) (fun c55 => ?_)
    ·
      refine am_w.wk (ls' := [_, _, _, _, _, am_U, _, _, _, _, _]) ⟨Or.inr rfl, Or.inr rfl, Or.inr rfl, Or.inr rfl, Or.inr rfl, Or.inl rfl, Or.inr rfl, Or.inr rfl, Or.inr rfl, Or.inr rfl, Or.inr rfl, trivial⟩ ?_
      exact K g (fun j hj => hg j (by omega))
    · exfalso; omega
  | succ m ih =>
    intro i g hm hg
    have c_t : (h0.set l (am_la cap g))[t]? = some (.inr (cWh, [.ref l, .int (iI n0)])) := by rw [am_set_n hne]; exact ht
    have c_l : (h0.set l (am_la cap g))[l]? = some (am_la cap g) := am_set_s hl
    refine wr_iload rfl rfl rfl ?_
    refine wr_iload rfl rfl rfl ?_
    refine wr_icmp_ge rfl rfl rfl (by omega) (by omega) (fun c55 => ?_) (fun c55 => ?_)
    · exfalso; omega
    ·
      refine wr_aload_n rfl rfl rfl ?_
      refine wr_get (ci := 5) (f := 0) rfl rfl rfl (by assumption) rfl ?_
      refine wr_iload rfl rfl rfl ?_
      refine wr_lconst (z := 0) rfl rfl rfl ?_
      refine wr_last rfl rfl (by assumption) (by omega) (by omega) (fun h1 e1 => ?_)
      rw [List.set_set, Int.toNat_natCast] at e1
      subst e1
      refine wr_iinc (ls' := [_, _, _, _, _, _, _, _, _, _, _]) rfl rfl rfl rfl ?_
      refine wr_goto rfl rfl ?_
      rw [show (i : Int) + 1 = ((i + 1 : Nat) : Int) by omega]
      refine ih (i + 1) (updI g i 0) (by omega) (fun j hj => ?_)
      by_cases e : j = i
      · subst e; rw [updI_s]
      · rw [updI_n e]; exact hg j (by omega)
theorem wp_prod_inner {d t l cap ta la ca tb lb cb na nb i most : Nat} {h0 : am_H} {n0 bo V : Int} {g0 ga gb : Nat → Int} {Q : Option Value → am_H → Prop} (ht : h0[t]? = some (.inr (cWh, [.ref l, .int (iI n0)]))) (hl : h0[l]? = some (am_la cap g0)) (hta : h0[ta]? = some (.inr (cWh, [.ref la, .int (iI na)]))) (hla : h0[la]? = some (am_la ca ga)) (htb : h0[tb]? = some (.inr (cWh, [.ref lb, .int (iI nb)]))) (hlb : h0[lb]? = some (am_la cb gb))
    (hcap : cap ≤ 1000000) (hca : ca ≤ 1000000) (hcb : cb ≤ 1000000) (hna : na ≤ ca) (hnb : nb ≤ cb) (ka : nok ga na) (kb : nok gb nb) (hmost : most = na + nb) (hmc : most ≤ cap) (hi : i < na) (hda : l ≠ la) (hdb : l ≠ lb)
    (K : ∀ g : Nat → Int, (∀ j, j < most → 0 ≤ g j ∧ g j < 1000000000) → nv g most = V + ga i * nv gb nb * 1000000000 ^ i → (∀ j, i + nb + 1 ≤ j → j < most → g j = 0) → am_w X d 97 (186, [.ref t, .ref ta, .ref tb, .int (iI bo), .int (iI most), .int (iI i), am_U, am_U, am_U, am_U, am_U], [], h0.set l (am_la cap g)) Q) :
    ∀ (m j : Nat) (g : Nat → Int) (c : Int), j + m = nb + 1 → 0 ≤ c → c < 1000000000 → (j = nb + 1 → c = 0) → (∀ p, p < most → 0 ≤ g p ∧ g p < 1000000000) → nv g most + c * 1000000000 ^ (i + j) = V + ga i * nv (ext gb nb) j * 1000000000 ^ i → (∀ p, i + nb + 1 ≤ p → p < most → g p = 0) → (j ≤ nb → g (i + nb) = 0) → am_w X d 97 (90, [.ref t, .ref ta, .ref tb, .int (iI bo), .int (iI most), .int (iI i), .long (lI c), am_U, .int (iI j), am_U, am_U], [], h0.set l (am_la cap g)) Q := by
  have hne : l ≠ t := fun e => am_oa ht hl e.symm
  have hne2 : l ≠ ta := fun e => am_oa hta hl e.symm
  have hne3 : l ≠ tb := fun e => am_oa htb hl e.symm
  intro m
  induction m with
  | zero =>
    intro j g c hm hc0 hc1 hc2 hg he hz1 hz2
    have c_tb : (h0.set l (am_la cap g))[tb]? = some (.inr (cWh, [.ref lb, .int (iI nb)])) := by rw [am_set_n hne3]; exact htb
    refine wr_iload rfl rfl rfl ?_
    refine wr_aload_n rfl rfl rfl ?_
    refine wr_get (ci := 5) (f := 1) rfl rfl rfl (by assumption) rfl ?_
    refine wr_icmp_gt rfl rfl rfl (by omega) (by omega) (fun c96 => ?_) (fun c96 => ?_)
    ·
      refine am_w.wk (ls' := [_, _, _, _, _, _, am_U, _, am_U, _, _]) ⟨Or.inr rfl, Or.inr rfl, Or.inr rfl, Or.inr rfl, Or.inr rfl, Or.inr rfl, Or.inl rfl, Or.inr rfl, Or.inl rfl, Or.inr rfl, Or.inr rfl, trivial⟩ ?_
      refine K g hg ?_ hz1
      have e0 := hc2 (by omega)
      subst e0
      rw [nv_ext (by omega)] at he
      omega
    · exfalso; omega
  | succ m ih =>
    intro j g c hm hc0 hc1 hc2 hg he hz1 hz2
    have c_t : (h0.set l (am_la cap g))[t]? = some (.inr (cWh, [.ref l, .int (iI n0)])) := by rw [am_set_n hne]; exact ht
    have c_l : (h0.set l (am_la cap g))[l]? = some (am_la cap g) := am_set_s hl
    have c_ta : (h0.set l (am_la cap g))[ta]? = some (.inr (cWh, [.ref la, .int (iI na)])) := by rw [am_set_n hne2]; exact hta
    have c_la : (h0.set l (am_la cap g))[la]? = some (am_la ca ga) := by rw [am_set_n hda]; exact hla
    have c_tb : (h0.set l (am_la cap g))[tb]? = some (.inr (cWh, [.ref lb, .int (iI nb)])) := by rw [am_set_n hne3]; exact htb
    have c_lb : (h0.set l (am_la cap g))[lb]? = some (am_la cb gb) := by rw [am_set_n hdb]; exact hlb
    have xa := ka.1 i hi
    have xb := ext_in kb j
    have xg := hg (i + j) (by omega)
    have xm : 0 ≤ ga i * ext gb nb j ∧ ga i * ext gb nb j ≤ 999999999 * 999999999 := by
      refine ⟨Int.mul_nonneg (by omega) (by omega), ?_⟩
      have y1 : ga i * ext gb nb j ≤ 999999999 * ext gb nb j := Int.mul_le_mul_of_nonneg_right (by omega) (by omega)
      omega
    obtain ⟨s, hs⟩ : ∃ s, s = g (i + j) + c + ga i * ext gb nb j := ⟨_, rfl⟩
    obtain ⟨c', hc'⟩ : ∃ c', c' = s / 1000000000 := ⟨_, rfl⟩
    obtain ⟨x, hxe⟩ : ∃ x, x = s - c' * 1000000000 := ⟨_, rfl⟩
    have hx : 0 ≤ x ∧ x < 1000000000 ∧ 0 ≤ c' ∧ c' < 1000000000 := by omega
    have J2 : am_w X d 97 (150, [.ref t, .ref ta, .ref tb, .int (iI bo), .int (iI most), .int (iI i), .long (lI c), am_U, .int (iI j), am_U, am_U], [.long (lI (ga i * ext gb nb j)), .long (lI (g (i + j) + c))], h0.set l (am_la cap g)) Q := by
      refine wr_ladd rfl rfl ?_
      refine wr_lstore (ls' := [_, _, _, _, _, _, _, _, _, _, _]) rfl rfl (Nat.le_of_ble_eq_true rfl) rfl ?_
      rw [← hs]
      refine wr_lload rfl rfl rfl ?_
      refine wr_ldc2 (z := 1000000000) rfl rfl rfl (by decide) ?_
      refine wr_ldivN rfl rfl (by omega) (by omega) (by omega) (by omega) ?_
      rw [← hc']
      refine wr_lstore (ls' := [_, _, _, _, _, _, _, _, _, _, _]) rfl rfl (Nat.le_of_ble_eq_true rfl) rfl ?_
      refine wr_aload_n rfl rfl rfl ?_
      refine wr_get (ci := 5) (f := 0) rfl rfl rfl (by assumption) rfl ?_
      refine wr_iload rfl rfl rfl ?_
      refine wr_iload rfl rfl rfl ?_
      refine wr_iadd rfl rfl ?_
      refine wr_lload rfl rfl rfl ?_
      refine wr_lload rfl rfl rfl ?_
      refine wr_ldc2 (z := 1000000000) rfl rfl rfl (by decide) ?_
      refine wr_lmul rfl rfl ?_
      refine wr_lsub rfl rfl ?_
      refine wr_last rfl rfl (by assumption) (by omega) (by omega) (fun h1 e1 => ?_)
      rw [List.set_set, show ((i : Int) + j).toNat = i + j by omega, ← hxe] at e1
      subst e1
      refine wr_iinc (ls' := [_, _, _, _, _, _, _, _, _, _, _]) rfl rfl rfl rfl ?_
      refine wr_goto rfl rfl ?_
      refine am_w.wk (ls' := [_, _, _, _, _, _, _, _, _, am_U, _]) ⟨Or.inr rfl, Or.inr rfl, Or.inr rfl, Or.inr rfl, Or.inr rfl, Or.inr rfl, Or.inr rfl, Or.inr rfl, Or.inr rfl, Or.inl rfl, Or.inr rfl, trivial⟩ ?_
      rw [show (j : Int) + 1 = ((j + 1 : Nat) : Int) by omega]
      refine ih (j + 1) (updI g (i + j) x) c' (by omega) (by omega) (by omega) (fun q => ?_) (dig_at hg (by omega)) ?_ (fun p q1 q2 => ?_) (fun q => ?_)
      · have y1 := hz2 (by omega)
        rw [show i + nb = i + j by omega] at y1
        rw [ext_ge (by omega)] at hs
        omega
      · rw [nv_at (by omega)]
        show _ = V + ga i * (nv (ext gb nb) j + ext gb nb j * 1000000000 ^ j) * 1000000000 ^ i
        rw [show i + (j + 1) = (i + j) + 1 by omega, Int.pow_succ]
        rw [Int.pow_add] at he ⊢
        generalize (1000000000 : Int) ^ i = p at he ⊢
        generalize (1000000000 : Int) ^ j = r at he ⊢
        generalize nv (ext gb nb) j = A at he ⊢
        generalize nv g most = G at he ⊢
        clear hc'
        subst hxe hs
        grind
      · rw [updI_n (by omega)]
        exact hz1 p q1 q2
      · rw [updI_n (by omega)]
        exact hz2 (by omega)
    refine wr_iload rfl rfl rfl ?_
    refine wr_aload_n rfl rfl rfl ?_
    refine wr_get (ci := 5) (f := 1) rfl rfl rfl (by assumption) rfl ?_
    refine wr_icmp_gt rfl rfl rfl (by omega) (by omega) (fun c96 => ?_) (fun c96 => ?_)
    · exfalso; omega
    ·
      refine wr_iload rfl rfl rfl ?_
      refine wr_iload rfl rfl rfl ?_
      refine wr_iadd rfl rfl ?_
      refine wr_iload rfl rfl rfl ?_
      refine wr_icmp_ge rfl rfl rfl (by omega) (by omega) (fun c106 => ?_) (fun c106 => ?_)
      · exfalso; omega
      ·
        refine wr_aload_n rfl rfl rfl ?_
        refine wr_get (ci := 5) (f := 0) rfl rfl rfl (by assumption) rfl ?_
        refine wr_iload rfl rfl rfl ?_
        refine wr_iload rfl rfl rfl ?_
        refine wr_iadd rfl rfl ?_
        refine wr_lald rfl rfl (by assumption) (by omega) (by omega) ?_
        rw [show ((i : Int) + j).toNat = i + j by omega]
        refine wr_lload rfl rfl rfl ?_
        refine wr_ladd rfl rfl ?_
        refine wr_iload rfl rfl rfl ?_
        refine wr_aload_n rfl rfl rfl ?_
        refine wr_get (ci := 5) (f := 1) rfl rfl rfl (by assumption) rfl ?_
        refine wr_icmp_ge rfl rfl rfl (by omega) (by omega) (fun c128 => ?_) (fun c128 => ?_)
        ·
          refine wr_lconst (z := 0) rfl rfl rfl ?_
          rw [show (0 : Int) = ga i * ext gb nb j by rw [ext_ge (by omega)]; omega]
          exact J2
        ·
          refine wr_aload_n rfl rfl rfl ?_
          refine wr_get (ci := 5) (f := 0) rfl rfl rfl (by assumption) rfl ?_
          refine wr_iload rfl rfl rfl ?_
          refine wr_lald rfl rfl (by assumption) (by omega) (by omega) ?_
          refine wr_aload_n rfl rfl rfl ?_
          refine wr_get (ci := 5) (f := 0) rfl rfl rfl (by assumption) rfl ?_
          refine wr_iload rfl rfl rfl ?_
          refine wr_lald rfl rfl (by assumption) (by omega) (by omega) ?_
          refine wr_lmul rfl rfl ?_
          refine wr_goto rfl rfl ?_
          rw [Int.toNat_natCast, Int.toNat_natCast, ← ext_lt (g := gb) (n := nb) (j := j) (by omega)]
          exact J2
theorem wp_prod_outer {d t l cap ta la ca tb lb cb na nb most : Nat} {h0 : am_H} {n0 bo : Int} {g0 ga gb : Nat → Int} {Q : Option Value → am_H → Prop} (ht : h0[t]? = some (.inr (cWh, [.ref l, .int (iI n0)]))) (hl : h0[l]? = some (am_la cap g0)) (hta : h0[ta]? = some (.inr (cWh, [.ref la, .int (iI na)]))) (hla : h0[la]? = some (am_la ca ga)) (htb : h0[tb]? = some (.inr (cWh, [.ref lb, .int (iI nb)]))) (hlb : h0[lb]? = some (am_la cb gb))
    (hcap : cap ≤ 1000000) (hca : ca ≤ 1000000) (hcb : cb ≤ 1000000) (hna : na ≤ ca) (hnb : nb ≤ cb) (ka : nok ga na) (kb : nok gb nb) (hmost : most = na + nb) (hmc : most ≤ cap) (hda : l ≠ la) (hdb : l ≠ lb)
    (K : ∀ g : Nat → Int, (∀ j, j < most → 0 ≤ g j ∧ g j < 1000000000) → nv g most = nv ga na * nv gb nb → am_w X d 97 (192, [.ref t, .ref ta, .ref tb, .int (iI bo), .int (iI most), am_U, am_U, am_U, am_U, am_U, am_U], [], h0.set l (am_la cap g)) Q) :
    ∀ (m i : Nat) (g : Nat → Int), i + m = na → (∀ p, p < most → 0 ≤ g p ∧ g p < 1000000000) → nv g most = nv ga i * nv gb nb → (∀ p, i + nb ≤ p → p < most → g p = 0) → am_w X d 97 (75, [.ref t, .ref ta, .ref tb, .int (iI bo), .int (iI most), .int (iI i), am_U, am_U, am_U, am_U, am_U], [], h0.set l (am_la cap g)) Q := by
  have hne : l ≠ t := fun e => am_oa ht hl e.symm
  have hne2 : l ≠ ta := fun e => am_oa hta hl e.symm
  intro m
  induction m with
  | zero =>
    intro i g hm hg he hz
    have c_ta : (h0.set l (am_la cap g))[ta]? = some (.inr (cWh, [.ref la, .int (iI na)])) := by rw [am_set_n hne2]; exact hta
    obtain rfl : i = na := by omega
    refine wr_iload rfl rfl rfl ?_
    refine wr_aload_n rfl rfl rfl ?_
    refine wr_get (ci := 5) (f := 1) rfl rfl rfl (by assumption) rfl ?_
    refine wr_icmp_ge rfl rfl rfl (by omega) (by omega) (fun c81 => ?_) (fun c81 => ?_)
    ·
      refine am_w.wk (ls' := [_, _, _, _, _, am_U, _, _, _, _, _]) ⟨Or.inr rfl, Or.inr rfl, Or.inr rfl, Or.inr rfl, Or.inr rfl, Or.inl rfl, Or.inr rfl, Or.inr rfl, Or.inr rfl, Or.inr rfl, Or.inr rfl, trivial⟩ ?_
      exact K g hg he
    · exfalso; omega
  | succ m ih =>
    intro i g hm hg he hz
    have c_ta : (h0.set l (am_la cap g))[ta]? = some (.inr (cWh, [.ref la, .int (iI na)])) := by rw [am_set_n hne2]; exact hta
    refine wr_iload rfl rfl rfl ?_
    refine wr_aload_n rfl rfl rfl ?_
    refine wr_get (ci := 5) (f := 1) rfl rfl rfl (by assumption) rfl ?_
    refine wr_icmp_ge rfl rfl rfl (by omega) (by omega) (fun c81 => ?_) (fun c81 => ?_)
    · exfalso; omega
    ·
      refine wr_lconst (z := 0) rfl rfl rfl ?_
      refine wr_lstore (ls' := [_, _, _, _, _, _, _, _, _, _, _]) rfl rfl (Nat.le_of_ble_eq_true rfl) rfl ?_
      refine wr_iconst rfl rfl ?_
      refine wr_istore (ls' := [_, _, _, _, _, _, _, _, _, _, _]) rfl rfl (Nat.le_of_ble_eq_true rfl) rfl ?_
      refine wp_prod_inner (V := nv ga i * nv gb nb) ht hl hta hla htb hlb hcap hca hcb hna hnb ka kb hmost hmc (by omega) hda hdb ?_ (nb + 1) 0 g 0 (by omega) (by omega) (by omega) (by omega) hg ?_ (fun p q1 q2 => hz p (by omega) q2) (fun q => hz (i + nb) (by omega) (by omega))
      · intro g' hg' he' hz'
        refine wr_iinc (ls' := [_, _, _, _, _, _, _, _, _, _, _]) rfl rfl rfl rfl ?_
        refine wr_goto rfl rfl ?_
        rw [show (i : Int) + 1 = ((i + 1 : Nat) : Int) by omega]
        refine ih (i + 1) g' (by omega) hg' ?_ (fun p q1 q2 => hz' p (by omega) q2)
        rw [he']
        show _ = (nv ga i + ga i * 1000000000 ^ i) * _
        grind
      · rw [he]
        show _ + 0 * _ = _ + ga i * 0 * _
        omega
/-- the end: the highest limb, if it is 0, is none -/
theorem wp_prod_end {d t l cap ta tb most : Nat} {h : am_H} {n0 bo v : Int} {g : Nat → Int} {Q : Option Value → am_H → Prop} (c_t : h[t]? = some (.inr (cWh, [.ref l, .int (iI n0)]))) (c_l : h[l]? = some (am_la cap g)) (hcap : cap ≤ 1000000) (hm0 : most ≤ cap)
    (K : ∀ n : Nat, (n = most ∧ (0 < most → g (most - 1) ≠ 0)) ∨ (n + 1 = most ∧ g n = 0) → Q none (h.set t (.inr (cWh, [.ref l, .int (iI n)])))) (hg : ∀ j, j < most → 0 ≤ g j ∧ g j < 1000000000) :
    am_w X d 97 (192, [.ref t, .ref ta, .ref tb, .int (iI bo), .int (iI most), am_U, am_U, am_U, am_U, am_U, am_U], [], h) Q := by
  refine wr_aload_n rfl rfl rfl ?_
  refine wr_iload rfl rfl rfl ?_
  refine wr_if_le rfl rfl rfl (by omega) (fun c195 => ?_) (fun c195 => ?_)
  ·
    refine wr_iload rfl rfl rfl ?_
    refine wr_putI (ci := 5) (f := 1) (fs' := [_, _]) rfl rfl rfl (by assumption) rfl rfl rfl (fun h1 e1 => ?_)
    refine wr_vret rfl rfl ?_
    rw [e1]
    exact K most (Or.inl ⟨rfl, fun q => by omega⟩)
  ·
    have xg := hg (most - 1) (by omega)
    refine wr_aload_n rfl rfl rfl ?_
    refine wr_get (ci := 5) (f := 0) rfl rfl rfl (by assumption) rfl ?_
    refine wr_iload rfl rfl rfl ?_
    refine wr_iconst rfl rfl ?_
    refine wr_isub rfl rfl ?_
    rw [show (most : Int) - 1 = ((most - 1 : Nat) : Int) by omega]
    refine wr_lald rfl rfl (by assumption) (by omega) (by omega) ?_
    refine wr_lconst (z := 0) rfl rfl rfl ?_
    rw [Int.toNat_natCast]
    refine wr_l_ne rfl rfl rfl rfl rfl (by omega) (by omega) (fun c208 => ?_) (fun c208 => ?_)
    ·
      refine wr_iload rfl rfl rfl ?_
      refine wr_putI (ci := 5) (f := 1) (fs' := [_, _]) rfl rfl rfl (by assumption) rfl rfl rfl (fun h1 e1 => ?_)
      refine wr_vret rfl rfl ?_
      rw [e1]
      exact K most (Or.inl ⟨rfl, fun q => c208⟩)
    ·
      refine wr_iload rfl rfl rfl ?_
      refine wr_iconst rfl rfl ?_
      refine wr_isub rfl rfl ?_
      refine wr_goto rfl rfl ?_
      rw [show (most : Int) - 1 = ((most - 1 : Nat) : Int) by omega]
      refine wr_putI (ci := 5) (f := 1) (fs' := [_, _]) rfl rfl rfl (by assumption) rfl rfl rfl (fun h1 e1 => ?_)
      refine wr_vret rfl rfl ?_
      rw [e1]
      exact K (most - 1) (Or.inr ⟨by omega, by omega⟩)
/-- one of them is 0 -/
theorem wp_prod_none {d t ta la tb lb na nb : Nat} {h : am_H} {Q : Option Value → am_H → Prop} (c_ta : h[ta]? = some (.inr (cWh, [.ref la, .int (iI na)]))) (c_tb : h[tb]? = some (.inr (cWh, [.ref lb, .int (iI nb)]))) (hna : na ≤ 1000000) (hnb : nb ≤ 1000000)
    (K : am_w X d 97 (192, [.ref t, .ref ta, .ref tb, .int (iI 0), .int (iI 0), am_U, am_U, am_U, am_U, am_U, am_U], [], h) Q) :
    ∀ (m i : Nat), i + m = na → am_w X d 97 (75, [.ref t, .ref ta, .ref tb, .int (iI 0), .int (iI 0), .int (iI i), am_U, am_U, am_U, am_U, am_U], [], h) Q := by
  intro m
  induction m with
  | zero =>
    intro i hm
    refine wr_iload rfl rfl rfl ?_
    refine wr_aload_n rfl rfl rfl ?_
    refine wr_get (ci := 5) (f := 1) rfl rfl rfl (by assumption) rfl ?_
    refine wr_icmp_ge rfl rfl rfl (by omega) (by omega) (fun c81 => ?_) (fun c81 => ?_)
    ·
      refine am_w.wk (ls' := [_, _, _, _, _, am_U, _, _, _, _, _]) ⟨Or.inr rfl, Or.inr rfl, Or.inr rfl, Or.inr rfl, Or.inr rfl, Or.inl rfl, Or.inr rfl, Or.inr rfl, Or.inr rfl, Or.inr rfl, Or.inr rfl, trivial⟩ ?_
      exact K
    · exfalso; omega
  | succ m ih =>
    intro i hm
    refine wr_iload rfl rfl rfl ?_
    refine wr_aload_n rfl rfl rfl ?_
    refine wr_get (ci := 5) (f := 1) rfl rfl rfl (by assumption) rfl ?_
    refine wr_icmp_ge rfl rfl rfl (by omega) (by omega) (fun c81 => ?_) (fun c81 => ?_)
    · exfalso; omega
    ·
      refine wr_lconst (z := 0) rfl rfl rfl ?_
      refine wr_lstore (ls' := [_, _, _, _, _, _, _, _, _, _, _]) rfl rfl (Nat.le_of_ble_eq_true rfl) rfl ?_
      refine wr_iconst rfl rfl ?_
      refine wr_istore (ls' := [_, _, _, _, _, _, _, _, _, _, _]) rfl rfl (Nat.le_of_ble_eq_true rfl) rfl ?_
      refine wr_iload rfl rfl rfl ?_
      refine wr_aload_n rfl rfl rfl ?_
      refine wr_get (ci := 5) (f := 1) rfl rfl rfl (by assumption) rfl ?_
      refine wr_icmp_gt rfl rfl rfl (by omega) (by omega) (fun c96 => ?_) (fun c96 => ?_)
      · exfalso; omega
      ·
        refine wr_iload rfl rfl rfl ?_
        refine wr_iload rfl rfl rfl ?_
        refine wr_iadd rfl rfl ?_
        refine wr_iload rfl rfl rfl ?_
        refine wr_icmp_ge rfl rfl rfl (by omega) (by omega) (fun c106 => ?_) (fun c106 => ?_)
        ·
          refine wr_iinc (ls' := [_, _, _, _, _, _, _, _, _, _, _]) rfl rfl rfl rfl ?_
          refine wr_goto rfl rfl ?_
          refine am_w.wk (ls' := [_, _, _, _, _, _, am_U, _, am_U, _, _]) ⟨Or.inr rfl, Or.inr rfl, Or.inr rfl, Or.inr rfl, Or.inr rfl, Or.inr rfl, Or.inl rfl, Or.inr rfl, Or.inl rfl, Or.inr rfl, Or.inr rfl, trivial⟩ ?_
          rw [show (i : Int) + 1 = ((i + 1 : Nat) : Int) by omega]
          exact ih (i + 1) (by omega)
        · exfalso; omega
theorem wp_product {d t l cap ta la ca tb lb cb : Nat} {h : am_H} {v0 va vb : Int} (ht : isW h t l cap v0) (ha : isW h ta la ca va) (hb : isW h tb lb cb vb) (hcap : 0 < cap ∧ cap ≤ 1000000) (hca : ca ≤ 1000000) (hcb : cb ≤ 1000000) (hda : l ≠ la) (hdb : l ≠ lb) (hfit : va * vb < 1000000000 ^ (cap - 1)) :
    am_c X (d + 1) 97 [.ref t, .ref ta, .ref tb] h (fun r h' => r = none ∧ isW h' t l cap (va * vb) ∧ fr [t, l] h h') := by
  obtain ⟨g0, n0, c_t, c_l, q1, q2, q3⟩ := ht
  obtain ⟨ga, na, c_ta, c_la, p1, p2, p3⟩ := ha
  obtain ⟨gb, nb, c_tb, c_lb, r1, r2, r3⟩ := hb
  have s1 := nv_nonneg p2.1
  have s2 := nv_nonneg r2.1
  have hne : l ≠ t := fun e => am_oa c_t c_l e.symm
  have Z : (na = 0 ∨ nb = 0) → am_w X d 97 (26, [.ref t, .ref ta, .ref tb, am_U, am_U, am_U, am_U, am_U, am_U, am_U, am_U], [], h) (fun r h' => r = none ∧ isW h' t l cap (va * vb) ∧ fr [t, l] h h') := by
    intro hz
    have hv : va * vb = 0 := by
      rcases hz with q | q
      · subst q
        rw [← p3]
        show 0 * vb = 0
        omega
      · subst q
        rw [← r3]
        show va * 0 = 0
        omega
    refine wr_iconst rfl rfl ?_
    refine wr_istore_n (ls' := [_, _, _, _, _, _, _, _, _, _, _]) rfl rfl (Nat.le_of_ble_eq_true rfl) rfl ?_
    refine wr_iload_n rfl rfl rfl ?_
    refine wr_aload_n rfl rfl rfl ?_
    refine wr_get (ci := 5) (f := 0) rfl rfl rfl (by assumption) rfl ?_
    refine wr_alen rfl rfl (by assumption) (by decide) ?_
    refine wr_icmp_ge rfl rfl rfl (by omega) (by omega) (fun c34 => ?_) (fun c34 => ?_)
    · exfalso; omega
    ·
      refine wr_iload_n rfl rfl rfl ?_
      refine wr_goto rfl rfl ?_
      refine wr_istore (ls' := [_, _, _, _, _, _, _, _, _, _, _]) rfl rfl (Nat.le_of_ble_eq_true rfl) rfl ?_
      refine wr_iconst rfl rfl ?_
      refine wr_istore (ls' := [_, _, _, _, _, _, _, _, _, _, _]) rfl rfl (Nat.le_of_ble_eq_true rfl) rfl ?_
      refine wr_iload rfl rfl rfl ?_
      refine wr_iload rfl rfl rfl ?_
      refine wr_icmp_ge rfl rfl rfl (by omega) (by omega) (fun c55 => ?_) (fun c55 => ?_)
      ·
        refine wr_iconst rfl rfl ?_
        refine wr_istore (ls' := [_, _, _, _, _, _, _, _, _, _, _]) rfl rfl (Nat.le_of_ble_eq_true rfl) rfl ?_
        refine wp_prod_none c_ta c_tb (by omega) (by omega) ?_ na 0 (by omega)
        refine wp_prod_end (most := 0) (v := 0) c_t c_l hcap.2 (by omega) ?_ (fun j hj => by omega)
        intro n hn
        obtain rfl : n = 0 := by omega
        refine ⟨rfl, ?_, ?_⟩
        · rw [hv]
          exact ⟨g0, 0, am_set_s c_t, by rw [am_set_n (Ne.symm hne)]; exact c_l, by omega, ⟨fun j hj => by omega, fun q => by omega⟩, rfl⟩
        · refine ⟨by simp, fun i hi => am_set_n (fun q => hi (by simp [q]))⟩
      · exfalso; omega
  refine am_c.of (Nat.le_of_ble_eq_true rfl) ?_
  show am_w _ _ _ (_, [_, _, _, _, _, _, _, _, _, _, _], _, _) _
  refine wr_aload_n rfl rfl rfl ?_
  refine wr_get (ci := 5) (f := 1) rfl rfl rfl (by assumption) rfl ?_
  refine wr_if_le rfl rfl rfl (by omega) (fun c4 => ?_) (fun c4 => ?_)
  · exact Z (Or.inl (by omega))
  ·
    refine wr_aload_n rfl rfl rfl ?_
    refine wr_get (ci := 5) (f := 1) rfl rfl rfl (by assumption) rfl ?_
    refine wr_if_le rfl rfl rfl (by omega) (fun c11 => ?_) (fun c11 => ?_)
    · exact Z (Or.inr (by omega))
    ·
      have b1 := nv_low p2 (by omega)
      have b2 := nv_low r2 (by omega)
      have b3 : (1000000000 : Int) ^ (na - 1 + (nb - 1)) ≤ va * vb := by
        rw [Int.pow_add, ← p3, ← r3]
        have y1 : 1000000000 ^ (na - 1) * 1000000000 ^ (nb - 1) ≤ nv ga na * 1000000000 ^ (nb - 1) := Int.mul_le_mul_of_nonneg_right b1 (by have := bp_pos (nb - 1); omega)
        have y2 : nv ga na * 1000000000 ^ (nb - 1) ≤ nv ga na * nv gb nb := Int.mul_le_mul_of_nonneg_left b2 (by omega)
        omega
      have b4 : na + nb ≤ cap := by
        rcases Nat.lt_or_ge cap (na + nb) with q | q
        · have := bp_mono (m := cap - 1) (n := na - 1 + (nb - 1)) (by omega)
          omega
        · exact q
      have J2 : am_w X d 97 (46, [.ref t, .ref ta, .ref tb, .int (iI ((na + nb : Nat) : Int)), am_U, am_U, am_U, am_U, am_U, am_U, am_U], [.int (iI ((na + nb : Nat) : Int))], h) (fun r h' => r = none ∧ isW h' t l cap (va * vb) ∧ fr [t, l] h h') := by
        refine wr_istore (ls' := [_, _, _, _, _, _, _, _, _, _, _]) rfl rfl (Nat.le_of_ble_eq_true rfl) rfl ?_
        refine wr_iconst rfl rfl ?_
        refine wr_istore (ls' := [_, _, _, _, _, _, _, _, _, _, _]) rfl rfl (Nat.le_of_ble_eq_true rfl) rfl ?_
        have hw := wp_prod_fill (X := X) (d := d) (ta := ta) (tb := tb) (bo := ((na + nb : Nat) : Int)) (most := na + nb) (Q := fun r h' => r = none ∧ isW h' t l cap (va * vb) ∧ fr [t, l] h h') c_t c_l hcap.2 b4 ?_ (na + nb) 0 g0 (by omega) (fun j hj => by omega)
        · rw [am_set_id c_l] at hw
          exact hw
        · intro g hg
          refine wr_iconst rfl rfl ?_
          refine wr_istore (ls' := [_, _, _, _, _, _, _, _, _, _, _]) rfl rfl (Nat.le_of_ble_eq_true rfl) rfl ?_
          refine wp_prod_outer (most := na + nb) c_t c_l c_ta c_la c_tb c_lb hcap.2 hca hcb p1 r1 p2 r2 rfl b4 hda hdb ?_ na 0 g (by omega) (fun p hp => by rw [hg p hp]; omega) ?_ (fun p _ hp => hg p hp)
          · intro g' hg' he'
            rw [p3, r3] at he'
            have d_t : (h.set l (am_la cap g'))[t]? = some (.inr (cWh, [.ref l, .int (iI n0)])) := by rw [am_set_n hne]; exact c_t
            have d_l : (h.set l (am_la cap g'))[l]? = some (am_la cap g') := am_set_s c_l
            refine wp_prod_end (most := na + nb) (v := 0) d_t d_l hcap.2 b4 ?_ hg'
            intro n hn
            refine ⟨rfl, ?_, fr_set2⟩
            rcases hn with ⟨rfl, hn⟩ | ⟨hn, hn0⟩
            · rw [← he']
              exact isW.mk2 c_t c_l hne b4 ⟨hg', hn⟩
            · have e2 : nv g' n = va * vb := by
                rw [← he', ← hn]
                show _ = nv g' n + g' n * _
                rw [hn0]
                omega
              rw [← e2]
              refine isW.mk2 c_t c_l hne (by omega) ⟨fun j hj => hg' j (by omega), fun q q2 => ?_⟩
              have n1 := nv_nonneg (g := g') (n := n - 1) (fun j hj => hg' j (by omega))
              have e3 : nv g' n = nv g' (n - 1) + g' (n - 1) * 1000000000 ^ (n - 1) := by
                obtain ⟨w, rfl⟩ : ∃ w, n = w + 1 := ⟨n - 1, by omega⟩
                rfl
              rw [q2] at e3
              rw [show na - 1 + (nb - 1) = n - 1 by omega] at b3
              omega
          · rw [nv_zero hg]
            show _ = 0 * _
            omega
      refine wr_aload_n rfl rfl rfl ?_
      refine wr_get (ci := 5) (f := 1) rfl rfl rfl (by assumption) rfl ?_
      refine wr_aload_n rfl rfl rfl ?_
      refine wr_get (ci := 5) (f := 1) rfl rfl rfl (by assumption) rfl ?_
      refine wr_iadd rfl rfl ?_
      refine wr_goto rfl rfl ?_
      refine wr_istore_n (ls' := [_, _, _, _, _, _, _, _, _, _, _]) rfl rfl (Nat.le_of_ble_eq_true rfl) rfl ?_
      refine wr_iload_n rfl rfl rfl ?_
      refine wr_aload_n rfl rfl rfl ?_
      refine wr_get (ci := 5) (f := 0) rfl rfl rfl (by assumption) rfl ?_
      refine wr_alen rfl rfl (by assumption) (by decide) ?_
      rw [show (na : Int) + nb = ((na + nb : Nat) : Int) by omega]
      refine wr_icmp_ge rfl rfl rfl (by omega) (by omega) (fun c34 => ?_) (fun c34 => ?_)
      ·
        refine wr_aload_n rfl rfl rfl ?_
        refine wr_get (ci := 5) (f := 0) rfl rfl rfl (by assumption) rfl ?_
        refine wr_alen rfl rfl (by assumption) (by decide) ?_
        rw [show (cap : Int) = ((na + nb : Nat) : Int) by omega]
        exact J2
      ·
        refine wr_iload_n rfl rfl rfl ?_
        refine wr_goto rfl rfl ?_
        exact J2
end WHT
end
section
/-! WHOLE NUMBERS OF THE CLASS: takeAway, timesAt -/
/-- the number at cells t, l has these limbs and this size -/
theorem isW.ex {h : am_H} {t l cap : Nat} {v : Int} (w : isW h t l cap v) : 0 ≤ v := by
  obtain ⟨g, n, a, b, c, e, f⟩ := w
  have := nv_nonneg e.1
  omega
section WHU
variable {X : Nat × (Nat → Int32)}
/-- the trimming at takeAway's end -/
theorem wp_trim {d t l cap td sh : Nat} {h0 : am_H} {n0 tm w : Int} {g : Nat → Int} {Q : Option Value → am_H → Prop} (ht : h0[t]? = some (.inr (cWh, [.ref l, .int (iI n0)]))) (hl : h0[l]? = some (am_la cap g)) (hcap : cap ≤ 1000000)
    (K : ∀ n : Nat, n ≤ cap → nok g n → nv g n = w → Q none (h0.set t (.inr (cWh, [.ref l, .int (iI n)])))) :
    ∀ (n : Nat), n ≤ cap → (∀ j, j < n → 0 ≤ g j ∧ g j < 1000000000) → nv g n = w → am_w X d 94 (120, [.ref t, .ref td, .long (lI tm), am_U, .int (iI sh), am_U, am_U, am_U, am_U, am_U], [], h0.set t (.inr (cWh, [.ref l, .int (iI n)]))) Q := by
  have hne : t ≠ l := am_oa ht hl
  intro n
  induction n with
  | zero =>
    intro hn hg hw
    have c_t : (h0.set t (.inr (cWh, [.ref l, .int (iI (0 : Nat))])))[t]? = some (.inr (cWh, [.ref l, .int (iI (0 : Nat))])) := am_set_s ht
    refine wr_aload_n rfl rfl rfl ?_
    refine wr_get (ci := 5) (f := 1) rfl rfl rfl (by assumption) rfl ?_
    refine wr_if_le rfl rfl rfl (by omega) (fun c124 => ?_) (fun c124 => ?_)
    ·
      refine wr_vret rfl rfl ?_
      exact K 0 (by omega) ⟨fun j hj => by omega, fun q => by omega⟩ hw
    · exfalso; omega
  | succ n ih =>
    intro hn hg hw
    have c_t : (h0.set t (.inr (cWh, [.ref l, .int (iI (n + 1 : Nat))])))[t]? = some (.inr (cWh, [.ref l, .int (iI (n + 1 : Nat))])) := am_set_s ht
    have c_l : (h0.set t (.inr (cWh, [.ref l, .int (iI (n + 1 : Nat))])))[l]? = some (am_la cap g) := by rw [am_set_n hne]; exact hl
    have xg := hg n (by omega)
    refine wr_aload_n rfl rfl rfl ?_
    refine wr_get (ci := 5) (f := 1) rfl rfl rfl (by assumption) rfl ?_
    refine wr_if_le rfl rfl rfl (by omega) (fun c124 => ?_) (fun c124 => ?_)
    · exfalso; omega
    ·
      refine wr_aload_n rfl rfl rfl ?_
      refine wr_get (ci := 5) (f := 0) rfl rfl rfl (by assumption) rfl ?_
      refine wr_aload_n rfl rfl rfl ?_
      refine wr_get (ci := 5) (f := 1) rfl rfl rfl (by assumption) rfl ?_
      refine wr_iconst rfl rfl ?_
      refine wr_isub rfl rfl ?_
      rw [show ((n + 1 : Nat) : Int) - 1 = n by omega]
      refine wr_lald rfl rfl (by assumption) (by omega) (by omega) ?_
      refine wr_lconst (z := 0) rfl rfl rfl ?_
      rw [Int.toNat_natCast]
      refine wr_l_ne rfl rfl rfl rfl rfl (by omega) (by omega) (fun c139 => ?_) (fun c139 => ?_)
      ·
        refine wr_vret rfl rfl ?_
        exact K (n + 1) hn ⟨hg, fun q => by rw [show n + 1 - 1 = n by omega]; exact c139⟩ hw
      ·
        refine wr_aload_n rfl rfl rfl ?_
        refine wr_dup rfl rfl ?_
        refine wr_get (ci := 5) (f := 1) rfl rfl rfl (by assumption) rfl ?_
        refine wr_iconst rfl rfl ?_
        refine wr_isub rfl rfl ?_
        rw [show ((n + 1 : Nat) : Int) - 1 = n by omega]
        refine wr_putI (ci := 5) (f := 1) (fs' := [_, _]) rfl rfl rfl (by assumption) rfl rfl rfl (fun h1 e1 => ?_)
        rw [List.set_set] at e1
        subst e1
        refine wr_goto rfl rfl ?_
        refine ih (by omega) (fun j hj => hg j (by omega)) ?_
        rw [← hw]
        show _ = nv g n + g n * _
        rw [show g n = 0 by omega]
        omega
theorem wp_take_loop {d t l cap td ld cd nd n sh : Nat} {h0 : am_H} {tm Rv : Int} {g0 gd : Nat → Int} {Q : Option Value → am_H → Prop} (ht : h0[t]? = some (.inr (cWh, [.ref l, .int (iI n)]))) (hl : h0[l]? = some (am_la cap g0)) (htd : h0[td]? = some (.inr (cWh, [.ref ld, .int (iI nd)]))) (hld : h0[ld]? = some (am_la cd gd))
    (hcap : cap ≤ 1000000) (hcd : cd ≤ 1000000) (hn : n ≤ cap) (hnd : nd ≤ cd) (kd : nok gd nd) (htm : 1 ≤ tm ∧ tm ≤ 4000000000) (hsh : nd + sh ≤ n) (hd : l ≠ ld)
    (K : ∀ (g : Nat → Int) (c : Int) (i : Nat), nd ≤ i → sh + i ≤ n → 0 ≤ c → (c = 0 ∨ sh + i = n) → nv g n - c * 1000000000 ^ (sh + i) = Rv - tm * nv gd nd * 1000000000 ^ sh → (∀ j, j < n → 0 ≤ g j ∧ g j < 1000000000) → am_w X d 94 (120, [.ref t, .ref td, .long (lI tm), am_U, .int (iI sh), am_U, am_U, am_U, am_U, am_U], [], h0.set l (am_la cap g)) Q) :
    ∀ (m i : Nat) (g : Nat → Int) (c : Int), sh + i + m = n → 0 ≤ c → c ≤ tm → nv g n - c * 1000000000 ^ (sh + i) = Rv - tm * nv (ext gd nd) i * 1000000000 ^ sh → (∀ j, j < n → 0 ≤ g j ∧ g j < 1000000000) → am_w X d 94 (6, [.ref t, .ref td, .long (lI tm), am_U, .int (iI sh), .long (lI c), am_U, .int (iI i), am_U, am_U], [], h0.set l (am_la cap g)) Q := by
  have hne : l ≠ t := fun e => am_oa ht hl e.symm
  have hne2 : l ≠ td := fun e => am_oa htd hl e.symm
  intro m
  induction m with
  | zero =>
    intro i g c hm hc0 hc1 he hg
    have c_t : (h0.set l (am_la cap g))[t]? = some (.inr (cWh, [.ref l, .int (iI n)])) := by rw [am_set_n hne]; exact ht
    refine wr_iload rfl rfl rfl ?_
    refine wr_iload rfl rfl rfl ?_
    refine wr_iadd rfl rfl ?_
    refine wr_aload_n rfl rfl rfl ?_
    refine wr_get (ci := 5) (f := 1) rfl rfl rfl (by assumption) rfl ?_
    refine wr_icmp_ge rfl rfl rfl (by omega) (by omega) (fun c15 => ?_) (fun c15 => ?_)
    ·
      refine am_w.wk (ls' := [_, _, _, _, _, am_U, _, am_U, _, _]) ⟨Or.inr rfl, Or.inr rfl, Or.inr rfl, Or.inr rfl, Or.inr rfl, Or.inl rfl, Or.inr rfl, Or.inl rfl, Or.inr rfl, Or.inr rfl, trivial⟩ ?_
      refine K g c i (by omega) (by omega) hc0 (Or.inr (by omega)) ?_ hg
      rw [nv_ext (by omega)] at he
      exact he
    · exfalso; omega
  | succ m ih =>
    intro i g c hm hc0 hc1 he hg
    have c_t : (h0.set l (am_la cap g))[t]? = some (.inr (cWh, [.ref l, .int (iI n)])) := by rw [am_set_n hne]; exact ht
    have c_l : (h0.set l (am_la cap g))[l]? = some (am_la cap g) := am_set_s hl
    have c_td : (h0.set l (am_la cap g))[td]? = some (.inr (cWh, [.ref ld, .int (iI nd)])) := by rw [am_set_n hne2]; exact htd
    have c_ld : (h0.set l (am_la cap g))[ld]? = some (am_la cd gd) := by rw [am_set_n hd]; exact hld
    have xg := hg (sh + i) (by omega)
    have xd := ext_in kd i
    have xm : 0 ≤ ext gd nd i * tm ∧ ext gd nd i * tm ≤ 999999999 * tm := ⟨Int.mul_nonneg (by omega) (by omega), Int.mul_le_mul_of_nonneg_right (by omega) (by omega)⟩
    obtain ⟨s, hs⟩ : ∃ s, s = g (sh + i) - c - ext gd nd i * tm := ⟨_, rfl⟩
    obtain ⟨c', hc'⟩ : ∃ c' : Int, c' = if s < 0 then (999999999 - s) / 1000000000 else 0 := ⟨_, rfl⟩
    have hc2 : (c' = (999999999 - s) / 1000000000 ∧ s < 0) ∨ (c' = 0 ∧ 0 ≤ s) := by
      by_cases q : s < 0
      · rw [if_pos q] at hc'; exact Or.inl ⟨hc', q⟩
      · rw [if_neg q] at hc'; exact Or.inr ⟨hc', by omega⟩
    obtain ⟨x, hxe⟩ : ∃ x, x = s + c' * 1000000000 := ⟨_, rfl⟩
    have hx : 0 ≤ x ∧ x < 1000000000 ∧ 0 ≤ c' ∧ c' ≤ tm := by omega
    have J3 : am_w X d 94 (93, [.ref t, .ref td, .long (lI tm), am_U, .int (iI sh), .long (lI c), am_U, .int (iI i), .long (lI s), am_U], [.long (lI c')], h0.set l (am_la cap g)) Q := by
      refine wr_lstore (ls' := [_, _, _, _, _, _, _, _, _, _]) rfl rfl (Nat.le_of_ble_eq_true rfl) rfl ?_
      refine wr_aload_n rfl rfl rfl ?_
      refine wr_get (ci := 5) (f := 0) rfl rfl rfl (by assumption) rfl ?_
      refine wr_iload rfl rfl rfl ?_
      refine wr_iload rfl rfl rfl ?_
      refine wr_iadd rfl rfl ?_
      refine wr_lload rfl rfl rfl ?_
      refine wr_lload rfl rfl rfl ?_
      refine wr_ldc2 (z := 1000000000) rfl rfl rfl (by decide) ?_
      refine wr_lmul rfl rfl ?_
      refine wr_ladd rfl rfl ?_
      refine wr_last rfl rfl (by assumption) (by omega) (by omega) (fun h1 e1 => ?_)
      rw [List.set_set, show ((sh : Int) + i).toNat = sh + i by omega, ← hxe] at e1
      subst e1
      refine wr_iinc (ls' := [_, _, _, _, _, _, _, _, _, _]) rfl rfl rfl rfl ?_
      refine wr_goto rfl rfl ?_
      refine am_w.wk (ls' := [_, _, _, _, _, _, _, _, am_U, _]) ⟨Or.inr rfl, Or.inr rfl, Or.inr rfl, Or.inr rfl, Or.inr rfl, Or.inr rfl, Or.inr rfl, Or.inr rfl, Or.inl rfl, Or.inr rfl, trivial⟩ ?_
      rw [show (i : Int) + 1 = ((i + 1 : Nat) : Int) by omega]
      refine ih (i + 1) (updI g (sh + i) x) c' (by omega) (by omega) (by omega) ?_ (dig_at hg (by omega))
      rw [nv_at (by omega)]
      show _ = Rv - tm * (nv (ext gd nd) i + ext gd nd i * 1000000000 ^ i) * 1000000000 ^ sh
      rw [show sh + (i + 1) = (sh + i) + 1 by omega, Int.pow_succ]
      rw [Int.pow_add] at he ⊢
      generalize (1000000000 : Int) ^ i = p at he ⊢
      generalize (1000000000 : Int) ^ sh = r at he ⊢
      generalize nv (ext gd nd) i = A at he ⊢
      generalize nv g n = G at he ⊢
      clear hc' hc2 hx
      subst hxe hs
      grind
    have J2 : am_w X d 94 (69, [.ref t, .ref td, .long (lI tm), am_U, .int (iI sh), .long (lI c), am_U, .int (iI i), am_U, am_U], [.long (lI (ext gd nd i * tm)), .long (lI (g (sh + i) - c))], h0.set l (am_la cap g)) Q := by
      refine wr_lsub rfl rfl ?_
      refine wr_lstore (ls' := [_, _, _, _, _, _, _, _, _, _]) rfl rfl (Nat.le_of_ble_eq_true rfl) rfl ?_
      refine wr_lload rfl rfl rfl ?_
      refine wr_lconst (z := 0) rfl rfl rfl ?_
      rw [← hs]
      refine wr_l_ge rfl rfl rfl rfl rfl (by omega) (by omega) (fun c75 => ?_) (fun c75 => ?_)
      ·
        refine wr_lconst (z := 0) rfl rfl rfl ?_
        rw [show (0 : Int) = c' by omega]
        exact J3
      ·
        refine wr_ldc2 (z := 999999999) rfl rfl rfl (by decide) ?_
        refine wr_lload rfl rfl rfl ?_
        refine wr_lsub rfl rfl ?_
        refine wr_ldc2 (z := 1000000000) rfl rfl rfl (by decide) ?_
        refine wr_ldivN rfl rfl (by omega) (by omega) (by omega) (by omega) ?_
        refine wr_goto rfl rfl ?_
        rw [show (999999999 - s) / 1000000000 = c' by omega]
        exact J3
    have J1 : am_w X d 94 (34, [.ref t, .ref td, .long (lI tm), am_U, .int (iI sh), .long (lI c), am_U, .int (iI i), am_U, am_U], [], h0.set l (am_la cap g)) Q := by
      refine wr_aload_n rfl rfl rfl ?_
      refine wr_get (ci := 5) (f := 0) rfl rfl rfl (by assumption) rfl ?_
      refine wr_iload rfl rfl rfl ?_
      refine wr_iload rfl rfl rfl ?_
      refine wr_iadd rfl rfl ?_
      refine wr_lald rfl rfl (by assumption) (by omega) (by omega) ?_
      rw [show ((sh : Int) + i).toNat = sh + i by omega]
      refine wr_lload rfl rfl rfl ?_
      refine wr_lsub rfl rfl ?_
      refine wr_iload rfl rfl rfl ?_
      refine wr_aload_n rfl rfl rfl ?_
      refine wr_get (ci := 5) (f := 1) rfl rfl rfl (by assumption) rfl ?_
      refine wr_icmp_ge rfl rfl rfl (by omega) (by omega) (fun c53 => ?_) (fun c53 => ?_)
      ·
        refine wr_lconst (z := 0) rfl rfl rfl ?_
        rw [show (0 : Int) = ext gd nd i * tm by rw [ext_ge (by omega)]; omega]
        exact J2
      ·
        refine wr_aload_n rfl rfl rfl ?_
        refine wr_get (ci := 5) (f := 0) rfl rfl rfl (by assumption) rfl ?_
        refine wr_iload rfl rfl rfl ?_
        refine wr_lald rfl rfl (by assumption) (by omega) (by omega) ?_
        refine wr_lload_n rfl rfl rfl ?_
        refine wr_lmul rfl rfl ?_
        refine wr_goto rfl rfl ?_
        rw [Int.toNat_natCast, ← ext_lt (g := gd) (n := nd) (j := i) (by omega)]
        exact J2
    refine wr_iload rfl rfl rfl ?_
    refine wr_iload rfl rfl rfl ?_
    refine wr_iadd rfl rfl ?_
    refine wr_aload_n rfl rfl rfl ?_
    refine wr_get (ci := 5) (f := 1) rfl rfl rfl (by assumption) rfl ?_
    refine wr_icmp_ge rfl rfl rfl (by omega) (by omega) (fun c15 => ?_) (fun c15 => ?_)
    · exfalso; omega
    ·
      refine wr_iload rfl rfl rfl ?_
      refine wr_aload_n rfl rfl rfl ?_
      refine wr_get (ci := 5) (f := 1) rfl rfl rfl (by assumption) rfl ?_
      refine wr_icmp_lt rfl rfl rfl (by omega) (by omega) (fun c24 => ?_) (fun c24 => ?_)
      · exact J1
      ·
        refine wr_lload rfl rfl rfl ?_
        refine wr_lconst (z := 0) rfl rfl rfl ?_
        refine wr_l_le rfl rfl rfl rfl rfl (by omega) (by omega) (fun c30 => ?_) (fun c30 => ?_)
        ·
          refine am_w.wk (ls' := [_, _, _, _, _, am_U, _, am_U, _, _]) ⟨Or.inr rfl, Or.inr rfl, Or.inr rfl, Or.inr rfl, Or.inr rfl, Or.inl rfl, Or.inr rfl, Or.inl rfl, Or.inr rfl, Or.inr rfl, trivial⟩ ?_
          refine K g c i (by omega) (by omega) hc0 (Or.inl (by omega)) ?_ hg
          rw [nv_ext (by omega)] at he
          exact he
        · exact J1
theorem wp_takeAway {d t l cap td ld cd sh : Nat} {h : am_H} {Rv Dv tm : Int} (ht : isW h t l cap Rv) (hd : isW h td ld cd Dv) (hcap : cap ≤ 1000000) (hcd : cd ≤ 1000000) (hld : l ≠ ld) (htm : 1 ≤ tm ∧ tm ≤ 4000000000) (hD : 0 < Dv) (hle : tm * Dv * 1000000000 ^ sh ≤ Rv) (hsh : sh ≤ 1000000) :
    am_c X (d + 1) 94 [.ref t, .ref td, .long (lI tm), .int (iI sh)] h (fun r h' => r = none ∧ isW h' t l cap (Rv - tm * Dv * 1000000000 ^ sh) ∧ fr [t, l] h h') := by
  obtain ⟨g0, n, c_t, c_l, q1, q2, q3⟩ := ht
  obtain ⟨gd, nd, c_td, c_ld, p1, p2, p3⟩ := hd
  have hne : l ≠ t := fun e => am_oa c_t c_l e.symm
  have n0 : 0 < nd := by
    rcases Nat.eq_zero_or_pos nd with q | q
    · subst q
      have : nv gd 0 = 0 := rfl
      omega
    · exact q
  have b1 := nv_low p2 n0
  have b2 := nv_nonneg q2.1
  have b3 : 1000000000 ^ (nd - 1 + sh) ≤ tm * Dv * 1000000000 ^ sh := by
    rw [Int.pow_add]
    refine Int.mul_le_mul_of_nonneg_right ?_ (by have := bp_pos sh; omega)
    have : 1 * Dv ≤ tm * Dv := Int.mul_le_mul_of_nonneg_right (by omega) (by omega)
    omega
  have hsn : nd + sh ≤ n := by
    rcases Nat.lt_or_ge n (nd + sh) with q | q
    · have := bp_mono (m := n) (n := nd - 1 + sh) (by omega)
      omega
    · exact q
  refine am_c.of (Nat.le_of_ble_eq_true rfl) ?_
  show am_w _ _ _ (_, [_, _, _, _, _, _, _, _, _, _], _, _) _
  refine wr_lconst (z := 0) rfl rfl rfl ?_
  refine wr_lstore (ls' := [_, _, _, _, _, _, _, _, _, _]) rfl rfl (Nat.le_of_ble_eq_true rfl) rfl ?_
  refine wr_iconst rfl rfl ?_
  refine wr_istore (ls' := [_, _, _, _, _, _, _, _, _, _]) rfl rfl (Nat.le_of_ble_eq_true rfl) rfl ?_
  have hw := wp_take_loop (X := X) (d := d) (sh := sh) (tm := tm) (Rv := Rv) (Q := fun r h' => r = none ∧ isW h' t l cap (Rv - tm * Dv * 1000000000 ^ sh) ∧ fr [t, l] h h') c_t c_l c_td c_ld hcap hcd q1 p1 p2 htm hsn hld ?_ (n - sh) 0 g0 0 (by omega) (by omega) (by omega) ?_ q2.1
  · rw [am_set_id c_l] at hw
    exact hw
  · intro g c i hi1 hi2 hc hce he hg
    rw [p3] at he
    have b4 := nv_nonneg hg
    have hc0 : c = 0 := by
      rcases hce with q | q
      · exact q
      · rw [q] at he
        rcases Int.lt_or_le 0 c with r | r
        · have : 1 * 1000000000 ^ n ≤ c * 1000000000 ^ n := Int.mul_le_mul_of_nonneg_right (by omega) (by have := bp_pos n; omega)
          omega
        · omega
    subst hc0
    have c_t' : (h.set l (am_la cap g))[t]? = some (.inr (cWh, [.ref l, .int (iI n)])) := by rw [am_set_n hne]; exact c_t
    have c_l' : (h.set l (am_la cap g))[l]? = some (am_la cap g) := am_set_s c_l
    have hw := wp_trim (X := X) (d := d) (td := td) (sh := sh) (tm := tm) (w := Rv - tm * Dv * 1000000000 ^ sh) (Q := fun r h' => r = none ∧ isW h' t l cap (Rv - tm * Dv * 1000000000 ^ sh) ∧ fr [t, l] h h') c_t' c_l' hcap ?_ n q1 hg (by omega)
    · rw [am_set_id c_t'] at hw
      exact hw
    · intro m hm hk hv
      refine ⟨rfl, ?_, fr_set2⟩
      rw [← hv]
      exact isW.mk2 c_t c_l hne hm hk
  · rw [q3]
    show _ - 0 * _ = _ - tm * 0 * _
    omega
/-- timesAt's comparison: limbs of this from sh on, against the divisor's -/
theorem wp_times_cmp {d t l cap td ld cd nd n sh : Nat} {h : am_H} {tp hi : Int} {g gd : Nat → Int} {Q : Option Value → am_H → Prop} (c_t : h[t]? = some (.inr (cWh, [.ref l, .int (iI n)]))) (c_l : h[l]? = some (am_la cap g)) (c_td : h[td]? = some (.inr (cWh, [.ref ld, .int (iI nd)]))) (c_ld : h[ld]? = some (am_la cd gd)) (hcap : cap ≤ 1000000) (hcd : cd ≤ 1000000) (hn : sh + nd ≤ cap) (hnd : nd ≤ cd) (hg : ∀ j, j < nd → 0 ≤ g (sh + j) ∧ g (sh + j) < 1000000000) (hgd : ∀ j, j < nd → 0 ≤ gd j ∧ gd j < 1000000000)
    (K : ∀ b : Int, (b = 1 ∧ nv gd nd ≤ nv (fun j => g (sh + j)) nd) ∨ (b = 0 ∧ nv (fun j => g (sh + j)) nd < nv gd nd) → Q (some (.long (lI b))) h) :
    ∀ i : Nat, i ≤ nd → (∀ j, i ≤ j → j < nd → g (sh + j) = gd j) → am_w X d 93 (113, [.ref t, .ref td, .int (iI sh), .int (iI tp), .int (iI hi), am_U, am_U, am_U, am_U, .int (iI ((i : Int) - 1))], [], h) Q := by
  intro i
  induction i with
  | zero =>
    intro hi he
    have h1 : nv (fun j => g (sh + j)) nd = nv gd nd := nv_congr (fun j hj => he j (by omega) hj)
    refine wr_iload rfl rfl rfl ?_
    refine wr_if_lt rfl rfl rfl (by omega) (fun c115 => ?_) (fun c115 => ?_)
    ·
      refine wr_lconst (z := 1) rfl rfl rfl ?_
      refine wr_lret rfl rfl ?_
      exact K 1 (Or.inl ⟨rfl, by omega⟩)
    · exfalso; omega
  | succ i ih =>
    intro hi he
    have d1 := hg i (by omega)
    have d2 := hgd i (by omega)
    rw [show ((i + 1 : Nat) : Int) - 1 = i by omega]
    have gt : ∀ {a b : Nat → Int}, (∀ j, j < nd → 0 ≤ a j ∧ a j < 1000000000) → (∀ j, j < nd → 0 ≤ b j ∧ b j < 1000000000) → (∀ j, i < j → j < nd → a j = b j) → b i < a i → nv b nd < nv a nd := by
      intro a b ha hb hab hlt
      have h1 := nv_split (g := a) (g' := b) (i := i + 1) (n := nd) (by omega) (fun j x y => hab j (by omega) y)
      have h2 := nv_nonneg (g := a) (n := i) (fun j hj => ha j (by omega))
      have h3 := nv_nonneg (g := b) (n := i) (fun j hj => hb j (by omega))
      have h4 : nv a (i + 1) = nv a i + a i * 1000000000 ^ i := rfl
      have h5 : nv b (i + 1) = nv b i + b i * 1000000000 ^ i := rfl
      have h6 : (b i + 1) * 1000000000 ^ i ≤ a i * 1000000000 ^ i := Int.mul_le_mul_of_nonneg_right (by omega) (by have := bp_pos i; omega)
      rw [Int.add_mul] at h6
      omega
    refine wr_iload rfl rfl rfl ?_
    refine wr_if_lt rfl rfl rfl (by omega) (fun c115 => ?_) (fun c115 => ?_)
    · exfalso; omega
    ·
      refine wr_aload_n rfl rfl rfl ?_
      refine wr_get (ci := 5) (f := 0) rfl rfl rfl (by assumption) rfl ?_
      refine wr_iload_n rfl rfl rfl ?_
      refine wr_iload rfl rfl rfl ?_
      refine wr_iadd rfl rfl ?_
      refine wr_lald rfl rfl (by assumption) (by omega) (by omega) ?_
      refine wr_aload_n rfl rfl rfl ?_
      refine wr_get (ci := 5) (f := 0) rfl rfl rfl (by assumption) rfl ?_
      refine wr_iload rfl rfl rfl ?_
      refine wr_lald rfl rfl (by assumption) (by omega) (by omega) ?_
      rw [show ((sh : Int) + i).toNat = sh + i by omega, Int.toNat_natCast]
      refine wr_l_eq rfl rfl rfl rfl rfl (by omega) (by omega) (fun c134 => ?_) (fun c134 => ?_)
      ·
        refine wr_iinc (ls' := [_, _, _, _, _, _, _, _, _, _]) rfl rfl rfl rfl ?_
        refine wr_goto rfl rfl ?_
        refine ih (by omega) (fun j x y => ?_)
        by_cases e : j = i
        · subst e; exact c134
        · exact he j (by omega) y
      ·
        refine wr_aload_n rfl rfl rfl ?_
        refine wr_get (ci := 5) (f := 0) rfl rfl rfl (by assumption) rfl ?_
        refine wr_iload_n rfl rfl rfl ?_
        refine wr_iload rfl rfl rfl ?_
        refine wr_iadd rfl rfl ?_
        refine wr_lald rfl rfl (by assumption) (by omega) (by omega) ?_
        refine wr_aload_n rfl rfl rfl ?_
        refine wr_get (ci := 5) (f := 0) rfl rfl rfl (by assumption) rfl ?_
        refine wr_iload rfl rfl rfl ?_
        refine wr_lald rfl rfl (by assumption) (by omega) (by omega) ?_
        rw [show ((sh : Int) + i).toNat = sh + i by omega, Int.toNat_natCast]
        refine wr_l_le rfl rfl rfl rfl rfl (by omega) (by omega) (fun c154 => ?_) (fun c154 => ?_)
        ·
          refine wr_lconst (z := 0) rfl rfl rfl ?_
          refine wr_lret rfl rfl ?_
          exact K 0 (Or.inr ⟨rfl, gt (a := gd) (b := fun j => g (sh + j)) hgd hg (fun j x y => (he j (by omega) y).symm) (by show g (sh + i) < gd i; omega)⟩)
        ·
          refine wr_lconst (z := 1) rfl rfl rfl ?_
          refine wr_goto rfl rfl ?_
          refine wr_lret rfl rfl ?_
          have := gt (a := fun j => g (sh + j)) (b := gd) hg hgd (fun j x y => he j (by omega) y) (by show gd i < g (sh + i); omega)
          exact K 1 (Or.inl ⟨rfl, by omega⟩)
/-- how often, at least: what timesAt answers -/
def wTimes (h : am_H) (Rv D : Int) (sh : Nat) : Option Value → am_H → Prop := fun r h' => ∃ τ : Int, r = some (.long (lI τ)) ∧ h' = h ∧ 0 ≤ τ ∧ τ < 1000000000 ∧ τ * D * 1000000000 ^ sh ≤ Rv ∧ (τ = 0 → Rv < D * 1000000000 ^ sh) ∧ (0 < τ → 2 * Rv < 3 * (τ + 1) * (D * 1000000000 ^ sh))
theorem times_pure {N dt D p q Rv τ : Int} (hp : 0 < p) (hq : 0 < q) (hdt : 2 ≤ dt) (hN : 0 ≤ N) (d1 : dt * q ≤ D) (d2 : D < (dt + 1) * q) (r1 : N * (p * q) ≤ Rv) (r2 : Rv < (N + 1) * (p * q)) (hτ : τ = N / (dt + 1)) : 0 ≤ τ ∧ τ * D * p ≤ Rv ∧ 2 * Rv < 3 * (τ + 1) * (D * p) := by
  have h1 : τ * (dt + 1) ≤ N := by rw [hτ]; exact Int.ediv_mul_le N (by omega)
  have h2 : N < (τ + 1) * (dt + 1) := by rw [hτ]; exact Int.lt_ediv_add_one_mul_self N (by omega)
  have h0 : 0 ≤ τ := by rw [hτ]; exact Int.ediv_nonneg hN (by omega)
  have pq : 0 < p * q := Int.mul_pos hp hq
  refine ⟨h0, ?_, ?_⟩
  · have a1 : τ * D ≤ τ * ((dt + 1) * q) := Int.mul_le_mul_of_nonneg_left (by omega) h0
    have a2 : τ * D * p ≤ τ * ((dt + 1) * q) * p := Int.mul_le_mul_of_nonneg_right a1 (by omega)
    have a3 : τ * (dt + 1) * (p * q) ≤ N * (p * q) := Int.mul_le_mul_of_nonneg_right h1 (by omega)
    have e1 : τ * ((dt + 1) * q) * p = τ * (dt + 1) * (p * q) := by grind
    omega
  · have b1 : (N + 1) * (p * q) ≤ (τ + 1) * (dt + 1) * (p * q) := Int.mul_le_mul_of_nonneg_right (by omega) (by omega)
    have b2 : (τ + 1) * (2 * (dt + 1)) ≤ (τ + 1) * (3 * dt) := Int.mul_le_mul_of_nonneg_left (by omega) (by omega)
    have b3 : (τ + 1) * (2 * (dt + 1)) * (p * q) ≤ (τ + 1) * (3 * dt) * (p * q) := Int.mul_le_mul_of_nonneg_right b2 (by omega)
    have b4 : dt * q * p ≤ D * p := Int.mul_le_mul_of_nonneg_right d1 (by omega)
    have b5 : 3 * (τ + 1) * (dt * q * p) ≤ 3 * (τ + 1) * (D * p) := Int.mul_le_mul_of_nonneg_left b4 (by omega)
    have e1 : (τ + 1) * (2 * (dt + 1)) * (p * q) = 2 * ((τ + 1) * (dt + 1) * (p * q)) := by grind
    have e2 : (τ + 1) * (3 * dt) * (p * q) = 3 * (τ + 1) * (dt * q * p) := by grind
    omega
theorem wp_timesAt {d t l cap td ld cd nd sh : Nat} {h : am_H} {Rv : Int} {gd : Nat → Int} (ht : isW h t l cap Rv) (c_td : h[td]? = some (.inr (cWh, [.ref ld, .int (iI nd)]))) (c_ld : h[ld]? = some (am_la cd gd)) (hcap : cap ≤ 1000000) (hcd : cd ≤ 1000000) (hnd : nd ≤ cd) (kd : nok gd nd) (n0 : 0 < nd) (h2 : 2 ≤ gd (nd - 1)) (hsh : sh ≤ 1000000) (hR : Rv < nv gd nd * 1000000000 ^ (sh + 1)) :
    am_c X (d + 1) 93 [.ref t, .ref td, .int (iI sh)] h (wTimes h Rv (nv gd nd) sh) := by
  obtain ⟨g, n, c_t, c_l, q1, q2, q3⟩ := ht
  have pp := bp_pos sh
  have pq := bp_pos (nd - 1)
  have dB := nv_nonneg kd.1
  have rB := nv_nonneg q2.1
  have eD : nv gd nd = nv gd (nd - 1) + gd (nd - 1) * 1000000000 ^ (nd - 1) := by
    obtain ⟨w, rfl⟩ : ∃ w, nd = w + 1 := ⟨nd - 1, by omega⟩
    rfl
  have dl := nv_nonneg (g := gd) (n := nd - 1) (fun j hj => kd.1 j (by omega))
  have dt1 := kd.1 (nd - 1) (by omega)
  have d2 : nv gd nd < (gd (nd - 1) + 1) * 1000000000 ^ (nd - 1) := by rw [Int.add_mul]; omega
  have d1 : gd (nd - 1) * 1000000000 ^ (nd - 1) ≤ nv gd nd := by omega
  have d0 : 1 * 1000000000 ^ (nd - 1) ≤ nv gd nd := by
    have : 1 * 1000000000 ^ (nd - 1) ≤ gd (nd - 1) * 1000000000 ^ (nd - 1) := Int.mul_le_mul_of_nonneg_right (by omega) (by omega)
    omega
  have hn2 : n ≤ sh + nd + 1 := by
    refine nv_fit q2 ?_
    have y1 : nv gd nd * 1000000000 ^ (sh + 1) ≤ 1000000000 ^ nd * 1000000000 ^ (sh + 1) := Int.mul_le_mul_of_nonneg_right (by omega) (by have := bp_pos (sh + 1); omega)
    rw [← Int.pow_add, show nd + (sh + 1) = sh + nd + 1 by omega] at y1
    omega
  have small : n ≤ sh + (nd - 1) → Rv < nv gd nd * 1000000000 ^ sh := by
    intro hs
    have y1 := bp_mono (m := n) (n := sh + (nd - 1)) hs
    have y2 : 1 * 1000000000 ^ (nd - 1) * 1000000000 ^ sh ≤ nv gd nd * 1000000000 ^ sh := Int.mul_le_mul_of_nonneg_right d0 (by omega)
    rw [Int.one_mul, ← Int.pow_add, show nd - 1 + sh = sh + (nd - 1) by omega] at y2
    omega
  have R0 : n ≤ sh + (nd - 1) → ∃ τ : Int, (some (Value.long (lI 0))) = some (.long (lI τ)) ∧ h = h ∧ 0 ≤ τ ∧ τ < 1000000000 ∧ τ * nv gd nd * 1000000000 ^ sh ≤ Rv ∧ (τ = 0 → Rv < nv gd nd * 1000000000 ^ sh) ∧ (0 < τ → 2 * Rv < 3 * (τ + 1) * (nv gd nd * 1000000000 ^ sh)) :=
    fun hs => ⟨0, rfl, rfl, by omega, by omega, by rw [Int.zero_mul, Int.zero_mul]; omega, fun _ => small hs, fun q => by omega⟩
  have J : ∀ U : Int, sh + (nd - 1) < n → (U = 0 ∧ n = sh + nd) ∨ (U = g (sh + nd) * 1000000000 ∧ n = sh + nd + 1) → am_w X d 93 (77, [.ref t, .ref td, .int (iI sh), .int (iI ((nd : Int) - 1)), .int (iI ((sh : Int) + ((nd : Int) - 1))), am_U, am_U, am_U, am_U, am_U], [.long (lI U)], h) (wTimes h Rv (nv gd nd) sh) := by
    intro U hsn hU
    have xh := q2.1 (sh + (nd - 1)) hsn
    have U0 : 0 ≤ U ∧ U ≤ 999999999 * 1000000000 := by
      rcases hU with ⟨rfl, -⟩ | ⟨rfl, e⟩
      · omega
      · have := q2.1 (sh + nd) (by omega)
        omega
    have lo := nv_nonneg (g := g) (n := sh + (nd - 1)) (fun j hj => q2.1 j (by omega))
    have eR : Rv = nv g (sh + (nd - 1)) + (U + g (sh + (nd - 1))) * (1000000000 ^ sh * 1000000000 ^ (nd - 1)) := by
      rw [← Int.pow_add, ← q3]
      rcases hU with ⟨rfl, e⟩ | ⟨rfl, e⟩
      · rw [e, show sh + nd = sh + (nd - 1) + 1 by omega]
        show nv g (sh + (nd - 1)) + g (sh + (nd - 1)) * _ = _
        rw [Int.zero_add]
      · rw [e, show sh + nd + 1 = (sh + (nd - 1) + 1) + 1 by omega]
        show nv g (sh + (nd - 1)) + g (sh + (nd - 1)) * _ + g (sh + (nd - 1) + 1) * _ = _
        rw [show sh + (nd - 1) + 1 = sh + nd by omega, show (1000000000 : Int) ^ (sh + nd) = 1000000000 ^ (sh + (nd - 1)) * 1000000000 by rw [← Int.pow_succ, show (sh + (nd - 1)).succ = sh + nd by omega]]
        grind
    rw [Int.pow_add] at lo
    obtain ⟨τ, hτ⟩ : ∃ τ, τ = (U + g (sh + (nd - 1))) / (gd (nd - 1) + 1) := ⟨_, rfl⟩
    have r2 : Rv < (U + g (sh + (nd - 1)) + 1) * (1000000000 ^ sh * 1000000000 ^ (nd - 1)) := by rw [Int.add_mul _ 1]; omega
    obtain ⟨t0, t1, t2⟩ := times_pure pp pq h2 (by omega) d1 d2 (by omega) r2 hτ
    have tB : τ < 1000000000 := by
      rcases Int.lt_or_le τ 1000000000 with q | q
      · exact q
      · have y0 : 0 < nv gd nd * 1000000000 ^ sh := Int.mul_pos (by omega) pp
        have y1 : 1000000000 * (nv gd nd * 1000000000 ^ sh) ≤ τ * (nv gd nd * 1000000000 ^ sh) := Int.mul_le_mul_of_nonneg_right q (by omega)
        rw [Int.pow_succ] at hR
        have e1 : nv gd nd * (1000000000 ^ sh * 1000000000) = 1000000000 * (nv gd nd * 1000000000 ^ sh) := by grind
        have e2 : τ * nv gd nd * 1000000000 ^ sh = τ * (nv gd nd * 1000000000 ^ sh) := by grind
        omega
    refine wr_lstore (ls' := [_, _, _, _, _, _, _, _, _, _]) rfl rfl (Nat.le_of_ble_eq_true rfl) rfl ?_
    refine wr_lload rfl rfl rfl ?_
    refine wr_aload_n rfl rfl rfl ?_
    refine wr_get (ci := 5) (f := 0) rfl rfl rfl (by assumption) rfl ?_
    refine wr_iload rfl rfl rfl ?_
    rw [show (sh : Int) + ((nd : Int) - 1) = ((sh + (nd - 1) : Nat) : Int) by omega]
    refine wr_lald rfl rfl (by assumption) (by omega) (by omega) ?_
    rw [Int.toNat_natCast]
    refine wr_ladd rfl rfl ?_
    refine wr_aload_n rfl rfl rfl ?_
    refine wr_get (ci := 5) (f := 0) rfl rfl rfl (by assumption) rfl ?_
    refine wr_iload_n rfl rfl rfl ?_
    rw [show (nd : Int) - 1 = ((nd - 1 : Nat) : Int) by omega]
    refine wr_lald rfl rfl (by assumption) (by omega) (by omega) ?_
    rw [Int.toNat_natCast]
    refine wr_lconst (z := 1) rfl rfl rfl ?_
    refine wr_ladd rfl rfl ?_
    refine wr_ldivN rfl rfl (by omega) (by omega) (by omega) (by omega) ?_
    rw [← hτ]
    refine wr_lstore (ls' := [_, _, _, _, _, _, _, _, _, _]) rfl rfl (Nat.le_of_ble_eq_true rfl) rfl ?_
    refine wr_lload rfl rfl rfl ?_
    refine wr_lconst (z := 0) rfl rfl rfl ?_
    refine wr_l_le rfl rfl rfl rfl rfl (by omega) (by omega) (fun c103 => ?_) (fun c103 => ?_)
    ·
      have e0 : τ = 0 := by omega
      have hN : U + g (sh + (nd - 1)) < gd (nd - 1) + 1 := by
        have := Int.lt_ediv_add_one_mul_self (U + g (sh + (nd - 1))) (show 0 < gd (nd - 1) + 1 by omega)
        rw [← hτ, e0] at this
        omega
      have hns : n = sh + nd := by
        rcases hU with ⟨-, e⟩ | ⟨e, e'⟩
        · exact e
        · have y1 := q2.2 (by omega)
          rw [e', show sh + nd + 1 - 1 = sh + nd by omega] at y1
          have y2 := q2.1 (sh + nd) (by omega)
          omega
      refine wr_iload_n rfl rfl rfl ?_
      refine wr_istore (ls' := [_, _, _, _, _, _, _, _, _, _]) rfl rfl (Nat.le_of_ble_eq_true rfl) rfl ?_
      refine am_w.wk (ls' := [_, _, _, _, _, am_U, _, am_U, _, _]) ⟨Or.inr rfl, Or.inr rfl, Or.inr rfl, Or.inr rfl, Or.inr rfl, Or.inl rfl, Or.inr rfl, Or.inl rfl, Or.inr rfl, Or.inr rfl, trivial⟩ ?_
      have z := wp_times_cmp (X := X) (d := d) (nd := nd) (sh := sh) (tp := ((nd - 1 : Nat) : Int)) (hi := ((sh + (nd - 1) : Nat) : Int)) (Q := wTimes h Rv (nv gd nd) sh) c_t c_l c_td c_ld hcap hcd (by omega) hnd (fun j hj => q2.1 (sh + j) (by omega)) kd.1 ?_ nd (Nat.le_refl _) (fun j a b => by omega)
      rotate_left
      · intro b hb
        have eS := nv_shift g sh nd
        rw [← hns, q3] at eS
        have ls := nv_nonneg (g := g) (n := sh) (fun j hj => q2.1 j (by omega))
        rw [e0] at t2
        rcases hb with ⟨rfl, hb⟩ | ⟨rfl, hb⟩
        · have y1 : 1000000000 ^ sh * nv gd nd ≤ 1000000000 ^ sh * nv (fun j => g (sh + j)) nd := Int.mul_le_mul_of_nonneg_left hb (by omega)
          rw [Int.mul_comm _ (nv gd nd)] at y1
          refine ⟨1, rfl, rfl, by omega, by omega, by rw [Int.one_mul]; omega, fun q => by omega, fun _ => by omega⟩
        · have y1 : 1000000000 ^ sh * (nv (fun j => g (sh + j)) nd + 1) ≤ 1000000000 ^ sh * nv gd nd := Int.mul_le_mul_of_nonneg_left (by omega) (by omega)
          rw [Int.mul_comm _ (nv gd nd), Int.mul_add] at y1
          refine ⟨0, rfl, rfl, by omega, by omega, by rw [Int.zero_mul, Int.zero_mul]; omega, fun _ => by omega, fun q => by omega⟩
      · rw [show (nd : Int) - 1 = ((nd - 1 : Nat) : Int) by omega] at z
        exact z
    ·
      refine wr_lload rfl rfl rfl ?_
      refine wr_lret rfl rfl ?_
      exact ⟨τ, rfl, rfl, t0, tB, t1, fun q => by omega, fun _ => t2⟩
  refine am_c.of (Nat.le_of_ble_eq_true rfl) ?_
  show am_w _ _ _ (_, [_, _, _, _, _, _, _, _, _, _], _, _) _
  refine wr_aload_n rfl rfl rfl ?_
  refine wr_get (ci := 5) (f := 1) rfl rfl rfl (by assumption) rfl ?_
  refine wr_iconst rfl rfl ?_
  refine wr_isub rfl rfl ?_
  refine wr_istore_n (ls' := [_, _, _, _, _, _, _, _, _, _]) rfl rfl (Nat.le_of_ble_eq_true rfl) rfl ?_
  refine wr_iload_n rfl rfl rfl ?_
  refine wr_iload_n rfl rfl rfl ?_
  refine wr_iadd rfl rfl ?_
  refine wr_istore (ls' := [_, _, _, _, _, _, _, _, _, _]) rfl rfl (Nat.le_of_ble_eq_true rfl) rfl ?_
  refine wr_iload_n rfl rfl rfl ?_
  refine wr_if_lt rfl rfl rfl (by omega) (fun c13 => ?_) (fun c13 => ?_)
  · exfalso; omega
  ·
    refine wr_iload rfl rfl rfl ?_
    refine wr_aload_n rfl rfl rfl ?_
    refine wr_get (ci := 5) (f := 0) rfl rfl rfl (by assumption) rfl ?_
    refine wr_alen rfl rfl (by assumption) (by decide) ?_
    refine wr_icmp_ge rfl rfl rfl (by omega) (by omega) (fun c23 => ?_) (fun c23 => ?_)
    ·
      refine wr_lconst (z := 0) rfl rfl rfl ?_
      refine wr_lret rfl rfl ?_
      exact R0 (by omega)
    ·
      refine wr_iload rfl rfl rfl ?_
      refine wr_aload_n rfl rfl rfl ?_
      refine wr_get (ci := 5) (f := 1) rfl rfl rfl (by assumption) rfl ?_
      refine wr_icmp_lt rfl rfl rfl (by omega) (by omega) (fun c32 => ?_) (fun c32 => ?_)
      ·
        refine wr_iload rfl rfl rfl ?_
        refine wr_iconst rfl rfl ?_
        refine wr_iadd rfl rfl ?_
        refine wr_aload_n rfl rfl rfl ?_
        refine wr_get (ci := 5) (f := 1) rfl rfl rfl (by assumption) rfl ?_
        refine wr_icmp_ge rfl rfl rfl (by omega) (by omega) (fun c45 => ?_) (fun c45 => ?_)
        ·
          refine wr_lconst (z := 0) rfl rfl rfl ?_
          exact J 0 (by omega) (Or.inl ⟨rfl, by omega⟩)
        ·
          refine wr_iload rfl rfl rfl ?_
          refine wr_iconst rfl rfl ?_
          refine wr_iadd rfl rfl ?_
          refine wr_aload_n rfl rfl rfl ?_
          refine wr_get (ci := 5) (f := 0) rfl rfl rfl (by assumption) rfl ?_
          refine wr_alen rfl rfl (by assumption) (by decide) ?_
          refine wr_icmp_ge rfl rfl rfl (by omega) (by omega) (fun c57 => ?_) (fun c57 => ?_)
          · exfalso; omega
          ·
            have xh := q2.1 (sh + nd) (by omega)
            refine wr_aload_n rfl rfl rfl ?_
            refine wr_get (ci := 5) (f := 0) rfl rfl rfl (by assumption) rfl ?_
            refine wr_iload rfl rfl rfl ?_
            refine wr_iconst rfl rfl ?_
            refine wr_iadd rfl rfl ?_
            refine wr_lald rfl rfl (by assumption) (by omega) (by omega) ?_
            rw [show ((sh : Int) + ((nd : Int) - 1) + 1).toNat = sh + nd by omega]
            refine wr_ldc2 (z := 1000000000) rfl rfl rfl (by decide) ?_
            refine wr_lmul rfl rfl ?_
            refine wr_goto rfl rfl ?_
            exact J _ (by omega) (Or.inr ⟨rfl, by omega⟩)
      ·
        refine wr_lconst (z := 0) rfl rfl rfl ?_
        refine wr_lret rfl rfl ?_
        exact R0 (by omega)
end WHU
end
section
/-! WHOLE NUMBERS OF THE CLASS: unscale, beginDigits, setDigit; commonOf -/
/-- the number that limbs i .. n - 1 make -/
def nh (g : Nat → Int) (n i : Nat) : Int := nv (fun j => g (i + j)) (n - i)
theorem nh_n (g : Nat → Int) (n : Nat) : nh g n n = 0 := by
  unfold nh
  rw [Nat.sub_self]
  rfl
theorem nh_step {g : Nat → Int} {n i : Nat} (h : i < n) : nh g n i = g i + 1000000000 * nh g n (i + 1) := by
  unfold nh
  rw [show n - i = 1 + (n - (i + 1)) by omega, nv_shift]
  show 0 + g (i + 0) * 1 + 1000000000 * nv (fun j => g (i + (1 + j))) _ = _
  rw [Nat.add_zero, show (fun j => g (i + (1 + j))) = (fun j => g (i + 1 + j)) from funext (fun j => by rw [show i + (1 + j) = i + 1 + j by omega])]
  omega
theorem nh_0 (g : Nat → Int) (n : Nat) : nh g n 0 = nv g n := by
  unfold nh
  rw [show (fun j => g (0 + j)) = g from funext (fun j => by rw [Nat.zero_add])]
  rfl
theorem nh_congr {g g' : Nat → Int} {n i : Nat} (h : ∀ j, i ≤ j → j < n → g' j = g j) : nh g' n i = nh g n i := nv_congr (fun j hj => h (i + j) (by omega) (by omega))
section WHV
variable {X : Nat × (Nat → Int32)}
theorem wp_unscale_loop {d t l cap n : Nat} {h0 : am_H} {f : Int} {g0 : Nat → Int} {Q : Option Value → am_H → Prop} (ht : h0[t]? = some (.inr (cWh, [.ref l, .int (iI n)]))) (hl : h0[l]? = some (am_la cap g0)) (hcap : cap ≤ 1000000) (hn : n ≤ cap) (hg0 : ∀ j, j < n → 0 ≤ g0 j ∧ g0 j < 1000000000) (hf : 1 ≤ f ∧ f ≤ 1000000000)
    (K : ∀ (g : Nat → Int) (u : Nat) (r : Int), u ≤ n → nv g n * f + r = nv g0 n → 0 ≤ r → r < f → (∀ j, j < n → 0 ≤ g j ∧ g j < 1000000000) → top g u n → Q none ((h0.set l (am_la cap g)).set t (.inr (cWh, [.ref l, .int (iI u)])))) :
    ∀ (i : Nat) (g : Nat → Int) (u : Nat) (r : Int), i ≤ n → (∀ j, j < i → g j = g0 j) → (∀ j, j < n → 0 ≤ g j ∧ g j < 1000000000) → 0 ≤ r → r < f → nh g n i * f + r = nh g0 n i → ((u = 0 ∧ ∀ j, i ≤ j → j < n → g j = 0) ∨ (i < u ∧ u ≤ n ∧ g (u - 1) ≠ 0 ∧ ∀ j, u ≤ j → j < n → g j = 0)) → am_w X d 96 (13, [.ref t, .long (lI f), am_U, .long (lI r), am_U, .int (iI u), .int (iI ((i : Int) - 1)), am_U, am_U], [], h0.set l (am_la cap g)) Q := by
  have hne : l ≠ t := fun e => am_oa ht hl e.symm
  intro i
  induction i with
  | zero =>
    intro g u r hi hk hg hr0 hr1 he hu
    have c_t : (h0.set l (am_la cap g))[t]? = some (.inr (cWh, [.ref l, .int (iI n)])) := by rw [am_set_n hne]; exact ht
    rw [nh_0, nh_0] at he
    refine wr_iload rfl rfl rfl ?_
    refine wr_if_lt rfl rfl rfl (by omega) (fun c15 => ?_) (fun c15 => ?_)
    ·
      refine wr_aload_n rfl rfl rfl ?_
      refine wr_iload rfl rfl rfl ?_
      refine wr_putI (ci := 5) (f := 1) (fs' := [_, _]) rfl rfl rfl (by assumption) rfl rfl rfl (fun h1 e1 => ?_)
      refine wr_vret rfl rfl ?_
      rw [e1]
      refine K g u r (by omega) he hr0 hr1 hg ?_
      rcases hu with ⟨rfl, q⟩ | ⟨q1, q2, q3, q4⟩
      · exact ⟨by omega, fun j a b => q j (by omega) b, fun z => by omega⟩
      · exact ⟨q2, q4, fun _ => q3⟩
    · exfalso; omega
  | succ i ih =>
    intro g u r hi hk hg hr0 hr1 he hu
    have c_t : (h0.set l (am_la cap g))[t]? = some (.inr (cWh, [.ref l, .int (iI n)])) := by rw [am_set_n hne]; exact ht
    have c_l : (h0.set l (am_la cap g))[l]? = some (am_la cap g) := am_set_s hl
    have x0 := hg0 i (by omega)
    have ek := hk i (by omega)
    have hu1 : 0 ≤ (u : Int) ∧ (u : Int) ≤ 1000000 := by omega
    rw [show ((i + 1 : Nat) : Int) - 1 = i by omega]
    have xr : 0 ≤ r * 1000000000 ∧ r * 1000000000 ≤ (f - 1) * 1000000000 := by omega
    obtain ⟨s, hs⟩ : ∃ s, s = r * 1000000000 + g0 i := ⟨_, rfl⟩
    obtain ⟨x, hx⟩ : ∃ x, x = s / f := ⟨_, rfl⟩
    obtain ⟨r', hr'⟩ : ∃ r', r' = s - x * f := ⟨_, rfl⟩
    have hr2 : 0 ≤ r' ∧ r' < f := by
      have y1 : x * f ≤ s := by rw [hx]; exact Int.ediv_mul_le s (by omega)
      have y2 : s < (x + 1) * f := by rw [hx]; exact Int.lt_ediv_add_one_mul_self s (by omega)
      rw [Int.add_mul] at y2
      omega
    have hx2 : 0 ≤ x ∧ x < 1000000000 := by
      refine ⟨by rw [hx]; exact Int.ediv_nonneg (by omega) (by omega), ?_⟩
      rw [hx]
      apply Int.ediv_lt_of_lt_mul (by omega)
      omega
    have xf : 0 ≤ x * f ∧ x * f ≤ s := by
      refine ⟨Int.mul_nonneg (by omega) (by omega), ?_⟩
      rw [hx]; exact Int.ediv_mul_le s (by omega)
    have J4 : ∀ u' : Nat, ((u' = 0 ∧ ∀ j, i ≤ j → j < n → updI g i x j = 0) ∨ (i < u' ∧ u' ≤ n ∧ updI g i x (u' - 1) ≠ 0 ∧ ∀ j, u' ≤ j → j < n → updI g i x j = 0)) → am_w X d 96 (89, [.ref t, .long (lI f), am_U, .long (lI r'), am_U, .int (iI u), .int (iI i), am_U, am_U], [.int (iI u')], h0.set l (am_la cap (updI g i x))) Q := by
      intro u' hu'
      refine wr_istore (ls' := [_, _, _, _, _, _, _, _, _]) rfl rfl (Nat.le_of_ble_eq_true rfl) rfl ?_
      refine wr_iinc (ls' := [_, _, _, _, _, _, _, _, _]) rfl rfl rfl rfl ?_
      refine wr_goto rfl rfl ?_
      refine ih (updI g i x) u' r' (by omega) (fun j hj => by rw [updI_n (by omega)]; exact hk j (by omega)) (dig_at hg hx2) (by omega) (by omega) ?_ hu'
      rw [nh_step (g := updI g i x) (by omega), nh_step (g := g0) (by omega), updI_s, nh_congr (g := g) (g' := updI g i x) (fun j a b => updI_n (by omega))]
      generalize nh g n (i + 1) = A at he ⊢
      generalize nh g0 n (i + 1) = B at he ⊢
      clear hx xf hx2 hr2
      subst hr' hs
      grind
    refine wr_iload rfl rfl rfl ?_
    refine wr_if_lt rfl rfl rfl (by omega) (fun c15 => ?_) (fun c15 => ?_)
    · exfalso; omega
    ·
      refine wr_lload_n rfl rfl rfl ?_
      refine wr_lconst (z := 0) rfl rfl rfl ?_
      refine wr_l_le rfl rfl rfl rfl rfl (by omega) (by omega) (fun c20 => ?_) (fun c20 => ?_)
      · exfalso; omega
      ·
        refine wr_lload_n rfl rfl rfl ?_
        refine wr_ldc2 (z := 1000000000) rfl rfl rfl (by decide) ?_
        refine wr_lmul rfl rfl ?_
        refine wr_aload_n rfl rfl rfl ?_
        refine wr_get (ci := 5) (f := 0) rfl rfl rfl (by assumption) rfl ?_
        refine wr_iload rfl rfl rfl ?_
        refine wr_lald rfl rfl (by assumption) (by omega) (by omega) ?_
        rw [Int.toNat_natCast, ek]
        refine wr_ladd rfl rfl ?_
        refine wr_lstore (ls' := [_, _, _, _, _, _, _, _, _]) rfl rfl (Nat.le_of_ble_eq_true rfl) rfl ?_
        rw [← hs]
        refine wr_aload_n rfl rfl rfl ?_
        refine wr_get (ci := 5) (f := 0) rfl rfl rfl (by assumption) rfl ?_
        refine wr_iload rfl rfl rfl ?_
        refine wr_lload rfl rfl rfl ?_
        refine wr_lload_n rfl rfl rfl ?_
        refine wr_ldivN rfl rfl (by omega) (by omega) (by omega) (by omega) ?_
        rw [← hx]
        refine wr_last rfl rfl (by assumption) (by omega) (by omega) (fun h1 e1 => ?_)
        rw [List.set_set, Int.toNat_natCast] at e1
        have d_t : h1[t]? = some (.inr (cWh, [.ref l, .int (iI n)])) := by rw [e1, am_set_n hne]; exact ht
        have d_l : h1[l]? = some (am_la cap (updI g i x)) := by rw [e1]; exact am_set_s hl
        refine wr_lload rfl rfl rfl ?_
        refine wr_aload_n rfl rfl rfl ?_
        refine wr_get (ci := 5) (f := 0) rfl rfl rfl (by assumption) rfl ?_
        refine wr_iload rfl rfl rfl ?_
        refine wr_lald rfl rfl (by assumption) (by omega) (by omega) ?_
        rw [Int.toNat_natCast, updI_s]
        refine wr_lload_n rfl rfl rfl ?_
        refine wr_lmul rfl rfl ?_
        refine wr_lsub rfl rfl ?_
        rw [← hr']
        refine wr_lstore_n (ls' := [_, _, _, _, _, _, _, _, _]) rfl rfl (Nat.le_of_ble_eq_true rfl) rfl ?_
        refine wr_iload rfl rfl rfl ?_
        refine wr_if_ne rfl rfl rfl (by omega) (fun c65 => ?_) (fun c65 => ?_)
        ·
          refine wr_iload rfl rfl rfl ?_
          refine am_w.wk (ls' := [_, _, _, _, _, _, _, am_U, _]) ⟨Or.inr rfl, Or.inr rfl, Or.inr rfl, Or.inr rfl, Or.inr rfl, Or.inr rfl, Or.inr rfl, Or.inl rfl, Or.inr rfl, trivial⟩ ?_
          rw [e1]
          refine J4 u (Or.inr ?_)
          rcases hu with ⟨rfl, q⟩ | ⟨q1, q2, q3, q4⟩
          · exfalso; omega
          · exact ⟨by omega, q2, by rw [updI_n (by omega)]; exact q3, fun j a b => by rw [updI_n (by omega)]; exact q4 j a b⟩
        ·
          have hu0 : u = 0 := by omega
          have hz : ∀ j, i + 1 ≤ j → j < n → g j = 0 := by
            rcases hu with ⟨-, q⟩ | ⟨q1, -⟩
            · exact q
            · exfalso; omega
          refine wr_aload_n rfl rfl rfl ?_
          refine wr_get (ci := 5) (f := 0) rfl rfl rfl (by assumption) rfl ?_
          refine wr_iload rfl rfl rfl ?_
          refine wr_lald rfl rfl (by assumption) (by omega) (by omega) ?_
          refine wr_lconst (z := 0) rfl rfl rfl ?_
          rw [Int.toNat_natCast, updI_s]
          refine wr_l_eq rfl rfl rfl rfl rfl (by omega) (by omega) (fun c76 => ?_) (fun c76 => ?_)
          ·
            refine wr_iload rfl rfl rfl ?_
            refine am_w.wk (ls' := [_, _, _, _, _, _, _, am_U, _]) ⟨Or.inr rfl, Or.inr rfl, Or.inr rfl, Or.inr rfl, Or.inr rfl, Or.inr rfl, Or.inr rfl, Or.inl rfl, Or.inr rfl, trivial⟩ ?_
            rw [e1]
            refine J4 u (Or.inl ⟨hu0, fun j a b => ?_⟩)
            by_cases e : j = i
            · subst e; rw [updI_s]; exact c76
            · rw [updI_n e]; exact hz j (by omega) b
          ·
            refine wr_iload rfl rfl rfl ?_
            refine wr_iconst rfl rfl ?_
            refine wr_iadd rfl rfl ?_
            refine wr_goto rfl rfl ?_
            refine am_w.wk (ls' := [_, _, _, _, _, _, _, am_U, _]) ⟨Or.inr rfl, Or.inr rfl, Or.inr rfl, Or.inr rfl, Or.inr rfl, Or.inr rfl, Or.inr rfl, Or.inl rfl, Or.inr rfl, trivial⟩ ?_
            rw [e1, show (i : Int) + 1 = ((i + 1 : Nat) : Int) by omega]
            refine J4 (i + 1) (Or.inr ⟨by omega, by omega, by rw [show i + 1 - 1 = i by omega, updI_s]; exact c76, fun j a b => ?_⟩)
            rw [updI_n (by omega)]
            exact hz j a b
theorem wp_unscale {d t l cap : Nat} {h : am_H} {v f : Int} (ht : isW h t l cap v) (hcap : cap ≤ 1000000) (hf : 1 ≤ f ∧ f ≤ 1000000000) :
    am_c X (d + 1) 96 [.ref t, .long (lI f)] h (fun r h' => r = none ∧ isW h' t l cap (v / f) ∧ fr [t, l] h h') := by
  obtain ⟨g0, n, c_t, c_l, q1, q2, q3⟩ := ht
  have hne : l ≠ t := fun e => am_oa c_t c_l e.symm
  refine am_c.of (Nat.le_of_ble_eq_true rfl) ?_
  show am_w _ _ _ (_, [_, _, _, _, _, _, _, _, _], _, _) _
  refine wr_lconst (z := 0) rfl rfl rfl ?_
  refine wr_lstore_n (ls' := [_, _, _, _, _, _, _, _, _]) rfl rfl (Nat.le_of_ble_eq_true rfl) rfl ?_
  refine wr_iconst rfl rfl ?_
  refine wr_istore (ls' := [_, _, _, _, _, _, _, _, _]) rfl rfl (Nat.le_of_ble_eq_true rfl) rfl ?_
  refine wr_aload_n rfl rfl rfl ?_
  refine wr_get (ci := 5) (f := 1) rfl rfl rfl (by assumption) rfl ?_
  refine wr_iconst rfl rfl ?_
  refine wr_isub rfl rfl ?_
  refine wr_istore (ls' := [_, _, _, _, _, _, _, _, _]) rfl rfl (Nat.le_of_ble_eq_true rfl) rfl ?_
  have hw := wp_unscale_loop (X := X) (d := d) (f := f) (Q := fun r h' => r = none ∧ isW h' t l cap (v / f) ∧ fr [t, l] h h') c_t c_l hcap q1 q2.1 hf ?_ n g0 0 0 (Nat.le_refl _) (fun j hj => rfl) q2.1 (by omega) (by omega) (by rw [nh_n]; omega) (Or.inl ⟨rfl, fun j a b => by omega⟩)
  · rw [am_set_id c_l] at hw
    exact hw
  · intro g u r hu he hr0 hr1 hg htop
    refine ⟨rfl, ?_, fr_set2⟩
    have e1 : v / f = nv g u := by
      rw [← top_nv htop, ← q3, ← he, Int.add_comm, Int.add_mul_ediv_right _ _ (by omega), Int.ediv_eq_zero_of_lt hr0 hr1]
      omega
    rw [e1]
    exact isW.mk2 c_t c_l hne (by omega) ⟨fun j hj => hg j (by omega), htop.2.2⟩
theorem wp_beginDigits {d t l cap : Nat} {h : am_H} {n0 k : Int} {g : Nat → Int} (c_t : h[t]? = some (.inr (cWh, [.ref l, .int (iI n0)]))) (c_l : h[l]? = some (am_la cap g)) (hcap : cap ≤ 1000000) (hk : -1000000 ≤ k ∧ k ≤ cap) :
    am_c X (d + 1) 92 [.ref t, .int (iI k)] h (fun r h' => r = none ∧ h' = h.set t (.inr (cWh, [.ref l, .int (iI (max 0 k))]))) := by
  have J : am_w X d 92 (27, [.ref t, .int (iI k)], [.int (iI (max 0 k)), .ref t], h) (fun r h' => r = none ∧ h' = h.set t (.inr (cWh, [.ref l, .int (iI (max 0 k))]))) := by
    refine wr_putI (ci := 5) (f := 1) (fs' := [_, _]) rfl rfl rfl (by assumption) rfl rfl rfl (fun h1 e1 => ?_)
    refine wr_vret rfl rfl ?_
    exact ⟨rfl, e1⟩
  refine am_c.of (Nat.le_of_ble_eq_true rfl) ?_
  show am_w _ _ _ (_, [_, _], _, _) _
  refine wr_aload_n rfl rfl rfl ?_
  refine wr_iload_n rfl rfl rfl ?_
  refine wr_if_ge rfl rfl rfl (by omega) (fun c2 => ?_) (fun c2 => ?_)
  ·
    refine wr_iload_n rfl rfl rfl ?_
    refine wr_aload_n rfl rfl rfl ?_
    refine wr_get (ci := 5) (f := 0) rfl rfl rfl (by assumption) rfl ?_
    refine wr_alen rfl rfl (by assumption) (by decide) ?_
    refine wr_icmp_ge rfl rfl rfl (by omega) (by omega) (fun c15 => ?_) (fun c15 => ?_)
    ·
      refine wr_aload_n rfl rfl rfl ?_
      refine wr_get (ci := 5) (f := 0) rfl rfl rfl (by assumption) rfl ?_
      refine wr_alen rfl rfl (by assumption) (by decide) ?_
      rw [show (cap : Int) = max 0 k by omega]
      exact J
    ·
      refine wr_iload_n rfl rfl rfl ?_
      refine wr_goto rfl rfl ?_
      have e : max 0 k = k := by omega
      rw [e] at J
      rw [e]
      exact J
  ·
    refine wr_iconst rfl rfl ?_
    refine wr_goto rfl rfl ?_
    have e : max 0 k = 0 := by omega
    rw [e] at J
    rw [e]
    exact J
theorem wp_setDigit {d t l cap s i : Nat} {h : am_H} {x : Int} {g : Nat → Int} (c_t : h[t]? = some (.inr (cWh, [.ref l, .int (iI s)]))) (c_l : h[l]? = some (am_la cap g)) (hcap : cap ≤ 1000000) (hs : s ≤ cap) (hi : i < cap) (hx : 0 ≤ x ∧ x < 1000000000) :
    am_c X (d + 1) 95 [.ref t, .int (iI i), .long (lI x)] h (fun r h' => r = none ∧ h' = (h.set l (am_la cap (updI g i x))).set t (.inr (cWh, [.ref l, .int (iI (if x = 0 ∧ s = i + 1 then (i : Int) else s))]))) := by
  have hne : l ≠ t := fun e => am_oa c_t c_l e.symm
  refine am_c.of (Nat.le_of_ble_eq_true rfl) ?_
  show am_w _ _ _ (_, [_, _, _, _], _, _) _
  refine wr_iload_n rfl rfl rfl ?_
  refine wr_if_lt rfl rfl rfl (by omega) (fun c1 => ?_) (fun c1 => ?_)
  · exfalso; omega
  ·
    refine wr_iload_n rfl rfl rfl ?_
    refine wr_aload_n rfl rfl rfl ?_
    refine wr_get (ci := 5) (f := 0) rfl rfl rfl (by assumption) rfl ?_
    refine wr_alen rfl rfl (by assumption) (by decide) ?_
    refine wr_icmp_lt rfl rfl rfl (by omega) (by omega) (fun c10 => ?_) (fun c10 => ?_)
    ·
      refine wr_aload_n rfl rfl rfl ?_
      refine wr_get (ci := 5) (f := 0) rfl rfl rfl (by assumption) rfl ?_
      refine wr_iload_n rfl rfl rfl ?_
      refine wr_lload_n rfl rfl rfl ?_
      refine wr_last rfl rfl (by assumption) (by omega) (by omega) (fun h1 e1 => ?_)
      rw [Int.toNat_natCast] at e1
      have d_t : h1[t]? = some (.inr (cWh, [.ref l, .int (iI s)])) := by rw [e1, am_set_n hne]; exact c_t
      refine wr_lload_n rfl rfl rfl ?_
      refine wr_lconst (z := 0) rfl rfl rfl ?_
      refine wr_l_ne rfl rfl rfl rfl rfl (by omega) (by omega) (fun c23 => ?_) (fun c23 => ?_)
      ·
        refine wr_vret rfl rfl ?_
        rw [if_neg (fun q => c23 q.1), ← e1, am_set_id d_t]
        exact ⟨rfl, rfl⟩
      ·
        refine wr_aload_n rfl rfl rfl ?_
        refine wr_get (ci := 5) (f := 1) rfl rfl rfl (by assumption) rfl ?_
        refine wr_iload_n rfl rfl rfl ?_
        refine wr_iconst rfl rfl ?_
        refine wr_iadd rfl rfl ?_
        refine wr_icmp_ne rfl rfl rfl (by omega) (by omega) (fun c34 => ?_) (fun c34 => ?_)
        ·
          refine wr_vret rfl rfl ?_
          rw [if_neg (fun q => c34 (by omega)), ← e1, am_set_id d_t]
          exact ⟨rfl, rfl⟩
        ·
          refine wr_aload_n rfl rfl rfl ?_
          refine wr_iload_n rfl rfl rfl ?_
          refine wr_putI (ci := 5) (f := 1) (fs' := [_, _]) rfl rfl rfl (by assumption) rfl rfl rfl (fun h2 e2 => ?_)
          refine wr_vret rfl rfl ?_
          rw [if_pos ⟨by omega, by omega⟩, ← e1]
          exact ⟨rfl, e2⟩
    · exfalso; omega
end WHV
end
section
/-! THE CLASS'S ARITHMETIC: commonOf, divide -/
abbrev cAr : Nat := 4
/-- the arithmetic at cell s: its eleven numbers stand behind it, each with its limbs -/
def arCell (s : Nat) : va_E := .inr (cAr, [.ref (s + 1), .ref (s + 3), .ref (s + 5), .ref (s + 7), .ref (s + 9), .ref (s + 11), .ref (s + 13), .ref (s + 15), .ref (s + 17), .ref (s + 19), .ref (s + 21)])
section ARA
variable {X : Nat × (Nat → Int32)}
theorem wp_common_loop {d : Nat} {a b : Int} {h : am_H} {Q : Option Value → am_H → Prop} :
    ∀ (m G L n : Nat), L < 2 ^ m → m ≤ 63 → n + 2 * m ≤ 900000 → (G : Int) ≤ 9223372036854775807 → Q (some (.long (lI (Nat.gcd G L)))) h → am_w X d 80 (9, [.long (lI a), am_U, .long (lI b), am_U, .long (lI G), am_U, .long (lI L), am_U, .int (iI n), am_U, am_U], [], h) Q := by
  intro m
  induction m with
  | zero =>
    intro G L n hL hm hn hG K
    obtain rfl : L = 0 := by
      have : (2 : Nat) ^ 0 = 1 := rfl
      omega
    rw [Nat.gcd_zero_right] at K
    refine wr_iload rfl rfl rfl ?_
    refine wr_ldc (z := 1000000) rfl rfl rfl (by decide) ?_
    refine wr_icmp_ge rfl rfl rfl (by omega) (by omega) (fun c13 => ?_) (fun c13 => ?_)
    · exfalso; omega
    ·
      refine wr_lload rfl rfl rfl ?_
      refine wr_lconst (z := 0) rfl rfl rfl ?_
      refine wr_l_le rfl rfl rfl rfl rfl (by omega) (by omega) (fun c19 => ?_) (fun c19 => ?_)
      ·
        refine wr_lload rfl rfl rfl ?_
        refine wr_lret rfl rfl ?_
        exact K
      · exfalso; omega
  | succ m ih =>
    intro G L n hL hm hn hG K
    have hp : 2 ^ (m + 1) = 2 * 2 ^ m := by rw [Nat.pow_succ]; omega
    have hp2 : 2 ^ m ≤ 2 ^ 62 := Nat.pow_le_pow_right (by omega) (by omega)
    have hp3 : (2 : Nat) ^ 62 = 4611686018427387904 := by decide
    have done : ∀ (G L n : Nat), L = 0 → n ≤ 900000 → (G : Int) ≤ 9223372036854775807 → Q (some (.long (lI (Nat.gcd G L)))) h → am_w X d 80 (9, [.long (lI a), am_U, .long (lI b), am_U, .long (lI G), am_U, .long (lI L), am_U, .int (iI n), am_U, am_U], [], h) Q := by
      intro G L n hL0 hn hG K
      subst hL0
      rw [Nat.gcd_zero_right] at K
      refine wr_iload rfl rfl rfl ?_
      refine wr_ldc (z := 1000000) rfl rfl rfl (by decide) ?_
      refine wr_icmp_ge rfl rfl rfl (by omega) (by omega) (fun c13 => ?_) (fun c13 => ?_)
      · exfalso; omega
      ·
        refine wr_lload rfl rfl rfl ?_
        refine wr_lconst (z := 0) rfl rfl rfl ?_
        refine wr_l_le rfl rfl rfl rfl rfl (by omega) (by omega) (fun c19 => ?_) (fun c19 => ?_)
        ·
          refine wr_lload rfl rfl rfl ?_
          refine wr_lret rfl rfl ?_
          exact K
        · exfalso; omega
    by_cases h0 : L = 0
    · exact done G L n h0 (by omega) hG K
    · have hr := Nat.mod_lt G (show L > 0 by omega)
      have e1 : Nat.gcd G L = Nat.gcd L (G % L) := by rw [Nat.gcd_comm, Nat.gcd_rec, Nat.gcd_comm]
      rw [e1] at K
      refine wr_iload rfl rfl rfl ?_
      refine wr_ldc (z := 1000000) rfl rfl rfl (by decide) ?_
      refine wr_icmp_ge rfl rfl rfl (by omega) (by omega) (fun c13 => ?_) (fun c13 => ?_)
      · exfalso; omega
      ·
        refine wr_lload rfl rfl rfl ?_
        refine wr_lconst (z := 0) rfl rfl rfl ?_
        refine wr_l_le rfl rfl rfl rfl rfl (by omega) (by omega) (fun c19 => ?_) (fun c19 => ?_)
        · exfalso; omega
        ·
          refine wr_lload rfl rfl rfl ?_
          refine wr_lload rfl rfl rfl ?_
          refine wr_lremN rfl rfl (by omega) (by omega) (by omega) (by omega) ?_
          refine wr_lstore (ls' := [_, _, _, _, _, _, _, _, _, _, _]) rfl rfl (Nat.le_of_ble_eq_true rfl) rfl ?_
          refine wr_lload rfl rfl rfl ?_
          refine wr_lstore (ls' := [_, _, _, _, _, _, _, _, _, _, _]) rfl rfl (Nat.le_of_ble_eq_true rfl) rfl ?_
          refine wr_lload rfl rfl rfl ?_
          refine wr_lstore (ls' := [_, _, _, _, _, _, _, _, _, _, _]) rfl rfl (Nat.le_of_ble_eq_true rfl) rfl ?_
          refine wr_iinc (ls' := [_, _, _, _, _, _, _, _, _, _, _]) rfl rfl rfl rfl ?_
          refine wr_goto rfl rfl ?_
          refine am_w.wk (ls' := [_, _, _, _, _, _, _, _, _, am_U, _]) ⟨Or.inr rfl, Or.inr rfl, Or.inr rfl, Or.inr rfl, Or.inr rfl, Or.inr rfl, Or.inr rfl, Or.inr rfl, Or.inr rfl, Or.inl rfl, Or.inr rfl, trivial⟩ ?_
          rw [show (G : Int) % L = ((G % L : Nat) : Int) by omega, show (n : Int) + 1 = ((n + 1 : Nat) : Int) by omega]
          by_cases h1 : G % L = 0
          · exact done L (G % L) (n + 1) h1 (by omega) (by omega) K
          · have hr2 := Nat.mod_lt L (show G % L > 0 by omega)
            have e2 : Nat.gcd L (G % L) = Nat.gcd (G % L) (L % (G % L)) := by rw [Nat.gcd_comm, Nat.gcd_rec, Nat.gcd_comm]
            rw [e2] at K
            have hh : 2 * (L % (G % L)) < L := by
              have y1 := Nat.div_add_mod L (G % L)
              have y2 : 1 ≤ L / (G % L) := (Nat.le_div_iff_mul_le (by omega)).mpr (by omega)
              have y3 : (G % L) * 1 ≤ (G % L) * (L / (G % L)) := Nat.mul_le_mul_left _ y2
              omega
            refine wr_iload rfl rfl rfl ?_
            refine wr_ldc (z := 1000000) rfl rfl rfl (by decide) ?_
            refine wr_icmp_ge rfl rfl rfl (by omega) (by omega) (fun c13 => ?_) (fun c13 => ?_)
            · exfalso; omega
            ·
              refine wr_lload rfl rfl rfl ?_
              refine wr_lconst (z := 0) rfl rfl rfl ?_
              refine wr_l_le rfl rfl rfl rfl rfl (by omega) (by omega) (fun c19 => ?_) (fun c19 => ?_)
              · exfalso; omega
              ·
                refine wr_lload rfl rfl rfl ?_
                refine wr_lload rfl rfl rfl ?_
                refine wr_lremN rfl rfl (by omega) (by omega) (by omega) (by omega) ?_
                refine wr_lstore (ls' := [_, _, _, _, _, _, _, _, _, _, _]) rfl rfl (Nat.le_of_ble_eq_true rfl) rfl ?_
                refine wr_lload rfl rfl rfl ?_
                refine wr_lstore (ls' := [_, _, _, _, _, _, _, _, _, _, _]) rfl rfl (Nat.le_of_ble_eq_true rfl) rfl ?_
                refine wr_lload rfl rfl rfl ?_
                refine wr_lstore (ls' := [_, _, _, _, _, _, _, _, _, _, _]) rfl rfl (Nat.le_of_ble_eq_true rfl) rfl ?_
                refine wr_iinc (ls' := [_, _, _, _, _, _, _, _, _, _, _]) rfl rfl rfl rfl ?_
                refine wr_goto rfl rfl ?_
                refine am_w.wk (ls' := [_, _, _, _, _, _, _, _, _, am_U, _]) ⟨Or.inr rfl, Or.inr rfl, Or.inr rfl, Or.inr rfl, Or.inr rfl, Or.inr rfl, Or.inr rfl, Or.inr rfl, Or.inr rfl, Or.inl rfl, Or.inr rfl, trivial⟩ ?_
                rw [show (L : Int) % ((G % L : Nat) : Int) = ((L % (G % L) : Nat) : Int) from rfl, show ((n + 1 : Nat) : Int) + 1 = ((n + 2 : Nat) : Int) by omega]
                exact ih (G % L) (L % (G % L)) (n + 2) (by omega) (by omega) (by omega) (by omega) K
theorem wp_commonOf {d G L : Nat} {h : am_H} (hG : (G : Int) ≤ 9223372036854775807) (hL : (L : Int) ≤ 9223372036854775807) :
    am_c X (d + 1) 80 [.long (lI G), .long (lI L)] h (fun r h' => r = some (.long (lI (Nat.gcd G L))) ∧ h' = h) := by
  refine am_c.of (Nat.le_of_ble_eq_true rfl) ?_
  show am_w _ _ _ (_, [_, _, _, _, _, _, _, _, _, _, _], _, _) _
  refine wr_lload_n rfl rfl rfl ?_
  refine wr_lstore (ls' := [_, _, _, _, _, _, _, _, _, _, _]) rfl rfl (Nat.le_of_ble_eq_true rfl) rfl ?_
  refine wr_lload_n rfl rfl rfl ?_
  refine wr_lstore (ls' := [_, _, _, _, _, _, _, _, _, _, _]) rfl rfl (Nat.le_of_ble_eq_true rfl) rfl ?_
  refine wr_iconst rfl rfl ?_
  refine wr_istore (ls' := [_, _, _, _, _, _, _, _, _, _, _]) rfl rfl (Nat.le_of_ble_eq_true rfl) rfl ?_
  refine wp_common_loop 63 G L 0 ?_ (by omega) (by omega) hG ⟨rfl, rfl⟩
  have : (2 : Nat) ^ 63 = 9223372036854775808 := by decide
  omega
/-- how many takings are still to come, at most -/
def bnd : Nat → Int
  | 0 => 1
  | 1 => 3
  | k + 2 => 2 * 3 ^ k + 3
theorem bnd_step {k : Nat} {R τ E : Int} (hE : 0 < E) (hR : 2 * R < bnd (k + 1) * E) (h1 : 0 < τ) (h2 : 2 * R < 3 * (τ + 1) * E) : 2 * (R - τ * E) < bnd k * E := by
  have y1 : 1 * E ≤ τ * E := Int.mul_le_mul_of_nonneg_right (by omega) (by omega)
  match k with
  | 0 =>
    have e1 : bnd (0 + 1) = 3 := rfl
    have e2 : bnd 0 = 1 := rfl
    rw [e1] at hR
    rw [e2]
    omega
  | 1 =>
    have e1 : bnd (1 + 1) = 5 := rfl
    have e2 : bnd 1 = 3 := rfl
    rw [e1] at hR
    rw [e2]
    omega
  | k + 2 =>
    have e1 : bnd (k + 2 + 1) = 2 * (3 ^ k * 3) + 3 := rfl
    have e2 : bnd (k + 2) = 2 * 3 ^ k + 3 := rfl
    rw [e1] at hR
    rw [e2]
    have e3 : 3 * (τ + 1) * E = 3 * (τ * E) + 3 * E := by grind
    have e4 : (2 * (3 ^ k * 3) + 3) * E = 6 * (3 ^ k * E) + 3 * E := by grind
    have e5 : (2 * 3 ^ k + 3) * E = 2 * (3 ^ k * E) + 3 * E := by grind
    omega
/-- one limb of the quotient -/
theorem wp_div_inner {d s tq ta tb nd i : Nat} {h0 : am_H} {f pl R0 : Int} {gd : Nat → Int} {Q : Option Value → am_H → Prop} (hs : h0[s]? = some (arCell s)) (hd1 : h0[s + 17]? = some (.inr (cWh, [.ref (s + 18), .int (iI nd)]))) (hd2 : h0[s + 18]? = some (am_la 128 gd)) (hnd : nd ≤ 128) (kd : nok gd nd) (n0 : 0 < nd) (hdt : 2 ≤ gd (nd - 1)) (hi : i ≤ 1000) (hR0 : R0 < nv gd nd * 1000000000 ^ (i + 1))
    (K : ∀ (h1 : am_H) (R dg : Int), fr [s + 15, s + 16] h0 h1 → isW h1 (s + 15) (s + 16) 128 R → R + dg * (nv gd nd * 1000000000 ^ i) = R0 → 0 ≤ R → R < nv gd nd * 1000000000 ^ i → 0 ≤ dg → dg < 1000000000 → am_w X (d + 1) 89 (138, [.ref s, .ref tq, .ref ta, .ref tb, .long (lI f), am_U, .int (iI pl), .int (iI i), .long (lI dg), am_U, am_U, am_U, am_U], [], h1) Q) :
    ∀ (k n : Nat) (h1 : am_H) (R dg τ : Int), fr [s + 15, s + 16] h0 h1 → isW h1 (s + 15) (s + 16) 128 R → R + dg * (nv gd nd * 1000000000 ^ i) = R0 → 0 ≤ dg → 0 ≤ τ → τ < 1000000000 → τ * nv gd nd * 1000000000 ^ i ≤ R → (τ = 0 → R < nv gd nd * 1000000000 ^ i) → (0 < τ → 2 * R < 3 * (τ + 1) * (nv gd nd * 1000000000 ^ i)) → 2 * R < bnd k * (nv gd nd * 1000000000 ^ i) → n + k ≤ 900000 → am_w X (d + 1) 89 (81, [.ref s, .ref tq, .ref ta, .ref tb, .long (lI f), am_U, .int (iI pl), .int (iI i), .long (lI dg), am_U, .long (lI τ), am_U, .int (iI n)], [], h1) Q := by
  have dB := nv_low kd n0
  have d0 : 0 < nv gd nd := by have := bp_pos (nd - 1); omega
  have hE : 0 < nv gd nd * 1000000000 ^ i := Int.mul_pos d0 (bp_pos i)
  have dgB : ∀ R dg : Int, 0 ≤ R → R + dg * (nv gd nd * 1000000000 ^ i) = R0 → dg < 1000000000 := by
    intro R dg hR he
    rcases Int.lt_or_le dg 1000000000 with q | q
    · exact q
    · have y1 : 1000000000 * (nv gd nd * 1000000000 ^ i) ≤ dg * (nv gd nd * 1000000000 ^ i) := Int.mul_le_mul_of_nonneg_right q (by omega)
      rw [Int.pow_succ] at hR0
      have e1 : nv gd nd * (1000000000 ^ i * 1000000000) = 1000000000 * (nv gd nd * 1000000000 ^ i) := by grind
      omega
  intro k
  induction k with
  | zero =>
    intro n h1 R dg τ hf hW he hdg ht0 ht1 ht2 ht3 ht4 hb hn
    have hR := hW.ex
    have e0 : τ = 0 := by
      rcases Int.lt_or_le 0 τ with q | q
      · have y1 : 1 * (nv gd nd * 1000000000 ^ i) ≤ τ * (nv gd nd * 1000000000 ^ i) := Int.mul_le_mul_of_nonneg_right (by omega) (by omega)
        rw [Int.mul_assoc] at ht2
        have e1 : bnd 0 = 1 := rfl
        rw [e1] at hb
        omega
      · omega
    have b1 := dgB R dg hR he
    refine wr_iload rfl rfl rfl ?_
    refine wr_ldc (z := 1000000) rfl rfl rfl (by decide) ?_
    refine wr_icmp_ge rfl rfl rfl (by omega) (by omega) (fun c85 => ?_) (fun c85 => ?_)
    · exfalso; omega
    ·
      refine wr_lload rfl rfl rfl ?_
      refine wr_lconst (z := 0) rfl rfl rfl ?_
      refine wr_l_le rfl rfl rfl rfl rfl (by omega) (by omega) (fun c91 => ?_) (fun c91 => ?_)
      ·
        refine am_w.wk (ls' := [_, _, _, _, _, _, _, _, _, _, am_U, _, am_U]) ⟨Or.inr rfl, Or.inr rfl, Or.inr rfl, Or.inr rfl, Or.inr rfl, Or.inr rfl, Or.inr rfl, Or.inr rfl, Or.inr rfl, Or.inr rfl, Or.inl rfl, Or.inr rfl, Or.inl rfl, trivial⟩ ?_
        exact K h1 R dg hf hW he hR (ht3 e0) hdg b1
      · exfalso; omega
  | succ k ih =>
    intro n h1 R dg τ hf hW he hdg ht0 ht1 ht2 ht3 ht4 hb hn
    have hR := hW.ex
    have b1 := dgB R dg hR he
    refine wr_iload rfl rfl rfl ?_
    refine wr_ldc (z := 1000000) rfl rfl rfl (by decide) ?_
    refine wr_icmp_ge rfl rfl rfl (by omega) (by omega) (fun c85 => ?_) (fun c85 => ?_)
    · exfalso; omega
    ·
      refine wr_lload rfl rfl rfl ?_
      refine wr_lconst (z := 0) rfl rfl rfl ?_
      refine wr_l_le rfl rfl rfl rfl rfl (by omega) (by omega) (fun c91 => ?_) (fun c91 => ?_)
      ·
        refine am_w.wk (ls' := [_, _, _, _, _, _, _, _, _, _, am_U, _, am_U]) ⟨Or.inr rfl, Or.inr rfl, Or.inr rfl, Or.inr rfl, Or.inr rfl, Or.inr rfl, Or.inr rfl, Or.inr rfl, Or.inr rfl, Or.inr rfl, Or.inl rfl, Or.inr rfl, Or.inl rfl, trivial⟩ ?_
        exact K h1 R dg hf hW he hR (ht3 (by omega)) hdg b1
      ·
        have c_s : h1[s]? = some (arCell s) := by rw [hf.2 s (by simp)]; exact hs
        unfold arCell at c_s
        have c_d1 : h1[s + 17]? = some (.inr (cWh, [.ref (s + 18), .int (iI nd)])) := by rw [hf.2 (s + 17) (by simp)]; exact hd1
        have c_d2 : h1[s + 18]? = some (am_la 128 gd) := by rw [hf.2 (s + 18) (by simp)]; exact hd2
        obtain ⟨gr, nr, c_r, c_rl, z1, z2, z3⟩ := id hW
        have hDW : isW h1 (s + 17) (s + 18) 128 (nv gd nd) := ⟨gd, nd, c_d1, c_d2, hnd, kd, rfl⟩
        refine wr_aload_n rfl rfl rfl ?_
        refine wr_get (ci := 4) (f := 7) rfl rfl rfl (by assumption) rfl ?_
        refine wr_aload_n rfl rfl rfl ?_
        refine wr_get (ci := 4) (f := 8) rfl rfl rfl (by assumption) rfl ?_
        refine wr_lload rfl rfl rfl ?_
        refine wr_iload rfl rfl rfl ?_
        refine wr_cv3 (k' := 94) (ci := 5) rfl rfl rfl rfl (by assumption) rfl rfl (wp_takeAway (sh := i) hW hDW (by omega) (by omega) (by omega) (by omega) d0 ht2 (by omega)) (fun r h2 q => ?_)
        obtain ⟨rfl, hW2, f2⟩ := q
        dsimp only [Option.toList, List.nil_append]
        have f3 : fr [s + 15, s + 16] h0 h2 := fr_tr hf f2 (fun i hi => hi) (fun i hi => hi)
        have e_s : h2[s]? = some (arCell s) := by rw [f3.2 s (by simp)]; exact hs
        unfold arCell at e_s
        have e_d1 : h2[s + 17]? = some (.inr (cWh, [.ref (s + 18), .int (iI nd)])) := by rw [f3.2 (s + 17) (by simp)]; exact hd1
        have e_d2 : h2[s + 18]? = some (am_la 128 gd) := by rw [f3.2 (s + 18) (by simp)]; exact hd2
        obtain ⟨gr2, nr2, e_r, e_rl, y1, y2, y3⟩ := id hW2
        have hR2 := hW2.ex
        have eA : τ * nv gd nd * 1000000000 ^ i = τ * (nv gd nd * 1000000000 ^ i) := Int.mul_assoc _ _ _
        have he2 : (R - τ * nv gd nd * 1000000000 ^ i) + (dg + τ) * (nv gd nd * 1000000000 ^ i) = R0 := by
          rw [eA, Int.add_mul]
          omega
        have b2 := dgB _ _ hR2 he2
        have y0 : 0 ≤ τ * (nv gd nd * 1000000000 ^ i) := Int.mul_nonneg ht0 (by omega)
        have yd : 0 ≤ dg * (nv gd nd * 1000000000 ^ i) := Int.mul_nonneg hdg (by omega)
        refine wr_lload rfl rfl rfl ?_
        refine wr_lload rfl rfl rfl ?_
        refine wr_ladd rfl rfl ?_
        refine wr_lstore (ls' := [_, _, _, _, _, _, _, _, _, _, _, _, _]) rfl rfl (Nat.le_of_ble_eq_true rfl) rfl ?_
        refine wr_aload_n rfl rfl rfl ?_
        refine wr_get (ci := 4) (f := 7) rfl rfl rfl (by assumption) rfl ?_
        refine wr_aload_n rfl rfl rfl ?_
        refine wr_get (ci := 4) (f := 8) rfl rfl rfl (by assumption) rfl ?_
        refine wr_iload rfl rfl rfl ?_
        refine wr_cv2 (k' := 93) (ci := 5) rfl rfl rfl rfl (by assumption) rfl rfl (wp_timesAt (sh := i) hW2 e_d1 e_d2 (by omega) (by omega) hnd kd n0 hdt (by omega) (by omega)) (fun r h3 q => ?_)
        obtain ⟨τ', rfl, rfl, t0, t1, t2, t3, t4⟩ := q
        dsimp only [Option.toList, List.cons_append, List.nil_append]
        refine wr_lstore (ls' := [_, _, _, _, _, _, _, _, _, _, _, _, _]) rfl rfl (Nat.le_of_ble_eq_true rfl) rfl ?_
        refine wr_iinc (ls' := [_, _, _, _, _, _, _, _, _, _, _, _, _]) rfl rfl rfl rfl ?_
        refine wr_goto rfl rfl ?_
        rw [show (n : Int) + 1 = ((n + 1 : Nat) : Int) by omega]
        refine ih (n + 1) _ _ (dg + τ) τ' f3 hW2 he2 (by omega) t0 t1 t2 t3 t4 ?_ (by omega)
        rw [eA]
        exact bnd_step hE hb (by omega) (ht4 (by omega))
theorem wp_div_outer {d s tq lq cq ta tb nd N : Nat} {h0 : am_H} {f pl V : Int} {gd : Nat → Int} {Q : Option Value → am_H → Prop} (hs : h0[s]? = some (arCell s)) (hd1 : h0[s + 17]? = some (.inr (cWh, [.ref (s + 18), .int (iI nd)]))) (hd2 : h0[s + 18]? = some (am_la 128 gd)) (hnd : nd ≤ 128) (kd : nok gd nd) (n0 : 0 < nd) (hdt : 2 ≤ gd (nd - 1)) (hcq : cq ≤ 1000000) (hN : N ≤ cq) (hN2 : N ≤ 1000) (hq1 : tq ≠ s ∧ tq ≠ s + 15 ∧ tq ≠ s + 16 ∧ tq ≠ s + 17 ∧ tq ≠ s + 18) (hq2 : lq ≠ s ∧ lq ≠ s + 15 ∧ lq ≠ s + 16 ∧ lq ≠ s + 17 ∧ lq ≠ s + 18)
    (K : ∀ (h1 : am_H) (gq : Nat → Int) (sz : Nat) (R : Int), fr [tq, lq, s + 15, s + 16] h0 h1 → isW h1 (s + 15) (s + 16) 128 R → h1[tq]? = some (.inr (cWh, [.ref lq, .int (iI sz)])) → h1[lq]? = some (am_la cq gq) → nv gq N * nv gd nd + R = V → R < nv gd nd → (∀ j, j < N → 0 ≤ gq j ∧ gq j < 1000000000) → top gq sz N → am_w X (d + 1) 89 (152, [.ref s, .ref tq, .ref ta, .ref tb, .long (lI f), am_U, .int (iI pl), am_U, am_U, am_U, am_U, am_U, am_U], [], h1) Q) :
    ∀ (i : Nat) (h1 : am_H) (gq : Nat → Int) (sz : Nat) (R : Int), i ≤ N → fr [tq, lq, s + 15, s + 16] h0 h1 → isW h1 (s + 15) (s + 16) 128 R → h1[tq]? = some (.inr (cWh, [.ref lq, .int (iI sz)])) → h1[lq]? = some (am_la cq gq) → nh gq N i * (nv gd nd * 1000000000 ^ i) + R = V → R < nv gd nd * 1000000000 ^ i → (∀ j, i ≤ j → j < N → 0 ≤ gq j ∧ gq j < 1000000000) → i ≤ sz → sz ≤ N → (∀ j, sz ≤ j → j < N → gq j = 0) → (i < sz → gq (sz - 1) ≠ 0) → am_w X (d + 1) 89 (55, [.ref s, .ref tq, .ref ta, .ref tb, .long (lI f), am_U, .int (iI pl), .int (iI ((i : Int) - 1)), am_U, am_U, am_U, am_U, am_U], [], h1) Q := by
  intro i
  induction i with
  | zero =>
    intro h1 gq sz R hi hf hW c_q c_ql he hR hdg s1 s2 s3 s4
    refine wr_iload rfl rfl rfl ?_
    refine wr_if_lt rfl rfl rfl (by omega) (fun c57 => ?_) (fun c57 => ?_)
    ·
      refine am_w.wk (ls' := [_, _, _, _, _, _, _, am_U, _, _, _, _, _]) ⟨Or.inr rfl, Or.inr rfl, Or.inr rfl, Or.inr rfl, Or.inr rfl, Or.inr rfl, Or.inr rfl, Or.inl rfl, Or.inr rfl, Or.inr rfl, Or.inr rfl, Or.inr rfl, Or.inr rfl, trivial⟩ ?_
      rw [nh_0, Int.pow_zero, Int.mul_one] at he
      rw [Int.pow_zero, Int.mul_one] at hR
      exact K h1 gq sz R hf hW c_q c_ql he hR (fun j hj => hdg j (by omega) hj) ⟨s2, s3, s4⟩
    · exfalso; omega
  | succ i ih =>
    intro h1 gq sz R hi hf hW c_q c_ql he hR hdg s1 s2 s3 s4
    have hR0 := hW.ex
    have c_s : h1[s]? = some (arCell s) := by rw [hf.2 s (by simp; omega)]; exact hs
    unfold arCell at c_s
    have c_d1 : h1[s + 17]? = some (.inr (cWh, [.ref (s + 18), .int (iI nd)])) := by rw [hf.2 (s + 17) (by simp; omega)]; exact hd1
    have c_d2 : h1[s + 18]? = some (am_la 128 gd) := by rw [hf.2 (s + 18) (by simp; omega)]; exact hd2
    obtain ⟨gr, nr, c_r, c_rl, z1, z2, z3⟩ := id hW
    rw [show ((i + 1 : Nat) : Int) - 1 = i by omega]
    refine wr_iload rfl rfl rfl ?_
    refine wr_if_lt rfl rfl rfl (by omega) (fun c57 => ?_) (fun c57 => ?_)
    · exfalso; omega
    ·
      refine wr_lconst (z := 0) rfl rfl rfl ?_
      refine wr_lstore (ls' := [_, _, _, _, _, _, _, _, _, _, _, _, _]) rfl rfl (Nat.le_of_ble_eq_true rfl) rfl ?_
      refine wr_aload_n rfl rfl rfl ?_
      refine wr_get (ci := 4) (f := 7) rfl rfl rfl (by assumption) rfl ?_
      refine wr_aload_n rfl rfl rfl ?_
      refine wr_get (ci := 4) (f := 8) rfl rfl rfl (by assumption) rfl ?_
      refine wr_iload rfl rfl rfl ?_
      refine wr_cv2 (k' := 93) (ci := 5) rfl rfl rfl rfl (by assumption) rfl rfl (wp_timesAt (sh := i) hW c_d1 c_d2 (by omega) (by omega) hnd kd n0 hdt (by omega) hR) (fun r h2 q => ?_)
      obtain ⟨τ, rfl, rfl, t0, t1, t2, t3, t4⟩ := q
      dsimp only [Option.toList, List.cons_append, List.nil_append]
      refine wr_lstore (ls' := [_, _, _, _, _, _, _, _, _, _, _, _, _]) rfl rfl (Nat.le_of_ble_eq_true rfl) rfl ?_
      refine wr_iconst rfl rfl ?_
      refine wr_istore (ls' := [_, _, _, _, _, _, _, _, _, _, _, _, _]) rfl rfl (Nat.le_of_ble_eq_true rfl) rfl ?_
      refine wp_div_inner (R0 := R) c_s c_d1 c_d2 hnd kd n0 hdt (by omega) hR ?_ 21 0 _ R 0 τ (fr_rf _ _) hW (by omega) (by omega) t0 t1 t2 t3 t4 ?_ (by omega)
      · intro h3 R' dg f3 hW3 he3 hR3 hR4 hdg0 hdg1
        have c_q3 : h3[tq]? = some (.inr (cWh, [.ref lq, .int (iI sz)])) := by rw [f3.2 tq (by simp; omega)]; exact c_q
        have c_ql3 : h3[lq]? = some (am_la cq gq) := by rw [f3.2 lq (by simp; omega)]; exact c_ql
        have hqne : lq ≠ tq := fun e => am_oa c_q c_ql e.symm
        refine wr_aload_n rfl rfl rfl ?_
        refine wr_iload rfl rfl rfl ?_
        refine wr_lload rfl rfl rfl ?_
        refine wr_cv2 (k' := 95) (ci := 5) rfl rfl rfl rfl (by assumption) rfl rfl (wp_setDigit (i := i) c_q3 c_ql3 (by omega) (by omega) (by omega) ⟨hdg0, hdg1⟩) (fun r h4 q => ?_)
        obtain ⟨rfl, rfl⟩ := q
        dsimp only [Option.toList, List.nil_append]
        refine wr_iinc (ls' := [_, _, _, _, _, _, _, _, _, _, _, _, _]) rfl rfl rfl rfl ?_
        refine wr_goto rfl rfl ?_
        refine am_w.wk (ls' := [_, _, _, _, _, _, _, _, am_U, _, _, _, _]) ⟨Or.inr rfl, Or.inr rfl, Or.inr rfl, Or.inr rfl, Or.inr rfl, Or.inr rfl, Or.inr rfl, Or.inr rfl, Or.inl rfl, Or.inr rfl, Or.inr rfl, Or.inr rfl, Or.inr rfl, trivial⟩ ?_
        have f4 : fr [tq, lq, s + 15, s + 16] h0 ((h3.set lq (am_la cq (updI gq i dg))).set tq (.inr (cWh, [.ref lq, .int (iI (if dg = 0 ∧ sz = i + 1 then (i : Int) else sz))]))) := by
          refine fr_tr (fr_tr (U := [tq, lq, s + 15, s + 16]) hf f3 (fun i hi => hi) (fun i hi => by simp at hi ⊢; omega)) fr_set2 (fun i hi => hi) (fun i hi => by simp at hi ⊢; omega)
        have W4 : isW ((h3.set lq (am_la cq (updI gq i dg))).set tq (.inr (cWh, [.ref lq, .int (iI (if dg = 0 ∧ sz = i + 1 then (i : Int) else sz))]))) (s + 15) (s + 16) 128 R' := hW3.kept (fr_set2 (a := lq) (b := tq)) (by simp; omega) (by simp; omega)
        have l4 : ((h3.set lq (am_la cq (updI gq i dg))).set tq (.inr (cWh, [.ref lq, .int (iI (if dg = 0 ∧ sz = i + 1 then (i : Int) else sz))])))[lq]? = some (am_la cq (updI gq i dg)) := by rw [am_set_n (Ne.symm hqne)]; exact am_set_s c_ql3
        have eV : nh (updI gq i dg) N i * (nv gd nd * 1000000000 ^ i) + R' = V := by
          rw [nh_step (by omega), updI_s, nh_congr (g := gq) (g' := updI gq i dg) (fun j a b => updI_n (by omega)), ← he, ← he3, Int.pow_succ]
          grind
        have dd : ∀ j, i ≤ j → j < N → 0 ≤ updI gq i dg j ∧ updI gq i dg j < 1000000000 := by
          intro j a b
          by_cases e : j = i
          · subst e; rw [updI_s]; exact ⟨hdg0, hdg1⟩
          · rw [updI_n e]; exact hdg j (by omega) b
        by_cases hz : dg = 0 ∧ sz = i + 1
        · have t4' : ((h3.set lq (am_la cq (updI gq i dg))).set tq (.inr (cWh, [.ref lq, .int (iI (if dg = 0 ∧ sz = i + 1 then (i : Int) else sz))])))[tq]? = some (.inr (cWh, [.ref lq, .int (iI (i : Int))])) := by
            rw [if_pos hz]
            exact am_set_s (c' := .inr (cWh, [.ref lq, .int (iI sz)])) (by rw [am_set_n hqne]; exact c_q3)
          refine ih _ (updI gq i dg) i R' (by omega) f4 W4 t4' l4 eV hR4 dd (Nat.le_refl _) (by omega) (fun j a b => ?_) (fun q => by omega)
          by_cases e : j = i
          · subst e; rw [updI_s]; exact hz.1
          · rw [updI_n e]; exact s3 j (by omega) b
        · have t4' : ((h3.set lq (am_la cq (updI gq i dg))).set tq (.inr (cWh, [.ref lq, .int (iI (if dg = 0 ∧ sz = i + 1 then (i : Int) else sz))])))[tq]? = some (.inr (cWh, [.ref lq, .int (iI (sz : Int))])) := by
            rw [if_neg hz]
            exact am_set_s (c' := .inr (cWh, [.ref lq, .int (iI sz)])) (by rw [am_set_n hqne]; exact c_q3)
          refine ih _ (updI gq i dg) sz R' (by omega) f4 W4 t4' l4 eV hR4 dd (by omega) s2 (fun j a b => by rw [updI_n (by omega)]; exact s3 j a b) (fun q => ?_)
          by_cases e : sz = i + 1
          · rw [e, show i + 1 - 1 = i by omega, updI_s]
            exact fun z => hz ⟨z, e⟩
          · rw [updI_n (by omega)]
            exact s4 (by omega)
      · have dB := nv_low kd n0
        have d0 : 0 < nv gd nd := by have := bp_pos (nd - 1); omega
        have hE : 0 < nv gd nd * 1000000000 ^ i := Int.mul_pos d0 (bp_pos i)
        rw [Int.pow_succ] at hR
        have e1 : nv gd nd * (1000000000 ^ i * 1000000000) = 1000000000 * (nv gd nd * 1000000000 ^ i) := by grind
        have e2 : bnd 21 = 2324522937 := by decide
        rw [e2]
        omega
end ARA
end
section
/-! THE CLASS'S ARITHMETIC: divide -/
section ARB
variable {X : Nat × (Nat → Int32)}
/-- a scaled divisor has as many limbs as before, and the highest is 2 at least -/
theorem fac_top {gb gd : Nat → Int} {nb nd : Nat} (kb : nok gb nb) (n0 : 0 < nb) (kd : nok gd nd) (e : nv gd nd = wFac gb nb * nv gb nb) : 0 < nd ∧ 2 ≤ gd (nd - 1) := by
  have hf := wFac_in kb
  have eb : nv gb nb = nv gb (nb - 1) + gb (nb - 1) * 1000000000 ^ (nb - 1) := by
    obtain ⟨w, rfl⟩ : ∃ w, nb = w + 1 := ⟨nb - 1, by omega⟩
    rfl
  have lb := nv_nonneg (g := gb) (n := nb - 1) (fun j hj => kb.1 j (by omega))
  have t1 := kb.1 (nb - 1) (by omega)
  have t2 := kb.2 n0
  have p0 := bp_pos (nb - 1)
  have fe : wFac gb nb = 1000000000 / (gb (nb - 1) + 1) := by unfold wFac; rw [if_neg (by omega)]
  have f1 : wFac gb nb * (gb (nb - 1) + 1) ≤ 1000000000 := by rw [fe]; exact Int.ediv_mul_le _ (by omega)
  have nb0 := (nv_nonneg kb.1).1
  have low : 1 * nv gb nb ≤ wFac gb nb * nv gb nb := Int.mul_le_mul_of_nonneg_right (by omega) (by omega)
  have hlow := nv_low kb n0
  have n1 : 0 < nd := by
    rcases Nat.eq_zero_or_pos nd with q | q
    · subst q
      have : nv gd 0 = 0 := rfl
      omega
    · exact q
  have up : wFac gb nb * nv gb nb < 1000000000 ^ nb := by
    have y1 : wFac gb nb * nv gb nb < wFac gb nb * ((gb (nb - 1) + 1) * 1000000000 ^ (nb - 1)) := Int.mul_lt_mul_of_pos_left (by rw [Int.add_mul]; omega) (by omega)
    have y2 : wFac gb nb * (gb (nb - 1) + 1) * 1000000000 ^ (nb - 1) ≤ 1000000000 * 1000000000 ^ (nb - 1) := Int.mul_le_mul_of_nonneg_right f1 (by omega)
    have e1 : wFac gb nb * ((gb (nb - 1) + 1) * 1000000000 ^ (nb - 1)) = wFac gb nb * (gb (nb - 1) + 1) * 1000000000 ^ (nb - 1) := by rw [Int.mul_assoc]
    have e2 : (1000000000 : Int) ^ nb = 1000000000 * 1000000000 ^ (nb - 1) := by
      obtain ⟨w, rfl⟩ : ∃ w, nb = w + 1 := ⟨nb - 1, by omega⟩
      rw [Int.pow_succ, show w + 1 - 1 = w by omega, Int.mul_comm]
    omega
  have m1 : nd ≤ nb := nv_fit kd (by omega)
  have m2 : nb ≤ nd := by
    rcases Nat.lt_or_ge nd nb with q | q
    · have y1 := nv_nonneg kd.1
      have y2 := bp_mono (m := nd) (n := nb - 1) (by omega)
      omega
    · exact q
  have m3 : nd = nb := by omega
  refine ⟨n1, ?_⟩
  have ed : nv gd nd = nv gd (nd - 1) + gd (nd - 1) * 1000000000 ^ (nd - 1) := by
    obtain ⟨w, rfl⟩ : ∃ w, nd = w + 1 := ⟨nd - 1, by omega⟩
    rfl
  have ld := nv_nonneg (g := gd) (n := nd - 1) (fun j hj => kd.1 j (by omega))
  have f2 : 2 ≤ wFac gb nb * gb (nb - 1) := by
    by_cases q : gb (nb - 1) = 1
    · rw [fe, q]
      decide
    · have : 1 * gb (nb - 1) ≤ wFac gb nb * gb (nb - 1) := Int.mul_le_mul_of_nonneg_right (by omega) (by omega)
      omega
  have f3 : 2 * 1000000000 ^ (nb - 1) ≤ wFac gb nb * gb (nb - 1) * 1000000000 ^ (nb - 1) := Int.mul_le_mul_of_nonneg_right f2 (by omega)
  have f4 : wFac gb nb * (gb (nb - 1) * 1000000000 ^ (nb - 1)) ≤ wFac gb nb * nv gb nb := Int.mul_le_mul_of_nonneg_left (by omega) (by omega)
  rw [Int.mul_assoc] at f3
  rw [m3] at ed ld ⊢
  rcases Int.lt_or_le (gd (nb - 1)) 2 with q | q
  · have : gd (nb - 1) * 1000000000 ^ (nb - 1) ≤ 1 * 1000000000 ^ (nb - 1) := Int.mul_le_mul_of_nonneg_right (by omega) (by omega)
    rw [m3] at e
    omega
  · exact q
theorem wp_divide {d s tq lq cq ta la ca tb lb cb : Nat} {h : am_H} {v0 w1 w2 va vb : Int} (hs : h[s]? = some (arCell s)) (hr : isW h (s + 15) (s + 16) 128 w1) (hdv : isW h (s + 17) (s + 18) 128 w2) (hq : isW h tq lq cq v0) (ha : isW h ta la ca va) (hb : isW h tb lb cb vb) (hb0 : 0 < vb) (hca : ca ≤ 1000000) (hcb : cb ≤ 1000000) (hcq : 0 < cq ∧ cq ≤ 1000000)
    (dq : tq ≠ s ∧ tq ≠ s + 15 ∧ tq ≠ s + 16 ∧ tq ≠ s + 17 ∧ tq ≠ s + 18) (dql : lq ≠ s ∧ lq ≠ s + 15 ∧ lq ≠ s + 16 ∧ lq ≠ s + 17 ∧ lq ≠ s + 18) (da : la ≠ s + 16 ∧ la ≠ s + 18) (db : tb ≠ s + 15 ∧ tb ≠ s + 16 ∧ lb ≠ s + 15 ∧ lb ≠ s + 16 ∧ lb ≠ s + 18)
    (hva : va < 1000000000 ^ 127) (hvb : vb < 1000000000 ^ 127) (hfit : va < 1000000000 ^ (cq - 1) * vb) :
    am_c X (d + 2) 89 [.ref s, .ref tq, .ref ta, .ref tb] h (fun r h' => r = none ∧ isW h' tq lq cq (va / vb) ∧ isW h' (s + 15) (s + 16) 128 (va % vb) ∧ (∃ w, isW h' (s + 17) (s + 18) 128 w) ∧ fr [tq, lq, s + 15, s + 16, s + 17, s + 18] h h') := by
  obtain ⟨gb, nb, c_b, c_bl, b1, b2, b3⟩ := id hb
  have n0 : 0 < nb := by
    rcases Nat.eq_zero_or_pos nb with q | q
    · subst q
      have : nv gb 0 = 0 := rfl
      omega
    · exact q
  have hf := wFac_in b2
  have va0 := ha.ex
  have c_s : h[s]? = some (arCell s) := hs
  unfold arCell at c_s
  obtain ⟨f, ef⟩ : ∃ f, f = wFac gb nb := ⟨_, rfl⟩
  rw [← ef] at hf
  have fa : f * va ≤ 500000000 * va := Int.mul_le_mul_of_nonneg_right (by omega) (by omega)
  have fb : f * vb ≤ 500000000 * vb := Int.mul_le_mul_of_nonneg_right (by omega) (by omega)
  have fa0 : 0 ≤ f * va := Int.mul_nonneg (by omega) (by omega)
  have pw : (1000000000 : Int) ^ 128 = 1000000000 ^ 127 * 1000000000 := Int.pow_succ _ _
  have fits1 : f * va < 1000000000 ^ 128 := by rw [pw]; omega
  have fits2 : f * vb < 1000000000 ^ 128 := by rw [pw]; omega
  refine am_c.of (Nat.le_of_ble_eq_true rfl) ?_
  show am_w _ _ _ (_, [_, _, _, _, _, _, _, _, _, _, _, _, _], _, _) _
  refine wr_aload_n rfl rfl rfl ?_
  refine wr_cv0 (k' := 90) (ci := 5) rfl rfl rfl rfl (by assumption) rfl rfl (wp_factor c_b c_bl (by omega) b1 b2) (fun r h2 q => ?_)
  obtain ⟨rfl, hh⟩ := q
  rw [← ef, hh]
  clear hh h2
  dsimp only [Option.toList, List.cons_append, List.nil_append]
  obtain ⟨gr0, nr0, c_r0, c_rl0, -⟩ := id hr
  refine wr_lstore (ls' := [_, _, _, _, _, _, _, _, _, _, _, _, _]) rfl rfl (Nat.le_of_ble_eq_true rfl) rfl ?_
  refine wr_aload_n rfl rfl rfl ?_
  refine wr_get (ci := 4) (f := 7) rfl rfl rfl (by assumption) rfl ?_
  refine wr_aload_n rfl rfl rfl ?_
  refine wr_lload rfl rfl rfl ?_
  refine wr_cv2 (k' := 91) (ci := 5) rfl rfl rfl rfl (by assumption) rfl rfl (wp_scale hr ha (by omega) (by omega) (by omega) hf fits1) (fun r h3 q => ?_)
  obtain ⟨rfl, hr3, f3⟩ := q
  dsimp only [Option.toList, List.nil_append]
  have e_s : h3[s]? = some (arCell s) := by rw [f3.2 s (by simp)]; exact hs
  unfold arCell at e_s
  have hdv3 := hdv.kept f3 (by simp) (by simp)
  have hb3 := hb.kept f3 (by simp; omega) (by simp; omega)
  obtain ⟨gd0, nd0, c_d0, c_dl0, -⟩ := id hdv3
  refine wr_aload_n rfl rfl rfl ?_
  refine wr_get (ci := 4) (f := 8) rfl rfl rfl (by assumption) rfl ?_
  refine wr_aload_n rfl rfl rfl ?_
  refine wr_lload rfl rfl rfl ?_
  refine wr_cv2 (k' := 91) (ci := 5) rfl rfl rfl rfl (by assumption) rfl rfl (wp_scale hdv3 hb3 (by omega) (by omega) (by omega) hf fits2) (fun r h4 q => ?_)
  obtain ⟨rfl, hd4, f4⟩ := q
  dsimp only [Option.toList, List.nil_append]
  have f34 : fr [s + 15, s + 16, s + 17, s + 18] h h4 := fr_tr f3 f4 (fun i hi => by simp at hi ⊢; omega) (fun i hi => by simp at hi ⊢; omega)
  have i_s : h4[s]? = some (arCell s) := by rw [f34.2 s (by simp)]; exact hs
  have i_s' := i_s
  unfold arCell at i_s
  have hr4 := hr3.kept f4 (by simp) (by simp)
  have hq4 := hq.kept f34 (by simp; omega) (by simp; omega)
  obtain ⟨gr, nr, c_r, c_rl, r1, r2, r3⟩ := id hr4
  obtain ⟨gd, nd, c_d, c_dl, d1, d2, d3⟩ := id hd4
  obtain ⟨gq, nq, c_q, c_ql, q1, q2, q3⟩ := id hq4
  have hqne : lq ≠ tq := fun e => am_oa c_q c_ql e.symm
  obtain ⟨nd1, hdt⟩ := fac_top b2 n0 d2 (by rw [d3, ef, b3])
  have dB := nv_nonneg d2.1
  have dL := nv_low d2 nd1
  have rB := nv_nonneg r2.1
  have hpl : (nr : Int) - nd < cq := by
    rcases Int.lt_or_le ((nr : Int) - nd) cq with q | q
    · exact q
    · have y1 := nv_low r2 (by omega)
      have y2 : f * va < f * (1000000000 ^ (cq - 1) * vb) := Int.mul_lt_mul_of_pos_left hfit (by omega)
      have y3 : 1000000000 ^ (cq - 1) * (f * vb) < 1000000000 ^ (cq - 1) * 1000000000 ^ nd := Int.mul_lt_mul_of_pos_left (by omega) (bp_pos _)
      rw [← Int.pow_add] at y3
      have y4 := bp_mono (m := cq - 1 + nd) (n := nr - 1) (by omega)
      have e1 : f * (1000000000 ^ (cq - 1) * vb) = 1000000000 ^ (cq - 1) * (f * vb) := by grind
      omega
  refine wr_aload_n rfl rfl rfl ?_
  refine wr_get (ci := 4) (f := 7) rfl rfl rfl (by assumption) rfl ?_
  refine wr_get (ci := 5) (f := 1) rfl rfl rfl (by assumption) rfl ?_
  refine wr_aload_n rfl rfl rfl ?_
  refine wr_get (ci := 4) (f := 8) rfl rfl rfl (by assumption) rfl ?_
  refine wr_get (ci := 5) (f := 1) rfl rfl rfl (by assumption) rfl ?_
  refine wr_isub rfl rfl ?_
  refine wr_istore (ls' := [_, _, _, _, _, _, _, _, _, _, _, _, _]) rfl rfl (Nat.le_of_ble_eq_true rfl) rfl ?_
  refine wr_aload_n rfl rfl rfl ?_
  refine wr_iload rfl rfl rfl ?_
  refine wr_iconst rfl rfl ?_
  refine wr_iadd rfl rfl ?_
  refine wr_cv1 (k' := 92) (ci := 5) rfl rfl rfl rfl (by assumption) rfl rfl (wp_beginDigits c_q c_ql (by omega) (by omega)) (fun r h5 q => ?_)
  obtain ⟨rfl, e5⟩ := q
  dsimp only [Option.toList, List.nil_append]
  have f5 : fr [tq] h4 h5 := by
    rw [e5]
    exact ⟨by simp, fun i hi => am_set_n (fun q => hi (by simp [q]))⟩
  have j_s : h5[s]? = some (arCell s) := by rw [f5.2 s (by simp; omega)]; exact i_s'
  have j_d : h5[s + 17]? = some (.inr (cWh, [.ref (s + 18), .int (iI nd)])) := by rw [f5.2 _ (by simp; omega)]; exact c_d
  have j_dl : h5[s + 18]? = some (am_la 128 gd) := by rw [f5.2 _ (by simp; omega)]; exact c_dl
  have hr5 := hr4.kept f5 (by simp; omega) (by simp; omega)
  have j_q : h5[tq]? = some (.inr (cWh, [.ref lq, .int (iI (max 0 ((nr : Int) - nd + 1)))])) := by rw [e5]; exact am_set_s c_q
  have j_ql : h5[lq]? = some (am_la cq gq) := by rw [f5.2 lq (by simp; exact hqne)]; exact c_ql
  have J : ∀ (N : Nat), N ≤ cq → ∀ (h1 : am_H) (gq : Nat → Int) (sz : Nat) (R : Int), fr [tq, lq, s + 15, s + 16] h5 h1 → isW h1 (s + 15) (s + 16) 128 R → h1[tq]? = some (.inr (cWh, [.ref lq, .int (iI sz)])) → h1[lq]? = some (am_la cq gq) → nv gq N * nv gd nd + R = f * va → R < nv gd nd → (∀ j, j < N → 0 ≤ gq j ∧ gq j < 1000000000) → top gq sz N → am_w X (d + 1) 89 (152, [.ref s, .ref tq, .ref ta, .ref tb, .long (lI f), am_U, .int (iI ((nr : Int) - nd)), am_U, am_U, am_U, am_U, am_U, am_U], [], h1) (fun r h' => r = none ∧ isW h' tq lq cq (va / vb) ∧ isW h' (s + 15) (s + 16) 128 (va % vb) ∧ (∃ w, isW h' (s + 17) (s + 18) 128 w) ∧ fr [tq, lq, s + 15, s + 16, s + 17, s + 18] h h') := by
    intro N hN h1 gq sz R f1 W1 k_q k_ql he hR hg ht
    have R0 := W1.ex
    have k_s : h1[s]? = some (arCell s) := by rw [f1.2 s (by simp; omega)]; exact j_s
    unfold arCell at k_s
    obtain ⟨gx, nx, k_r, k_rl, -⟩ := id W1
    rw [d3] at he hR
    have eR : R = f * (va - nv gq N * vb) := by
      have : nv gq N * (f * vb) = f * (nv gq N * vb) := by grind
      rw [Int.mul_sub]
      omega
    have m1 : 0 ≤ va - nv gq N * vb := by
      rcases Int.lt_or_le (va - nv gq N * vb) 0 with q | q
      · have : f * (va - nv gq N * vb) ≤ f * (-1) := Int.mul_le_mul_of_nonneg_left (by omega) (by omega)
        omega
      · exact q
    have m2 : va - nv gq N * vb < vb := by
      rcases Int.lt_or_le (va - nv gq N * vb) vb with q | q
      · exact q
      · have : f * vb ≤ f * (va - nv gq N * vb) := Int.mul_le_mul_of_nonneg_left q (by omega)
        omega
    have eq1 : va / vb = nv gq sz := by
      rw [← top_nv ht]
      have : va = (va - nv gq N * vb) + nv gq N * vb := by omega
      rw [this, Int.add_mul_ediv_right _ _ (by omega), Int.ediv_eq_zero_of_lt m1 m2]
      omega
    have eq2 : va % vb = va - nv gq N * vb := by
      have y1 := Int.mul_ediv_add_emod va vb
      rw [eq1, ← top_nv ht, Int.mul_comm] at y1
      omega
    have eq3 : R / f = va % vb := by
      rw [eR, eq2, Int.mul_ediv_cancel_left _ (by omega)]
    refine wr_aload_n rfl rfl rfl ?_
    refine wr_get (ci := 4) (f := 7) rfl rfl rfl (by assumption) rfl ?_
    refine wr_lload rfl rfl rfl ?_
    refine wr_cv1 (k' := 96) (ci := 5) rfl rfl rfl rfl (by assumption) rfl rfl (wp_unscale W1 (by omega) (by omega)) (fun r h6 q => ?_)
    obtain ⟨rfl, W6, f6⟩ := q
    dsimp only [Option.toList, List.nil_append]
    refine wr_vret rfl rfl ?_
    rw [eq3] at W6
    refine ⟨rfl, ?_, W6, ?_, ?_⟩
    · have hsz := ht.1
      have Wq : isW h1 tq lq cq (nv gq sz) := ⟨gq, sz, k_q, k_ql, by omega, ⟨fun j hj => hg j (by omega), ht.2.2⟩, rfl⟩
      rw [eq1]
      exact Wq.kept f6 (by simp; omega) (by simp; omega)
    · have Wd : isW h1 (s + 17) (s + 18) 128 (nv gd nd) := ⟨gd, nd, by rw [f1.2 _ (by simp; omega)]; exact j_d, by rw [f1.2 _ (by simp; omega)]; exact j_dl, d1, d2, rfl⟩
      exact ⟨_, Wd.kept f6 (by simp) (by simp)⟩
    · refine fr_tr (fr_tr (U := [tq, lq, s + 15, s + 16, s + 17, s + 18]) (fr_tr (U := [tq, lq, s + 15, s + 16, s + 17, s + 18]) f34 f5 (fun i hi => by simp at hi ⊢; omega) (fun i hi => by simp at hi ⊢; omega)) f1 (fun i hi => hi) (fun i hi => by simp at hi ⊢; omega)) f6 (fun i hi => hi) (fun i hi => by simp at hi ⊢; omega)
  refine wr_iload rfl rfl rfl ?_
  refine wr_istore (ls' := [_, _, _, _, _, _, _, _, _, _, _, _, _]) rfl rfl (Nat.le_of_ble_eq_true rfl) rfl ?_
  rcases Int.lt_or_le ((nr : Int) - nd) 0 with hneg | hpos
  ·
    have hlt : f * va < nv gd nd := by
      have y2 := bp_mono (m := nr) (n := nd - 1) (by omega)
      omega
    have e0 : max 0 ((nr : Int) - nd + 1) = ((0 : Nat) : Int) := by omega
    rw [e0] at j_q
    refine wr_iload rfl rfl rfl ?_
    refine wr_if_lt rfl rfl rfl (by omega) (fun c57 => ?_) (fun c57 => ?_)
    ·
      refine am_w.wk (ls' := [_, _, _, _, _, _, _, am_U, _, _, _, _, _]) ⟨Or.inr rfl, Or.inr rfl, Or.inr rfl, Or.inr rfl, Or.inr rfl, Or.inr rfl, Or.inr rfl, Or.inl rfl, Or.inr rfl, Or.inr rfl, Or.inr rfl, Or.inr rfl, Or.inr rfl, trivial⟩ ?_
      exact J 0 (by omega) h5 gq 0 (f * va) (fr_rf _ _) (by rw [← r3] at hr5 ⊢; exact hr5) j_q j_ql (by rw [show nv gq 0 = 0 from rfl]; omega) hlt (fun j hj => by omega) ⟨Nat.le_refl _, fun j a b => by omega, fun a => by omega⟩
    · exfalso; omega
  ·
    obtain ⟨N, eN⟩ : ∃ N : Nat, (N : Int) = (nr : Int) - nd + 1 := ⟨nr - nd + 1, by omega⟩
    have e0 : max 0 ((nr : Int) - nd + 1) = (N : Int) := by omega
    rw [e0] at j_q
    have eI : (nr : Int) - nd = (N : Int) - 1 := by omega
    have hlt : f * va < nv gd nd * 1000000000 ^ N := by
      have y1 : 1000000000 ^ (nd - 1) * 1000000000 ^ N ≤ nv gd nd * 1000000000 ^ N := Int.mul_le_mul_of_nonneg_right dL (by have := bp_pos N; omega)
      rw [← Int.pow_add, show nd - 1 + N = nr by omega] at y1
      omega
    have K := wp_div_outer (pl := (nr : Int) - nd) (V := f * va) j_s j_d j_dl d1 d2 nd1 hdt (by omega) (by omega) (by omega) dq dql (J N (by omega)) N h5 gq N (f * va) (Nat.le_refl _) (fr_rf _ _) hr5 j_q j_ql (by rw [nh_n]; omega) hlt (fun j a b => by omega) (Nat.le_refl _) (Nat.le_refl _) (fun j a b => by omega) (fun a => by omega)
    rw [← eI] at K
    exact K
end ARB
end
section
/-! THE CLASS'S ARITHMETIC: its eleven numbers as a row of values; findCommon -/
/-- but for the arithmetic's own numbers at s and the cells L nothing has changed, none was made -/
def frA (s : Nat) (L : List Nat) (h h' : am_H) : Prop := h'.length = h.length ∧ ∀ i, (i ≤ s ∨ s + 22 < i) → i ∉ L → h'[i]? = h[i]?
theorem frA_rf (s : Nat) (L : List Nat) (h : am_H) : frA s L h h := ⟨rfl, fun _ _ _ => rfl⟩
theorem frA_tr {s : Nat} {L : List Nat} {h h1 h2 : am_H} (a : frA s L h h1) (b : frA s L h1 h2) : frA s L h h2 := ⟨b.1.trans a.1, fun i hi hL => (b.2 i hi hL).trans (a.2 i hi hL)⟩
theorem frA_wk {s : Nat} {L U : List Nat} {h h1 : am_H} (a : frA s L h h1) (hL : ∀ i ∈ L, i ∈ U) : frA s U h h1 := ⟨a.1, fun i hi hU => a.2 i hi (fun q => hU (hL i q))⟩
theorem frA_of {s : Nat} {L S : List Nat} {h h1 : am_H} (a : fr S h h1) (hS : ∀ i ∈ S, (s < i ∧ i ≤ s + 22) ∨ i ∈ L) : frA s L h h1 :=
  ⟨a.1, fun i hi hL => a.2 i (fun q => (hS i q).elim (fun e => by omega) hL)⟩
theorem isW.keptA {h h' : am_H} {s t l cap : Nat} {L : List Nat} {v : Int} (w : isW h t l cap v) (f : frA s L h h') (h1 : t ≤ s ∨ s + 22 < t) (h2 : l ≤ s ∨ s + 22 < l) (h3 : t ∉ L) (h4 : l ∉ L) : isW h' t l cap v := by
  obtain ⟨g, n, a, b, c⟩ := w
  exact ⟨g, n, by rw [f.2 t h1 h3]; exact a, by rw [f.2 l h2 h4]; exact b, c⟩
/-- the arithmetic at s, its numbers v 0 .. v 10 -/
def arV (h : am_H) (s : Nat) (v : Nat → Int) : Prop := h[s]? = some (arCell s) ∧ ∀ k, k < 11 → isW h (s + 1 + 2 * k) (s + 2 + 2 * k) 128 (v k)
theorem arV.ext {h h' : am_H} {s : Nat} {v : Nat → Int} {S : List Nat} (a : arV h s v) (f : fr S h h') (hS : ∀ i ∈ S, i < s ∨ s + 22 < i) : arV h' s v :=
  ⟨by rw [f.2 s (fun q => by have := hS s q; omega)]; exact a.1, fun k hk => (a.2 k hk).kept f (fun q => by have := hS _ q; omega) (fun q => by have := hS _ q; omega)⟩
theorem arV.set {h h' : am_H} {s k : Nat} {v : Nat → Int} {x : Int} (a : arV h s v) (hk : k < 11) (f : fr [s + 1 + 2 * k, s + 2 + 2 * k] h h') (w : isW h' (s + 1 + 2 * k) (s + 2 + 2 * k) 128 x) : arV h' s (updI v k x) := by
  refine ⟨by rw [f.2 s (by simp; omega)]; exact a.1, fun j hj => ?_⟩
  by_cases e : j = k
  · subst e; rw [updI_s]; exact w
  · rw [updI_n e]; exact (a.2 j hj).kept f (by simp; omega) (by simp; omega)
theorem frA_reg {s k : Nat} {h h' : am_H} {L : List Nat} (hk : k < 11) (f : fr [s + 1 + 2 * k, s + 2 + 2 * k] h h') : frA s L h h' := frA_of f (fun i hi => by simp at hi; omega)
theorem igcd_step {x y : Int} (hx : 0 ≤ x) (hy : 0 ≤ y) : Int.gcd y (x % y) = Int.gcd x y := by
  obtain ⟨a, rfl⟩ := Int.eq_ofNat_of_zero_le hx
  obtain ⟨b, rfl⟩ := Int.eq_ofNat_of_zero_le hy
  show Nat.gcd b (Int.natAbs ((a : Int) % (b : Int))) = Nat.gcd a b
  rw [show (a : Int) % b = ((a % b : Nat) : Int) from rfl, Int.natAbs_natCast, Nat.gcd_comm a b, Nat.gcd_rec b a]
  exact Nat.gcd_comm _ _
section ARC
variable {X : Nat × (Nat → Int32)}
theorem ar_copy {d s k ta la ca : Nat} {h : am_H} {v : Nat → Int} {va : Int} (hv : arV h s v) (hk : k < 11) (ha : isW h ta la ca va) (hca : ca ≤ 1000000) (hd : la ≠ s + 2 + 2 * k) (hfit : va < 1000000000 ^ 128) :
    am_c X (d + 1) 87 [.ref (s + 1 + 2 * k), .ref ta] h (fun r h' => r = none ∧ arV h' s (updI v k va) ∧ frA s [] h h') := by
  refine am_c.mono (wp_copy (hv.2 k hk) ha (by omega) hca (Ne.symm hd) hfit) (fun r h' q => ?_)
  obtain ⟨rfl, w, f⟩ := q
  exact ⟨rfl, hv.set hk f w, frA_reg hk f⟩
/-- divide into a number of the arithmetic's own -/
theorem ar_divR {d s k ta la ca tb lb cb : Nat} {h : am_H} {v : Nat → Int} {va vb : Int} (hv : arV h s v) (hk : k < 11) (hk7 : k ≠ 7 ∧ k ≠ 8) (ha : isW h ta la ca va) (hb : isW h tb lb cb vb) (hb0 : 0 < vb) (hca : ca ≤ 1000000) (hcb : cb ≤ 1000000) (da : la < s + 15 ∨ s + 18 < la) (db : (tb < s + 15 ∨ s + 18 < tb) ∧ (lb < s + 15 ∨ s + 18 < lb)) (hva : va < 1000000000 ^ 127) (hvb : vb < 1000000000 ^ 127) :
    am_c X (d + 2) 89 [.ref s, .ref (s + 1 + 2 * k), .ref ta, .ref tb] h (fun r h' => r = none ∧ ∃ v', arV h' s v' ∧ v' k = va / vb ∧ v' 7 = va % vb ∧ (∀ j, j ≠ k → j ≠ 7 → j ≠ 8 → v' j = v j) ∧ frA s [] h h') := by
  have hfit : va < 1000000000 ^ (128 - 1) * vb := by
    have y1 : 1000000000 ^ 127 * 1 ≤ 1000000000 ^ 127 * vb := Int.mul_le_mul_of_nonneg_left (by omega) (by have := bp_pos 127; omega)
    rw [show (128 : Nat) - 1 = 127 from rfl]
    omega
  refine am_c.mono (wp_divide hv.1 (hv.2 7 (by decide)) (hv.2 8 (by decide)) (hv.2 k hk) ha hb hb0 hca hcb (by omega) (by omega) (by omega) (by omega) (by omega) hva hvb hfit) (fun r h' q => ?_)
  obtain ⟨rfl, w1, w2, ⟨w, w3⟩, f⟩ := q
  refine ⟨rfl, updI (updI (updI v k (va / vb)) 7 (va % vb)) 8 w, ⟨by rw [f.2 s (by simp; omega)]; exact hv.1, fun j hj => ?_⟩, ?_, ?_, ?_, frA_of f (fun i hi => by simp at hi; omega)⟩
  · by_cases e8 : j = 8
    · subst e8; rw [updI_s]; exact w3
    · rw [updI_n e8]
      by_cases e7 : j = 7
      · subst e7; rw [updI_s]; exact w2
      · rw [updI_n e7]
        by_cases e : j = k
        · subst e; rw [updI_s]; exact w1
        · rw [updI_n e]; exact (hv.2 j hj).kept f (by simp; omega) (by simp; omega)
  · rw [updI_n hk7.2, updI_n hk7.1, updI_s]
  · rw [updI_n (by decide), updI_s]
  · intro j h1 h2 h3
    rw [updI_n h3, updI_n h2, updI_n h1]
theorem wp_fc_loop {d s ki : Nat} {h0 : am_H} {v0 : Nat → Int} {G : Int} {Q : Option Value → am_H → Prop} (hk : ki < 7)
    (K : ∀ (h : am_H) (v : Nat → Int), arV h s v → (∀ k, k < 7 → k ≠ ki → v k = v0 k) → frA s [] h0 h → v ki = G → Q none h) :
    ∀ (k n : Nat) (h : am_H) (v : Nat → Int), arV h s v → (∀ k, k < 7 → k ≠ ki → v k = v0 k) → frA s [] h0 h → (Int.gcd (v ki) (v 9) : Int) = G → v ki < 1000000000 ^ 127 → v 9 < 1000000000 ^ 127 → ((v 9 ≤ v ki ∧ v ki * v 9 < 2 ^ k) ∨ (0 < k ∧ v ki * v 9 * 2 < 2 ^ k)) → n + k ≤ 100000 → am_w X (d + 2) 86 (16, [.ref s, .ref (s + 1 + 2 * ki), am_U, am_U, .int (iI n)], [], h) Q := by
  intro k
  induction k with
  | zero =>
    intro n h v hv hk0 hf hg b1 b2 hm hn
    have c_s : h[s]? = some (arCell s) := hv.1
    unfold arCell at c_s
    have W9 : isW h (s + 19) (s + 20) 128 (v 9) := hv.2 9 (by decide)
    have Wi := hv.2 ki (by omega)
    have x0 := Wi.ex
    have y0 := W9.ex
    obtain ⟨g9, n9, c_9, c_9l, o1, o2, o3⟩ := id W9
    have z : n9 = 0 := by
      rcases Nat.eq_zero_or_pos n9 with q | q
      · exact q
      · have y1 := nv_low o2 q
        have y2 := bp_pos (n9 - 1)
        have y3 : 1 ≤ v ki * v 9 := by
          have : 1 * 1 ≤ v ki * v 9 := Int.mul_le_mul (by omega) (by omega) (by decide) (by omega)
          omega
        rw [Int.pow_zero] at hm
        omega
    subst z
    have z9 : v 9 = 0 := by rw [← o3]; rfl
    refine wr_iload rfl rfl rfl ?_
    refine wr_ldc (z := 1000000) rfl rfl rfl (by decide) ?_
    refine wr_icmp_ge rfl rfl rfl (by omega) (by omega) (fun c20 => ?_) (fun c20 => ?_)
    · exfalso; omega
    ·
      refine wr_aload_n rfl rfl rfl ?_
      refine wr_get (ci := 4) (f := 9) rfl rfl rfl (by assumption) rfl ?_
      refine wr_get (ci := 5) (f := 1) rfl rfl rfl (by assumption) rfl ?_
      refine wr_if_le rfl rfl rfl (by omega) (fun c30 => ?_) (fun c30 => ?_)
      ·
        refine wr_vret rfl rfl ?_
        refine K h v hv hk0 hf ?_
        rw [← hg, z9, Int.gcd_zero_right]
        omega
      · exfalso; omega
  | succ k ih =>
    intro n h v hv hk0 hf hg b1 b2 hm hn
    have c_s : h[s]? = some (arCell s) := hv.1
    unfold arCell at c_s
    have W9 : isW h (s + 19) (s + 20) 128 (v 9) := hv.2 9 (by decide)
    have Wi := hv.2 ki (by omega)
    have x0 := Wi.ex
    have y0 := W9.ex
    obtain ⟨g9, n9, c_9, c_9l, o1, o2, o3⟩ := id W9
    obtain ⟨gi, ni, c_i, c_il, i1, i2, i3⟩ := id Wi
    refine wr_iload rfl rfl rfl ?_
    refine wr_ldc (z := 1000000) rfl rfl rfl (by decide) ?_
    refine wr_icmp_ge rfl rfl rfl (by omega) (by omega) (fun c20 => ?_) (fun c20 => ?_)
    · exfalso; omega
    ·
      refine wr_aload_n rfl rfl rfl ?_
      refine wr_get (ci := 4) (f := 9) rfl rfl rfl (by assumption) rfl ?_
      refine wr_get (ci := 5) (f := 1) rfl rfl rfl (by assumption) rfl ?_
      refine wr_if_le rfl rfl rfl (by omega) (fun c30 => ?_) (fun c30 => ?_)
      ·
        have z : n9 = 0 := by omega
        subst z
        have z9 : v 9 = 0 := by rw [← o3]; rfl
        refine wr_vret rfl rfl ?_
        refine K h v hv hk0 hf ?_
        rw [← hg, z9, Int.gcd_zero_right]
        omega
      ·
        have y1 : 0 < v 9 := by
          have a1 := nv_low o2 (by omega)
          have a2 := bp_pos (n9 - 1)
          omega
        have J : am_w X (d + 2) 86 (73, [.ref s, .ref (s + 1 + 2 * ki), am_U, am_U, .int (iI n)], [], h) Q := by
          refine wr_aload_n rfl rfl rfl ?_
          refine wr_aload_n rfl rfl rfl ?_
          refine wr_get (ci := 4) (f := 10) rfl rfl rfl (by assumption) rfl ?_
          refine wr_aload_n rfl rfl rfl ?_
          refine wr_aload_n rfl rfl rfl ?_
          refine wr_get (ci := 4) (f := 9) rfl rfl rfl (by assumption) rfl ?_
          refine wr_cv3 (k' := 89) (ci := 4) rfl rfl rfl rfl (by assumption) rfl rfl (ar_divR (k := 10) hv (by decide) (by decide) Wi W9 y1 (by omega) (by omega) (by omega) (by omega) b1 b2) (fun r h2 q => ?_)
          obtain ⟨rfl, v2, hv2, -, hr2, hj2, f2⟩ := q
          dsimp only [Option.toList, List.nil_append]
          have e_s : h2[s]? = some (arCell s) := hv2.1
          unfold arCell at e_s
          have V9 : isW h2 (s + 19) (s + 20) 128 (v2 9) := hv2.2 9 (by decide)
          have Vi := hv2.2 ki (by omega)
          rw [hj2 9 (by decide) (by decide) (by decide)] at V9
          obtain ⟨gj, nj, c_j, -⟩ := id Vi
          refine wr_aload_n rfl rfl rfl ?_
          refine wr_aload_n rfl rfl rfl ?_
          refine wr_get (ci := 4) (f := 9) rfl rfl rfl (by assumption) rfl ?_
          refine wr_cv1 (k' := 87) (ci := 5) rfl rfl rfl rfl (by assumption) rfl rfl (ar_copy hv2 (by omega) V9 (by omega) (by omega) (by have := bp_mono (m := 127) (n := 128) (by decide); omega)) (fun r h3 q => ?_)
          obtain ⟨rfl, hv3, f3⟩ := q
          dsimp only [Option.toList, List.nil_append]
          have g_s : h3[s]? = some (arCell s) := hv3.1
          unfold arCell at g_s
          have U9 : isW h3 (s + 19) (s + 20) 128 _ := hv3.2 9 (by decide)
          have U7 : isW h3 (s + 15) (s + 16) 128 _ := hv3.2 7 (by decide)
          obtain ⟨gl, nl, c_l9, -⟩ := id U9
          obtain ⟨gm, nm, c_l7, -⟩ := id U7
          have rl := Int.emod_lt_of_pos (v ki) y1
          have r0 := Int.emod_nonneg (v ki) (show v 9 ≠ 0 by omega)
          rw [updI_n (by omega), hr2] at U7
          refine wr_aload_n rfl rfl rfl ?_
          refine wr_get (ci := 4) (f := 9) rfl rfl rfl (by assumption) rfl ?_
          refine wr_aload_n rfl rfl rfl ?_
          refine wr_get (ci := 4) (f := 7) rfl rfl rfl (by assumption) rfl ?_
          refine wr_cv1 (k' := 87) (ci := 5) rfl rfl rfl rfl c_l9 rfl rfl (ar_copy (k := 9) hv3 (by decide) U7 (by omega) (by omega) (by have := bp_mono (m := 127) (n := 128) (by decide); omega)) (fun r h4 q => ?_)
          obtain ⟨rfl, hv4, f4⟩ := q
          dsimp only [Option.toList, List.nil_append]
          refine wr_iinc (ls' := [_, _, _, _, _]) rfl rfl rfl rfl ?_
          refine wr_goto rfl rfl ?_
          rw [show (n : Int) + 1 = ((n + 1 : Nat) : Int) by omega]
          have e9 : updI (updI v2 ki (v 9)) 9 (v ki % v 9) 9 = v ki % v 9 := updI_s _ _ _
          have ei : updI (updI v2 ki (v 9)) 9 (v ki % v 9) ki = v 9 := by rw [updI_n (by omega), updI_s]
          refine ih (n + 1) h4 _ hv4 (fun j hj hj2' => ?_) (frA_tr (frA_tr (frA_tr hf f2) f3) f4) ?_ ?_ ?_ ?_ (by omega)
          · rw [updI_n (by omega), updI_n hj2', hj2 j (by omega) (by omega) (by omega)]
            exact hk0 j hj hj2'
          · rw [e9, ei, ← hg, igcd_step x0 y0]
          · rw [ei]; exact b2
          · rw [e9]; omega
          · rw [e9, ei]
            refine Or.inl ⟨by omega, ?_⟩
            rw [Int.pow_succ] at hm
            have q1 := Int.mul_ediv_add_emod (v ki) (v 9)
            rcases hm with ⟨m1, m2⟩ | ⟨m1, m2⟩
            · have q2 : 1 ≤ v ki / v 9 := Int.le_ediv_of_mul_le y1 (by omega)
              have q3 : v 9 * 1 ≤ v 9 * (v ki / v 9) := Int.mul_le_mul_of_nonneg_left q2 y0
              have q4 : v 9 * (2 * (v ki % v 9)) ≤ v 9 * v ki := Int.mul_le_mul_of_nonneg_left (by omega) y0
              have q5 : v 9 * (2 * (v ki % v 9)) = v 9 * (v ki % v 9) * 2 := by grind
              have q6 : v 9 * v ki = v ki * v 9 := Int.mul_comm _ _
              omega
            · have q2 : 0 ≤ v ki / v 9 := Int.ediv_nonneg x0 y0
              have q3 : v 9 * 0 ≤ v 9 * (v ki / v 9) := Int.mul_le_mul_of_nonneg_left q2 y0
              have q4 : v 9 * (v ki % v 9) ≤ v 9 * v ki := Int.mul_le_mul_of_nonneg_left (by omega) y0
              have q6 : v 9 * v ki = v ki * v 9 := Int.mul_comm _ _
              omega
        refine wr_aload_n rfl rfl rfl ?_
        refine wr_get (ci := 5) (f := 1) rfl rfl rfl (by assumption) rfl ?_
        refine wr_iconst rfl rfl ?_
        refine wr_icmp_gt rfl rfl rfl (by omega) (by omega) (fun c38 => ?_) (fun c38 => ?_)
        · exact J
        ·
          refine wr_aload_n rfl rfl rfl ?_
          refine wr_get (ci := 4) (f := 9) rfl rfl rfl (by assumption) rfl ?_
          refine wr_get (ci := 5) (f := 1) rfl rfl rfl (by assumption) rfl ?_
          refine wr_iconst rfl rfl ?_
          refine wr_icmp_gt rfl rfl rfl (by omega) (by omega) (fun c49 => ?_) (fun c49 => ?_)
          · exact J
          ·
            have l1 := (nv_nonneg i2.1).2
            have l2 := (nv_nonneg o2.1).2
            have l3 := bp_mono (m := ni) (n := 2) (by omega)
            have l4 := bp_mono (m := n9) (n := 2) (by omega)
            rw [show (1000000000 : Int) ^ 2 = 1000000000000000000 by decide] at l3 l4
            obtain ⟨x, ex⟩ : ∃ x : Nat, v ki = x := ⟨(v ki).toNat, by omega⟩
            obtain ⟨y, ey⟩ : ∃ y : Nat, v 9 = y := ⟨(v 9).toNat, by omega⟩
            refine wr_aload_n rfl rfl rfl ?_
            refine wr_aload_n rfl rfl rfl ?_
            refine wr_iconst rfl rfl ?_
            refine wr_cv1 (k' := 88) (ci := 5) rfl rfl rfl rfl (by assumption) rfl rfl (wp_eighteen Wi (by omega) (by decide)) (fun r h2 q => ?_)
            obtain ⟨rfl, hh⟩ := q
            rw [hh]
            clear hh h2
            rw [show v ki / 1000000000 ^ (2 * (0 : Int).toNat) % 1000000000000000000 = (x : Int) by simp; omega]
            dsimp only [Option.toList, List.cons_append, List.nil_append]
            refine wr_aload_n rfl rfl rfl ?_
            refine wr_get (ci := 4) (f := 9) rfl rfl rfl (by assumption) rfl ?_
            refine wr_iconst rfl rfl ?_
            refine wr_cv1 (k' := 88) (ci := 5) rfl rfl rfl rfl (by assumption) rfl rfl (wp_eighteen W9 (by omega) (by decide)) (fun r h2 q => ?_)
            obtain ⟨rfl, hh⟩ := q
            rw [hh]
            clear hh h2
            rw [show v 9 / 1000000000 ^ (2 * (0 : Int).toNat) % 1000000000000000000 = (y : Int) by simp; omega]
            dsimp only [Option.toList, List.cons_append, List.nil_append]
            refine wr_cs2 (k' := 80) rfl rfl rfl rfl rfl (wp_commonOf (G := x) (L := y) (by omega) (by omega)) (fun r h2 q => ?_)
            obtain ⟨rfl, hh⟩ := q
            rw [hh]
            clear hh h2
            dsimp only [Option.toList, List.cons_append, List.nil_append]
            have gle : Nat.gcd x y ≤ y := Nat.gcd_le_right _ (by omega)
            have gB : ((Nat.gcd x y : Nat) : Int) < 1000000000 ^ 128 := by
              have := bp_mono (m := 2) (n := 128) (by decide)
              rw [show (1000000000 : Int) ^ 2 = 1000000000000000000 by decide] at this
              omega
            refine wr_cv1 (k' := 10) (ci := 5) rfl rfl rfl rfl (by assumption) rfl rfl (wp_put c_i c_il (by omega) (by omega) gB) (fun r h2 q => ?_)
            obtain ⟨rfl, w, f⟩ := q
            dsimp only [Option.toList, List.nil_append]
            refine wr_vret rfl rfl ?_
            refine K _ _ (hv.set (by omega) f w) (fun j hj hj2 => by rw [updI_n hj2]; exact hk0 j hj hj2) (frA_tr hf (frA_reg (by omega) f)) ?_
            rw [updI_s, ← hg, ex, ey]
            rfl
theorem bp_two : ∀ n : Nat, (1000000000 : Int) ^ n ≤ 2 ^ (30 * n)
  | 0 => by decide
  | n + 1 => by
    have ih := bp_two n
    rw [Int.pow_succ, show 30 * (n + 1) = 30 * n + 30 by omega, Int.pow_add]
    refine Int.mul_le_mul ih (by decide) (by decide) ?_
    have := bp_pos n
    omega
theorem wp_findCommon {d s ki ta la ca tb lb cb : Nat} {h : am_H} {v : Nat → Int} {va vb : Int} (hk : ki < 7) (hv : arV h s v) (ha : isW h ta la ca va) (hb : isW h tb lb cb vb) (hca : ca ≤ 1000000) (hcb : cb ≤ 1000000) (da : la ≠ s + 2 + 2 * ki) (db : (tb ≠ s + 1 + 2 * ki ∧ tb ≠ s + 2 + 2 * ki) ∧ lb ≠ s + 1 + 2 * ki ∧ lb ≠ s + 2 + 2 * ki ∧ lb ≠ s + 20) (hva : va < 1000000000 ^ 127) (hvb : vb < 1000000000 ^ 127) :
    am_c X (d + 3) 86 [.ref s, .ref (s + 1 + 2 * ki), .ref ta, .ref tb] h (fun r h' => r = none ∧ ∃ v', arV h' s v' ∧ v' ki = (Int.gcd va vb : Int) ∧ (∀ j, j < 7 → j ≠ ki → v' j = v j) ∧ frA s [] h h') := by
  have Wi := hv.2 ki (by omega)
  obtain ⟨gi, ni, c_i, -⟩ := id Wi
  have big := bp_mono (m := 127) (n := 128) (by decide)
  have va0 := ha.ex
  have vb0 := hb.ex
  refine am_c.of (Nat.le_of_ble_eq_true rfl) ?_
  show am_w _ _ _ (_, [_, _, _, _, _], _, _) _
  refine wr_aload_n rfl rfl rfl ?_
  refine wr_aload_n rfl rfl rfl ?_
  refine wr_cv1 (k' := 87) (ci := 5) rfl rfl rfl rfl c_i rfl rfl (wp_copy Wi ha (by omega) hca (by omega) (by omega)) (fun r h2 q => ?_)
  obtain ⟨rfl, w2, f2⟩ := q
  dsimp only [Option.toList, List.nil_append]
  have hv2 := hv.set (by omega) f2 w2
  have e_s : h2[s]? = some (arCell s) := hv2.1
  unfold arCell at e_s
  have W9 : isW h2 (s + 19) (s + 20) 128 _ := hv2.2 9 (by decide)
  obtain ⟨g9, n9, c_9, -⟩ := id W9
  have hb2 := hb.kept f2 (by simp; omega) (by simp; omega)
  refine wr_aload_n rfl rfl rfl ?_
  refine wr_get (ci := 4) (f := 9) rfl rfl rfl (by assumption) rfl ?_
  refine wr_aload_n rfl rfl rfl ?_
  refine wr_cv1 (k' := 87) (ci := 5) rfl rfl rfl rfl c_9 rfl rfl (ar_copy (k := 9) hv2 (by decide) hb2 hcb (by omega) (by omega)) (fun r h3 q => ?_)
  obtain ⟨rfl, hv3, f3⟩ := q
  dsimp only [Option.toList, List.nil_append]
  refine wr_iconst rfl rfl ?_
  refine wr_istore (ls' := [_, _, _, _, _]) rfl rfl (Nat.le_of_ble_eq_true rfl) rfl ?_
  refine am_w.wk (ls' := [_, _, am_U, am_U, _]) ⟨Or.inr rfl, Or.inr rfl, Or.inl rfl, Or.inl rfl, Or.inr rfl, trivial⟩ ?_
  have e9 : updI (updI v ki va) 9 vb 9 = vb := updI_s _ _ _
  have ei : updI (updI v ki va) 9 vb ki = va := by rw [updI_n (by omega), updI_s]
  refine wp_fc_loop (v0 := v) (h0 := h) (G := (Int.gcd va vb : Int)) hk (fun h' v' a b c e => ⟨rfl, v', a, e, b, c⟩) (30 * 127 + 30 * 127 + 1) 0 h3 _ hv3 (fun j hj hj2 => by rw [updI_n (by omega), updI_n hj2]) (frA_tr (frA_reg (by omega) f2) f3) (by rw [e9, ei]) (by rw [ei]; exact hva) (by rw [e9]; exact hvb) ?_ (by decide)
  rw [e9, ei]
  refine Or.inr ⟨by decide, ?_⟩
  rw [Int.pow_succ, Int.pow_add]
  have t := bp_two 127
  have m1 : va * vb ≤ va * 1000000000 ^ 127 := Int.mul_le_mul_of_nonneg_left (by omega) va0
  have m2 : va * 1000000000 ^ 127 < 1000000000 ^ 127 * 1000000000 ^ 127 := Int.mul_lt_mul_of_pos_right hva (bp_pos _)
  have m3 : (1000000000 : Int) ^ 127 * 1000000000 ^ 127 ≤ 2 ^ (30 * 127) * 2 ^ (30 * 127) := Int.mul_le_mul t t (by have := bp_pos 127; omega) (by have := bp_pos 127; omega)
  omega
end ARC
end
section
/-! THE CLASS'S FRACTIONS -/
abbrev cFr : Nat := 8
/-- the five cells of the fraction at f -/
abbrev fL (f : Nat) : List Nat := [f, f + 1, f + 2, f + 3, f + 4]
/-- the fraction at f, its numbers of cap limbs, is q -/
def isF (h : am_H) (f cap : Nat) (q : Rat) : Prop := h[f]? = some (.inr (cFr, [.int (iI q.num.sign), .ref (f + 1), .ref (f + 3)])) ∧ isW h (f + 1) (f + 2) cap (q.num.natAbs : Int) ∧ isW h (f + 3) (f + 4) cap (q.den : Int)
theorem isF.kept {h h' : am_H} {f cap : Nat} {q : Rat} {S : List Nat} (w : isF h f cap q) (e : fr S h h') (hS : ∀ i ∈ S, i < f ∨ f + 4 < i) : isF h' f cap q :=
  ⟨by rw [e.2 f (fun q => by have := hS _ q; omega)]; exact w.1, w.2.1.kept e (fun q => by have := hS _ q; omega) (fun q => by have := hS _ q; omega), w.2.2.kept e (fun q => by have := hS _ q; omega) (fun q => by have := hS _ q; omega)⟩
theorem isF.keptA {h h' : am_H} {s f cap : Nat} {q : Rat} {L : List Nat} (w : isF h f cap q) (e : frA s L h h') (hs : f + 4 < s ∨ s + 22 < f) (hL : ∀ i ∈ L, i < f ∨ f + 4 < i) : isF h' f cap q :=
  ⟨by rw [e.2 f (by omega) (fun q => by have := hL _ q; omega)]; exact w.1, w.2.1.keptA e (by omega) (by omega) (fun q => by have := hL _ q; omega) (fun q => by have := hL _ q; omega), w.2.2.keptA e (by omega) (by omega) (fun q => by have := hL _ q; omega) (fun q => by have := hL _ q; omega)⟩
theorem rat_add_parts (a b : Rat) {g k : Nat} {T : Int} (hg : g = Nat.gcd a.den b.den) (hT : T = a.num * ((b.den / g : Nat) : Int) + b.num * ((a.den / g : Nat) : Int)) (hk : k = Nat.gcd T.natAbs g) :
    (a + b).num.natAbs = T.natAbs / k ∧ (a + b).den = a.den / g * (b.den / k) ∧ (a + b).num.sign = T.sign ∧ 0 < g ∧ 0 < k ∧ k ∣ b.den := by
  have g0 : 0 < g := hg ▸ Nat.gcd_pos_of_pos_left _ a.den_pos
  have k0 : 0 < k := hk ▸ Nat.gcd_pos_of_pos_right _ g0
  have ga : a.den / g * g = a.den := Nat.div_mul_cancel (hg ▸ Nat.gcd_dvd_left ..)
  have gb : b.den / g * g = b.den := Nat.div_mul_cancel (hg ▸ Nat.gcd_dvd_right ..)
  have kg : k ∣ g := hk ▸ Nat.gcd_dvd_right ..
  have kb : k ∣ b.den := Nat.dvd_trans kg (hg ▸ Nat.gcd_dvd_right ..)
  have kT : k ∣ T.natAbs := hk ▸ Nat.gcd_dvd_left ..
  have aux : T.natAbs.gcd g = T.natAbs.gcd (a.den / g * b.den) := by
    rw [hT]
    exact Rat.add.aux a b hg rfl rfl
  have d0 : a.den / g * b.den ≠ 0 := by
    intro q
    rcases Nat.mul_eq_zero.mp q with q | q
    · rw [q, Nat.zero_mul] at ga
      exact a.den_nz ga.symm
    · exact b.den_nz q
  have e : a + b = Rat.normalize T (a.den / g * b.den) d0 := by
    rw [Rat.add_def, ← Rat.normalize_mul_right d0 (show g ≠ 0 by omega)]
    congr 1
    · rw [hT, Int.add_mul, Int.mul_assoc, Int.mul_assoc]
      congr 2
      · rw [← Int.natCast_mul, gb]
      · rw [← Int.natCast_mul, ga]
    · rw [Nat.mul_assoc, Nat.mul_comm b.den g, ← Nat.mul_assoc, ga]
  have en : (a + b).num = T / (k : Int) := by rw [e, Rat.num_normalize, ← aux, ← hk]
  have ed : (a + b).den = a.den / g * b.den / k := by rw [e, Rat.den_normalize, ← aux, ← hk]
  obtain ⟨m, hm⟩ : (k : Int) ∣ T := Int.ofNat_dvd_left.mpr kT
  have em : T / (k : Int) = m := by rw [hm, Int.mul_ediv_cancel_left _ (by omega)]
  refine ⟨?_, ?_, ?_, g0, k0, kb⟩
  · rw [en, em, hm, Int.natAbs_mul, Int.natAbs_natCast, Nat.mul_div_cancel_left _ k0]
  · rw [ed, Nat.mul_div_assoc _ kb]
  · rw [en, em, hm, Int.sign_mul, Int.sign_eq_one_of_pos (show 0 < (k : Int) by omega), Int.one_mul]
theorem sgn_sum {x y : Int} : (0 ≤ x.sign * y.sign → ((x + y).natAbs : Int) = x.natAbs + y.natAbs) ∧ (x.sign * y.sign < 0 → ((x + y).natAbs : Int) = if (y.natAbs : Int) ≤ x.natAbs then (x.natAbs : Int) - y.natAbs else (y.natAbs : Int) - x.natAbs) ∧ (x + y ≠ 0 → (x + y).sign = if (y.natAbs : Int) ≤ x.natAbs then x.sign else y.sign) := by
  rcases Int.lt_trichotomy x 0 with hx | hx | hx <;> rcases Int.lt_trichotomy y 0 with hy | hy | hy <;>
  first
  | (rw [Int.sign_eq_neg_one_of_neg hx, Int.sign_eq_neg_one_of_neg hy]; refine ⟨fun _ => by omega, fun q => by omega, fun _ => ?_⟩; rw [Int.sign_eq_neg_one_of_neg (by omega)]; split <;> rfl)
  | (rw [Int.sign_eq_one_of_pos hx, Int.sign_eq_one_of_pos hy]; refine ⟨fun _ => by omega, fun q => by omega, fun _ => ?_⟩; rw [Int.sign_eq_one_of_pos (by omega)]; split <;> rfl)
  | (subst hx; refine ⟨fun _ => by simp, fun q => by simp at q, fun q => ?_⟩; rw [Int.zero_add] at q ⊢; rw [if_neg (by omega)])
  | (subst hy; refine ⟨fun _ => by simp, fun q => by simp at q, fun q => ?_⟩; rw [Int.add_zero] at q ⊢; rw [if_pos (by omega)])
  | (rw [Int.sign_eq_neg_one_of_neg hx, Int.sign_eq_one_of_pos hy]; refine ⟨fun q => by omega, fun _ => ?_, fun q => ?_⟩
     · split <;> omega
     · split
       · exact Int.sign_eq_neg_one_of_neg (by omega)
       · exact Int.sign_eq_one_of_pos (by omega))
  | (rw [Int.sign_eq_one_of_pos hx, Int.sign_eq_neg_one_of_neg hy]; refine ⟨fun q => by omega, fun _ => ?_, fun q => ?_⟩
     · split <;> omega
     · split
       · exact Int.sign_eq_one_of_pos (by omega)
       · exact Int.sign_eq_neg_one_of_neg (by omega))
section ARF
variable {X : Nat × (Nat → Int32)}
theorem ar_prod {d s k ta la ca tb lb cb : Nat} {h : am_H} {v : Nat → Int} {va vb : Int} (hv : arV h s v) (hk : k < 11) (ha : isW h ta la ca va) (hb : isW h tb lb cb vb) (hca : ca ≤ 1000000) (hcb : cb ≤ 1000000) (hd : la ≠ s + 2 + 2 * k) (hd2 : lb ≠ s + 2 + 2 * k) (hfit : va * vb < 1000000000 ^ 127) :
    am_c X (d + 1) 97 [.ref (s + 1 + 2 * k), .ref ta, .ref tb] h (fun r h' => r = none ∧ arV h' s (updI v k (va * vb)) ∧ frA s [] h h') := by
  refine am_c.mono (wp_product (hv.2 k hk) ha hb (by omega) hca hcb (Ne.symm hd) (Ne.symm hd2) hfit) (fun r h' q => ?_)
  obtain ⟨rfl, w, f⟩ := q
  exact ⟨rfl, hv.set hk f w, frA_reg hk f⟩
theorem ar_sum {d s k ta la ca tb lb cb : Nat} {h : am_H} {v : Nat → Int} {va vb : Int} (hv : arV h s v) (hk : k < 11) (ha : isW h ta la ca va) (hb : isW h tb lb cb vb) (hca : ca ≤ 1000000) (hcb : cb ≤ 1000000) (hd2 : lb ≠ s + 2 + 2 * k) (hfit : va + vb < 1000000000 ^ 128) :
    am_c X (d + 1) 99 [.ref (s + 1 + 2 * k), .ref ta, .ref tb] h (fun r h' => r = none ∧ arV h' s (updI v k (va + vb)) ∧ frA s [] h h') := by
  refine am_c.mono (wp_sum (hv.2 k hk) ha hb (by omega) hca hcb (Ne.symm hd2) hfit) (fun r h' q => ?_)
  obtain ⟨rfl, w, f⟩ := q
  exact ⟨rfl, hv.set hk f w, frA_reg hk f⟩
theorem ar_diff {d s k ta la ca tb lb cb : Nat} {h : am_H} {v : Nat → Int} {va vb : Int} (hv : arV h s v) (hk : k < 11) (ha : isW h ta la ca va) (hb : isW h tb lb cb vb) (hca : ca ≤ 1000000) (hcb : cb ≤ 1000000) (hd : la ≠ s + 2 + 2 * k) (hd2 : lb ≠ s + 2 + 2 * k) (hfit : va < 1000000000 ^ 128) (hle : vb ≤ va) :
    am_c X (d + 1) 100 [.ref (s + 1 + 2 * k), .ref ta, .ref tb] h (fun r h' => r = none ∧ arV h' s (updI v k (va - vb)) ∧ frA s [] h h') := by
  refine am_c.mono (wp_diff (hv.2 k hk) ha hb (by omega) hca hcb (Ne.symm hd) (Ne.symm hd2) hfit hle) (fun r h' q => ?_)
  obtain ⟨rfl, w, f⟩ := q
  exact ⟨rfl, hv.set hk f w, frA_reg hk f⟩
/-- divide into a number that is not the arithmetic's -/
theorem ar_divX {d s tq lq cq ta la ca tb lb cb : Nat} {h : am_H} {v : Nat → Int} {v0 va vb : Int} (hv : arV h s v) (hq : isW h tq lq cq v0) (ha : isW h ta la ca va) (hb : isW h tb lb cb vb) (hb0 : 0 < vb) (hca : ca ≤ 1000000) (hcb : cb ≤ 1000000) (hcq : 0 < cq ∧ cq ≤ 1000000) (dq : (tq < s ∨ s + 22 < tq) ∧ (lq < s ∨ s + 22 < lq)) (da : la < s + 15 ∨ s + 18 < la) (db : (tb < s + 15 ∨ s + 18 < tb) ∧ (lb < s + 15 ∨ s + 18 < lb)) (hva : va < 1000000000 ^ 127) (hvb : vb < 1000000000 ^ 127) (hfit : va < 1000000000 ^ (cq - 1) * vb) :
    am_c X (d + 2) 89 [.ref s, .ref tq, .ref ta, .ref tb] h (fun r h' => r = none ∧ isW h' tq lq cq (va / vb) ∧ (∃ v', arV h' s v' ∧ v' 7 = va % vb ∧ (∀ j, j ≠ 7 → j ≠ 8 → v' j = v j)) ∧ frA s [tq, lq] h h') := by
  refine am_c.mono (wp_divide hv.1 (hv.2 7 (by decide)) (hv.2 8 (by decide)) hq ha hb hb0 hca hcb (by omega) (by omega) (by omega) (by omega) (by omega) hva hvb hfit) (fun r h' q => ?_)
  obtain ⟨rfl, w1, w2, ⟨w, w3⟩, f⟩ := q
  refine ⟨rfl, w1, ⟨updI (updI v 7 (va % vb)) 8 w, ⟨by rw [f.2 s (by simp; omega)]; exact hv.1, fun j hj => ?_⟩, ?_, ?_⟩, frA_of f (fun i hi => by simp at hi ⊢; omega)⟩
  · by_cases e8 : j = 8
    · subst e8; rw [updI_s]; exact w3
    · rw [updI_n e8]
      by_cases e7 : j = 7
      · subst e7; rw [updI_s]; exact w2
      · rw [updI_n e7]; exact (hv.2 j hj).kept f (by simp; omega) (by simp; omega)
  · rw [updI_n (by decide), updI_s]
  · intro j h2 h3
    rw [updI_n h3, updI_n h2]
theorem wp_lcompare {d : Nat} {h : am_H} {a b : Int} (ha : -9223372036854775808 ≤ a ∧ a ≤ 9223372036854775807) (hb : -9223372036854775808 ≤ b ∧ b ≤ 9223372036854775807) :
    am_c X (d + 1) 78 [.long (lI a), .long (lI b)] h (fun r h' => r = some (.int (iI (cmpI a b))) ∧ h' = h) := by
  refine am_c.of (Nat.le_of_ble_eq_true rfl) ?_
  show am_w _ _ _ (_, [_, _, _, _], _, _) _
  refine wr_lload_n rfl rfl rfl ?_
  refine wr_lload_n rfl rfl rfl ?_
  refine wr_l_ge rfl rfl rfl rfl rfl (by omega) (by omega) (fun c2 => ?_) (fun c2 => ?_)
  ·
    refine wr_lload_n rfl rfl rfl ?_
    refine wr_lload_n rfl rfl rfl ?_
    refine wr_l_ne rfl rfl rfl rfl rfl (by omega) (by omega) (fun c12 => ?_) (fun c12 => ?_)
    ·
      refine wr_iconst rfl rfl ?_
      refine wr_iret rfl rfl ?_
      exact ⟨by rw [show cmpI a b = 1 by unfold cmpI; rw [if_pos (by omega)]], rfl⟩
    ·
      refine wr_iconst rfl rfl ?_
      refine wr_goto rfl rfl ?_
      refine wr_iret rfl rfl ?_
      exact ⟨by rw [show cmpI a b = 0 by unfold cmpI; rw [if_neg (by omega), if_pos (by omega)]], rfl⟩
  ·
    refine wr_iconst rfl rfl ?_
    refine wr_goto rfl rfl ?_
    refine wr_iret rfl rfl ?_
    exact ⟨by rw [show cmpI a b = -1 by unfold cmpI; rw [if_neg (by omega), if_neg (by omega)]], rfl⟩
theorem cmpI_sign (a : Int) : cmpI a 0 = a.sign := by
  rcases cmpI_cases a 0 with ⟨e, h⟩ | ⟨e, h⟩ | ⟨e, h⟩
  · rw [e, Int.sign_eq_one_of_pos h]
  · rw [e, h]; rfl
  · rw [e, Int.sign_eq_neg_one_of_neg h]
end ARF
end
section
/-! THE CLASS'S FRACTIONS: ratio, compare, product -/
def arX (h : am_H) (s : Nat) : Prop := ∃ v, arV h s v
theorem div_parts {T : Int} {k : Nat} (k0 : 0 < k) (kT : k ∣ T.natAbs) : (T / (k : Int)).natAbs = T.natAbs / k ∧ (T / (k : Int)).sign = T.sign := by
  obtain ⟨m, hm⟩ : (k : Int) ∣ T := Int.ofNat_dvd_left.mpr kT
  have em : T / (k : Int) = m := by rw [hm, Int.mul_ediv_cancel_left _ (by omega)]
  constructor
  · rw [em, hm, Int.natAbs_mul, Int.natAbs_natCast, Nat.mul_div_cancel_left _ k0]
  · rw [em, hm, Int.sign_mul, Int.sign_eq_one_of_pos (show 0 < (k : Int) by omega), Int.one_mul]
theorem mk_parts {u : Int} {n g : Nat} (hn : 0 < n) (hg : g = Nat.gcd u.natAbs n) : (Rat.divInt u n).num.natAbs = u.natAbs / g ∧ (Rat.divInt u n).den = n / g ∧ (Rat.divInt u n).num.sign = u.sign := by
  have g0 : 0 < g := hg ▸ Nat.gcd_pos_of_pos_right _ hn
  have gu : g ∣ u.natAbs := hg ▸ Nat.gcd_dvd_left ..
  have e : n.gcd u.natAbs = g := by rw [Nat.gcd_comm, hg]
  have := div_parts g0 gu
  rw [Rat.divInt_ofNat, Rat.num_mkRat, Rat.den_mkRat, if_neg (by omega), if_neg (by omega), e]
  exact ⟨this.1, rfl, this.2⟩
theorem mul_parts {a c : Rat} {g : Nat} (hg : g = Nat.gcd (a.num.natAbs * c.num.natAbs) (a.den * c.den)) : (a * c).num.natAbs = a.num.natAbs * c.num.natAbs / g ∧ (a * c).den = a.den * c.den / g ∧ (a * c).num.sign = a.num.sign * c.num.sign ∧ 0 < g := by
  have g0 : 0 < g := hg ▸ Nat.gcd_pos_of_pos_right _ (Nat.mul_pos a.den_pos c.den_pos)
  rw [← Int.natAbs_mul] at hg
  have := div_parts g0 (hg ▸ Nat.gcd_dvd_left ..)
  rw [Rat.num_mul, Rat.den_mul, ← hg]
  exact ⟨by rw [this.1, Int.natAbs_mul], rfl, by rw [this.2, Int.sign_mul], g0⟩
theorem inv_parts {b : Rat} (h : b.num ≠ 0) : (b⁻¹).num.natAbs = b.den ∧ (b⁻¹).den = b.num.natAbs ∧ (b⁻¹).num.sign = b.num.sign := by
  have hd := b.den_pos
  rw [Rat.num_inv, Rat.den_inv, if_neg h]
  refine ⟨?_, rfl, ?_⟩
  · rw [Int.natAbs_mul, Int.natAbs_natCast, Int.natAbs_sign_of_ne_zero h, Nat.one_mul]
  · rw [Int.sign_mul, Int.sign_sign, Int.sign_eq_one_of_pos (show 0 < (b.den : Int) by omega), Int.mul_one]
theorem arV.extA {h h' : am_H} {s : Nat} {v : Nat → Int} {S : List Nat} (a : arV h s v) (f : fr S h h') (hS : ∀ i ∈ S, i < s ∨ s + 22 < i) : arV h' s v ∧ frA s S h h' := ⟨a.ext f hS, frA_of f (fun i hi => Or.inr hi)⟩
/-- the fraction at f lies apart from the arithmetic at s; two fractions are one, or apart -/
def sepA (s f : Nat) : Prop := f + 4 < s ∨ s + 22 < f
def sepF (f g : Nat) : Prop := f = g ∨ f + 4 < g ∨ g + 4 < f
section ARG
variable {X : Nat × (Nat → Int32)}
theorem wp_ratio {d s f cap : Nat} {h : am_H} {q0 : Rat} {u L : Int} (hF : isF h f cap q0) (hcap : 3 ≤ cap ∧ cap ≤ 1000000) (hu : -9223372036854775807 ≤ u ∧ u ≤ 9223372036854775807) (hL : 0 < L ∧ L ≤ 9223372036854775807) :
    am_c X (d + 2) 79 [.ref s, .ref f, .long (lI u), .long (lI L)] h (fun r h' => r = none ∧ isF h' f cap (Rat.divInt u L) ∧ fr (fL f) h h') := by
  obtain ⟨n, rfl⟩ := Int.eq_ofNat_of_zero_le (show 0 ≤ L by omega)
  have hp := mk_parts (u := u) (n := n) (g := Nat.gcd u.natAbs n) (by omega) rfl
  obtain ⟨g, eg⟩ : ∃ g, g = Nat.gcd u.natAbs n := ⟨_, rfl⟩
  have g0 : 0 < g := eg ▸ Nat.gcd_pos_of_pos_right _ (by omega)
  have gn : g ≤ n := eg ▸ Nat.gcd_le_right _ (by omega)
  rw [← eg] at hp
  obtain ⟨hc, hU, hW⟩ := hF
  have big : (1000000000 : Int) ^ 3 ≤ 1000000000 ^ cap := bp_mono hcap.1
  rw [show (1000000000 : Int) ^ 3 = 1000000000000000000000000000 by decide] at big
  refine am_c.of (Nat.le_of_ble_eq_true rfl) ?_
  show am_w _ _ _ (_, [_, _, _, _, _, _, _, _, _, _], _, _) _
  refine wr_lload_n rfl rfl rfl ?_
  refine wr_mabs (b := 0) rfl rfl rfl rfl (by omega) ?_
  refine wr_lstore (ls' := [_, _, _, _, _, _, _, _, _, _]) rfl rfl (Nat.le_of_ble_eq_true rfl) rfl ?_
  refine wr_lload rfl rfl rfl ?_
  refine wr_lload rfl rfl rfl ?_
  refine wr_cs2 (k' := 80) rfl rfl rfl rfl rfl (wp_commonOf (G := u.natAbs) (L := n) (by omega) (by omega)) (fun r h2 q => ?_)
  obtain ⟨rfl, hh⟩ := q
  rw [hh, ← eg]
  clear hh h2
  dsimp only [Option.toList, List.cons_append, List.nil_append]
  refine wr_lstore (ls' := [_, _, _, _, _, _, _, _, _, _]) rfl rfl (Nat.le_of_ble_eq_true rfl) rfl ?_
  refine wr_lload rfl rfl rfl ?_
  refine wr_lconst (z := 0) rfl rfl rfl ?_
  refine wr_l_le rfl rfl rfl rfl rfl (by omega) (by omega) (fun c18 => ?_) (fun c18 => ?_)
  · exfalso; omega
  ·
    refine wr_lload rfl rfl rfl ?_
    refine wr_lconst (z := 0) rfl rfl rfl ?_
    refine wr_l_gt rfl rfl rfl rfl rfl (by omega) (by omega) (fun c25 => ?_) (fun c25 => ?_)
    ·
      refine wr_aload_n rfl rfl rfl ?_
      refine wr_lload_n rfl rfl rfl ?_
      refine wr_lconst (z := 0) rfl rfl rfl ?_
      refine wr_cs2 (k' := 78) rfl rfl rfl rfl rfl (wp_lcompare (by omega) (by omega)) (fun r h2 q => ?_)
      obtain ⟨rfl, hh⟩ := q
      rw [hh, cmpI_sign]
      clear hh h2
      dsimp only [Option.toList, List.cons_append, List.nil_append]
      refine wr_putI (ci := 8) (f := 0) (fs' := [_, _, _]) rfl rfl rfl (by assumption) rfl rfl rfl (fun h1 e1 => ?_)
      have f1 : fr [f] h h1 := by
        rw [e1]
        exact ⟨by simp, fun i hi => am_set_n (fun q => hi (by simp [q]))⟩
      have c1 : h1[f]? = some (.inr (cFr, [.int (iI u.sign), .ref (f + 1), .ref (f + 3)])) := by rw [e1]; exact am_set_s hc
      have U1 := hU.kept f1 (by simp) (by simp)
      have W1 := hW.kept f1 (by simp) (by simp)
      obtain ⟨gu, nu, cu, cul, -⟩ := id U1
      refine wr_aload_n rfl rfl rfl ?_
      refine wr_get (ci := 8) (f := 1) rfl rfl rfl (by assumption) rfl ?_
      refine wr_lload rfl rfl rfl ?_
      refine wr_lload rfl rfl rfl ?_
      have q1 : (u.natAbs : Int) / (g : Int) = ((u.natAbs / g : Nat) : Int) := rfl
      have q2 : (u.natAbs / g : Nat) ≤ u.natAbs := Nat.div_le_self _ _
      refine wr_ldivN rfl rfl (by omega) (by omega) (by omega) (by omega) ?_
      rw [q1]
      refine wr_cv1 (k' := 10) (ci := 5) rfl rfl rfl rfl (by assumption) rfl rfl (wp_put cu cul (by omega) (by omega) (by omega)) (fun r h2 q => ?_)
      obtain ⟨rfl, U2, f2⟩ := q
      dsimp only [Option.toList, List.nil_append]
      have c2 : h2[f]? = some (.inr (cFr, [.int (iI u.sign), .ref (f + 1), .ref (f + 3)])) := by rw [f2.2 f (by simp)]; exact c1
      have W2 := W1.kept f2 (by simp) (by simp)
      obtain ⟨gw, nw, cw, cwl, -⟩ := id W2
      have q3 : (n : Int) / (g : Int) = ((n / g : Nat) : Int) := rfl
      have q4 : (n / g : Nat) ≤ n := Nat.div_le_self _ _
      refine wr_aload_n rfl rfl rfl ?_
      refine wr_get (ci := 8) (f := 2) rfl rfl rfl (by assumption) rfl ?_
      refine wr_lload rfl rfl rfl ?_
      refine wr_lload rfl rfl rfl ?_
      refine wr_ldivN rfl rfl (by omega) (by omega) (by omega) (by omega) ?_
      rw [q3]
      refine wr_cv1 (k' := 10) (ci := 5) rfl rfl rfl rfl (by assumption) rfl rfl (wp_put cw cwl (by omega) (by omega) (by omega)) (fun r h3 q => ?_)
      obtain ⟨rfl, W3, f3⟩ := q
      dsimp only [Option.toList, List.nil_append]
      refine wr_vret rfl rfl ?_
      refine ⟨rfl, ⟨?_, ?_, ?_⟩, ?_⟩
      · rw [f3.2 f (by simp), c2, hp.2.2]
      · rw [hp.1]
        exact U2.kept f3 (by simp) (by simp)
      · rw [hp.2.1]
        exact W3
      · exact fr_tr (fr_tr (U := fL f) f1 f2 (fun i hi => by simp at hi ⊢; omega) (fun i hi => by simp at hi ⊢; omega)) f3 (fun i hi => hi) (fun i hi => by simp at hi ⊢; omega)
    · exfalso; omega
theorem wp_cmpF {d s f cap : Nat} {h : am_H} {a : Rat} {v : Nat → Int} {b : Int} (hv : arV h s v) (hF : isF h f cap a) (hd : f + 4 < s ∨ s + 22 < f) (hcap : cap ≤ 1000000) (hb : 0 ≤ b ∧ b ≤ 9223372036854775807) (ha : (a.den : Int) < 1000000000 ^ 120) :
    am_c X (d + 2) 118 [.ref s, .ref f, .long (lI b)] h (fun r h' => r = some (.int (iI (cmpI (a.num.natAbs : Int) ((a.den : Int) * b)))) ∧ arX h' s ∧ frA s [] h h') := by
  have c_s : h[s]? = some (arCell s) := hv.1
  unfold arCell at c_s
  have big : (1000000000 : Int) ^ 3 ≤ 1000000000 ^ 128 := bp_mono (by decide)
  rw [show (1000000000 : Int) ^ 3 = 1000000000000000000000000000 by decide] at big
  have R3 : isW h (s + 7) (s + 8) 128 _ := hv.2 3 (by decide)
  obtain ⟨g3, n3, c3, c3l, -⟩ := id R3
  have hfit : (a.den : Int) * b < 1000000000 ^ 127 := by
    have y1 : (a.den : Int) * b ≤ (a.den : Int) * 1000000000 ^ 3 := Int.mul_le_mul_of_nonneg_left (by rw [show (1000000000 : Int) ^ 3 = 1000000000000000000000000000 by decide]; omega) (by omega)
    have y2 : (a.den : Int) * 1000000000 ^ 3 < 1000000000 ^ 120 * 1000000000 ^ 3 := Int.mul_lt_mul_of_pos_right ha (bp_pos _)
    rw [← Int.pow_add] at y2
    have := bp_mono (m := 120 + 3) (n := 127) (by decide)
    omega
  refine am_c.of (Nat.le_of_ble_eq_true rfl) ?_
  show am_w _ _ _ (_, [_, _, _, _], _, _) _
  refine wr_aload_n rfl rfl rfl ?_
  refine wr_get (ci := 4) (f := 3) rfl rfl rfl (by assumption) rfl ?_
  refine wr_lload_n rfl rfl rfl ?_
  refine wr_cv1 (k' := 10) (ci := 5) rfl rfl rfl rfl (by assumption) rfl rfl (wp_put c3 c3l (by omega) (by omega) (by omega)) (fun r h2 q => ?_)
  obtain ⟨rfl, w2, f2⟩ := q
  dsimp only [Option.toList, List.nil_append]
  have hv2 := hv.set (k := 3) (by decide) f2 w2
  have hF2 := hF.keptA (frA_reg (s := s) (k := 3) (L := []) (by decide) f2) hd (by simp)
  have e_s : h2[s]? = some (arCell s) := hv2.1
  unfold arCell at e_s
  obtain ⟨b_c, b_u, b_l⟩ := id hF2
  have R2 : isW h2 (s + 5) (s + 6) 128 _ := hv2.2 2 (by decide)
  have R3 : isW h2 (s + 7) (s + 8) 128 _ := hv2.2 3 (by decide)
  rw [updI_s] at R3
  obtain ⟨g2, n2, c2, c2l, -⟩ := id R2
  refine wr_aload_n rfl rfl rfl ?_
  refine wr_get (ci := 4) (f := 2) rfl rfl rfl (by assumption) rfl ?_
  refine wr_aload_n rfl rfl rfl ?_
  refine wr_get (ci := 8) (f := 2) rfl rfl rfl (by assumption) rfl ?_
  refine wr_aload_n rfl rfl rfl ?_
  refine wr_get (ci := 4) (f := 3) rfl rfl rfl (by assumption) rfl ?_
  refine wr_cv2 (k' := 97) (ci := 5) rfl rfl rfl rfl (by assumption) rfl rfl (ar_prod (k := 2) hv2 (by decide) b_l R3 (by omega) (by omega) (by omega) (by omega) hfit) (fun r h3 q => ?_)
  obtain ⟨rfl, hv3, f3⟩ := q
  dsimp only [Option.toList, List.nil_append]
  have hF3 := hF2.keptA f3 hd (by simp)
  have g_s : h3[s]? = some (arCell s) := hv3.1
  unfold arCell at g_s
  obtain ⟨d_c, d_u, d_l⟩ := id hF3
  have Q2 : isW h3 (s + 5) (s + 6) 128 _ := hv3.2 2 (by decide)
  rw [updI_s] at Q2
  obtain ⟨gx, nx, cx, -⟩ := id d_u
  refine wr_aload_n rfl rfl rfl ?_
  refine wr_get (ci := 8) (f := 1) rfl rfl rfl (by assumption) rfl ?_
  refine wr_aload_n rfl rfl rfl ?_
  refine wr_get (ci := 4) (f := 2) rfl rfl rfl (by assumption) rfl ?_
  refine wr_cv1 (k' := 98) (ci := 5) rfl rfl rfl rfl (by assumption) rfl rfl (wp_compare d_u Q2 (by omega) (by omega)) (fun r h4 q => ?_)
  obtain ⟨rfl, hh⟩ := q
  rw [hh]
  clear hh h4
  dsimp only [Option.toList, List.cons_append, List.nil_append]
  refine wr_iret rfl rfl ?_
  exact ⟨rfl, ⟨_, hv3⟩, frA_tr (frA_reg (k := 3) (by decide) f2) f3⟩
theorem wp_prodF {d s fi ci fa ca fb cb P R : Nat} {h : am_H} {v : Nat → Int} {q0 a b c : Rat} {inv : Int} (hv : arV h s v) (Fi : isF h fi ci q0) (Fa : isF h fa ca a) (Fb : isF h fb cb b) (hc : (inv = 0 ∧ c = b) ∨ (inv = 1 ∧ b.num ≠ 0 ∧ c = b⁻¹)) (di : sepA s fi) (da : sepA s fa) (db : sepA s fb) (dia : sepF fi fa) (dib : sepF fi fb) (hci : 1 ≤ ci ∧ ci ≤ 1000000) (hca : ca ≤ 1000000) (hcb : cb ≤ 1000000)
    (b1 : (a.num.natAbs : Int) < 1000000000 ^ P ∧ (a.den : Int) < 1000000000 ^ P) (b2 : (b.num.natAbs : Int) < 1000000000 ^ R ∧ (b.den : Int) < 1000000000 ^ R) (hPR : P + R ≤ 127) (fit : ((a * c).num.natAbs : Int) < 1000000000 ^ (ci - 1) ∧ ((a * c).den : Int) < 1000000000 ^ (ci - 1)) :
    am_c X (d + 4) 101 [.ref s, .ref fi, .ref fa, .ref fb, .int (iI inv)] h (fun r h' => r = none ∧ isF h' fi ci (a * c) ∧ arX h' s ∧ frA s (fL fi) h h') := by
  have hm := mul_parts (a := a) (c := c) rfl
  obtain ⟨g, eg⟩ : ∃ g, g = Nat.gcd (a.num.natAbs * c.num.natAbs) (a.den * c.den) := ⟨_, rfl⟩
  rw [← eg] at hm
  have pos : ∀ {x y : Int}, 0 ≤ x → 0 ≤ y → x < 1000000000 ^ P → y < 1000000000 ^ R → x * y < 1000000000 ^ 127 := by
    intro x y hx hy h1 h2
    clear fit b1 b2
    have y1 : x * y ≤ x * 1000000000 ^ R := Int.mul_le_mul_of_nonneg_left (by omega) hx
    have y2 : x * 1000000000 ^ R < 1000000000 ^ P * 1000000000 ^ R := Int.mul_lt_mul_of_pos_right h1 (bp_pos _)
    rw [← Int.pow_add] at y2
    have := bp_mono (m := P + R) (n := 127) hPR
    omega
  have cB : (c.num.natAbs : Int) < 1000000000 ^ R ∧ (c.den : Int) < 1000000000 ^ R ∧ c.num.sign = b.num.sign := by
    rcases hc with ⟨-, rfl⟩ | ⟨-, nz, rfl⟩
    · exact ⟨b2.1, b2.2, rfl⟩
    · have := inv_parts nz
      rw [this.1, this.2.1]
      exact ⟨b2.2, b2.1, this.2.2⟩
  have nu := pos (x := a.num.natAbs) (y := c.num.natAbs) (by omega) (by omega) b1.1 cB.1
  have nl := pos (x := a.den) (y := c.den) (by omega) (by omega) b1.2 cB.2.1
  have hcl := c.den_pos
  have hal := a.den_pos
  have J13 : am_w X (d + 3) 101 (13, [.ref s, .ref fi, .ref fa, .ref fb, .int (iI inv)], [], h) (fun r h' => r = none ∧ isF h' fi ci (a * c) ∧ arX h' s ∧ frA s (fL fi) h h') := by
    have c_s : h[s]? = some (arCell s) := (hv).1
    unfold arCell at c_s
    obtain ⟨a_c, a_u, a_l⟩ := id Fa
    obtain ⟨b_c, b_u, b_l⟩ := id Fb
    have R2 : isW h (s + 5) (s + 6) 128 _ := hv.2 2 (by decide)
    obtain ⟨g2, n2, c2, -⟩ := id R2
    have J37 : ∀ {tb lb : Nat}, isW h tb lb cb (c.num.natAbs : Int) → (fb ≤ tb ∧ tb ≤ fb + 4) → (fb ≤ lb ∧ lb ≤ fb + 4) → am_w X (d + 3) 101 (37, [.ref s, .ref fi, .ref fa, .ref fb, .int (iI inv)], [.ref tb, .ref (fa + 1), .ref (s + 5)], h) (fun r h' => r = none ∧ isF h' fi ci (a * c) ∧ arX h' s ∧ frA s (fL fi) h h') := by
      intro tb lb hW r1 r2
      refine wr_cv2 (k' := 97) (ci := 5) rfl rfl rfl rfl (by assumption) rfl rfl (ar_prod (k := 2) hv (by decide) a_u hW hca hcb (by simp only [sepA, sepF] at da; omega) (by simp only [sepA, sepF] at db; omega) nu) (fun r h2 q => ?_)
      obtain ⟨rfl, hv2, f2⟩ := q
      dsimp only [Option.toList, List.nil_append]
      have Fa := Fa.keptA f2 da (by simp)
      have Fb := Fb.keptA f2 db (by simp)
      have Fi := Fi.keptA f2 di (by simp)
      have c_s : h2[s]? = some (arCell s) := (hv2).1
      unfold arCell at c_s
      obtain ⟨a_c, a_u, a_l⟩ := id Fa
      obtain ⟨b_c, b_u, b_l⟩ := id Fb
      have R4 : isW h2 (s + 9) (s + 10) 128 _ := hv2.2 4 (by decide)
      obtain ⟨g4, n4, c4, -⟩ := id R4
      have J64 : ∀ {tb lb : Nat}, isW h2 tb lb cb (c.den : Int) → (fb ≤ tb ∧ tb ≤ fb + 4) → (fb ≤ lb ∧ lb ≤ fb + 4) → am_w X (d + 3) 101 (64, [.ref s, .ref fi, .ref fa, .ref fb, .int (iI inv)], [.ref tb, .ref (fa + 3), .ref (s + 9)], h2) (fun r h' => r = none ∧ isF h' fi ci (a * c) ∧ arX h' s ∧ frA s (fL fi) h h') := by
        intro tb lb hW r1 r2
        refine wr_cv2 (k' := 97) (ci := 5) rfl rfl rfl rfl (by assumption) rfl rfl (ar_prod (k := 4) hv2 (by decide) a_l hW hca hcb (by simp only [sepA, sepF] at da; omega) (by simp only [sepA, sepF] at db; omega) nl) (fun r h3 q => ?_)
        obtain ⟨rfl, hv3, f3⟩ := q
        dsimp only [Option.toList, List.nil_append]
        have Fa := Fa.keptA f3 da (by simp)
        have Fb := Fb.keptA f3 db (by simp)
        have Fi := Fi.keptA f3 di (by simp)
        have ff := frA_tr f2 f3
        have c_s : h3[s]? = some (arCell s) := (hv3).1
        unfold arCell at c_s
        have R2 : isW h3 (s + 5) (s + 6) 128 _ := hv3.2 2 (by decide)
        have R4 : isW h3 (s + 9) (s + 10) 128 _ := hv3.2 4 (by decide)
        rw [updI_n (by decide), updI_s] at R2
        rw [updI_s] at R4
        refine wr_aload_n rfl rfl rfl ?_
        refine wr_aload_n rfl rfl rfl ?_
        refine wr_get (ci := 4) (f := 0) rfl rfl rfl (by assumption) rfl ?_
        refine wr_aload_n rfl rfl rfl ?_
        refine wr_get (ci := 4) (f := 2) rfl rfl rfl (by assumption) rfl ?_
        refine wr_aload_n rfl rfl rfl ?_
        refine wr_get (ci := 4) (f := 4) rfl rfl rfl (by assumption) rfl ?_
        refine wr_cv3 (k' := 86) (ci := 4) rfl rfl rfl rfl (by assumption) rfl rfl (wp_findCommon (ki := 0) (by decide) hv3 R2 R4 (by omega) (by omega) (by omega) (by omega) nu nl) (fun r h4 q => ?_)
        obtain ⟨rfl, v4, hv4, e0, ej, f4⟩ := q
        dsimp only [Option.toList, List.nil_append]
        have Fa := Fa.keptA f4 da (by simp)
        have Fb := Fb.keptA f4 db (by simp)
        have Fi := Fi.keptA f4 di (by simp)
        have ff := frA_tr ff f4
        have e0' : v4 0 = (g : Int) := by
          rw [e0, eg]
          rfl
        have c_s : h4[s]? = some (arCell s) := (hv4).1
        unfold arCell at c_s
        have R0 : isW h4 (s + 1) (s + 2) 128 _ := hv4.2 0 (by decide)
        have R2 : isW h4 (s + 5) (s + 6) 128 _ := hv4.2 2 (by decide)
        have R4 : isW h4 (s + 9) (s + 10) 128 _ := hv4.2 4 (by decide)
        rw [ej 2 (by decide) (by decide), updI_n (by decide), updI_s] at R2
        rw [ej 4 (by decide) (by decide), updI_s] at R4
        rw [e0'] at R0
        have gl : g ≤ a.den * c.den := by
          rw [eg]
          exact Nat.gcd_le_right _ (Nat.mul_pos hal hcl)
        have gB : (g : Int) < 1000000000 ^ 127 := by
          have : ((a.den * c.den : Nat) : Int) = (a.den : Int) * c.den := Int.natCast_mul _ _
          omega
        have g0 : (0 : Int) < (g : Int) := by have := hm.2.2.2; omega
        have q1 : (a.num.natAbs : Int) * (c.num.natAbs : Int) / (g : Int) = (((a * c).num.natAbs : Nat) : Int) := by rw [hm.1]; rfl
        have q2 : (a.den : Int) * (c.den : Int) / (g : Int) = (((a * c).den : Nat) : Int) := by rw [hm.2.1]; rfl
        have fit1 : (a.num.natAbs : Int) * (c.num.natAbs : Int) < 1000000000 ^ (ci - 1) * (g : Int) := (Int.ediv_lt_iff_lt_mul g0).mp (by rw [q1]; exact fit.1)
        have fit2 : (a.den : Int) * (c.den : Int) < 1000000000 ^ (ci - 1) * (g : Int) := (Int.ediv_lt_iff_lt_mul g0).mp (by rw [q2]; exact fit.2)
        obtain ⟨i_c, i_u, i_l⟩ := id Fi
        refine wr_aload_n rfl rfl rfl ?_
        refine wr_aload_n rfl rfl rfl ?_
        refine wr_get (ci := 8) (f := 1) rfl rfl rfl (by assumption) rfl ?_
        refine wr_aload_n rfl rfl rfl ?_
        refine wr_get (ci := 4) (f := 2) rfl rfl rfl (by assumption) rfl ?_
        refine wr_aload_n rfl rfl rfl ?_
        refine wr_get (ci := 4) (f := 0) rfl rfl rfl (by assumption) rfl ?_
        refine wr_cv3 (k' := 89) (ci := 4) rfl rfl rfl rfl (by assumption) rfl rfl (ar_divX hv4 i_u R2 R0 g0 (by omega) (by omega) ⟨by omega, hci.2⟩ (by simp only [sepA, sepF] at di; omega) (by omega) (by omega) nu gB fit1) (fun r h5 q => ?_)
        obtain ⟨rfl, iu5, ⟨v5, hv5, -, ej5⟩, f5⟩ := q
        dsimp only [Option.toList, List.nil_append]
        rw [q1] at iu5
        have ic5 : h5[fi]? = some _ := (f5.2 fi (by simp only [sepA, sepF] at di; omega) (by simp)).trans i_c
        have il5 := i_l.keptA f5 (by simp only [sepA, sepF] at di; omega) (by simp only [sepA, sepF] at di; omega) (by simp) (by simp)
        have ac5 : h5[fa]? = some _ := (f5.2 fa (by simp only [sepA, sepF] at da; omega) (by simp only [sepA, sepF] at dia; simp; omega)).trans Fa.1
        have bc5 : h5[fb]? = some _ := (f5.2 fb (by simp only [sepA, sepF] at db; omega) (by simp only [sepA, sepF] at dib; simp; omega)).trans Fb.1
        have c_s : h5[s]? = some (arCell s) := (hv5).1
        unfold arCell at c_s
        have R0 : isW h5 (s + 1) (s + 2) 128 _ := hv5.2 0 (by decide)
        have R4 : isW h5 (s + 9) (s + 10) 128 _ := hv5.2 4 (by decide)
        rw [ej5 4 (by decide) (by decide), ej 4 (by decide) (by decide), updI_s] at R4
        rw [ej5 0 (by decide) (by decide), e0'] at R0
        refine wr_aload_n rfl rfl rfl ?_
        refine wr_aload_n rfl rfl rfl ?_
        refine wr_get (ci := 8) (f := 2) rfl rfl rfl (by assumption) rfl ?_
        refine wr_aload_n rfl rfl rfl ?_
        refine wr_get (ci := 4) (f := 4) rfl rfl rfl (by assumption) rfl ?_
        refine wr_aload_n rfl rfl rfl ?_
        refine wr_get (ci := 4) (f := 0) rfl rfl rfl (by assumption) rfl ?_
        refine wr_cv3 (k' := 89) (ci := 4) rfl rfl rfl rfl (by assumption) rfl rfl (ar_divX hv5 il5 R4 R0 g0 (by omega) (by omega) ⟨by omega, hci.2⟩ (by simp only [sepA, sepF] at di; omega) (by omega) (by omega) nl gB fit2) (fun r h6 q => ?_)
        obtain ⟨rfl, il6, ⟨v6, hv6, -, ej6⟩, f6⟩ := q
        dsimp only [Option.toList, List.nil_append]
        rw [q2] at il6
        have ic6 : h6[fi]? = some _ := (f6.2 fi (by simp only [sepA, sepF] at di; omega) (by simp)).trans ic5
        have iu6 := iu5.keptA f6 (by simp only [sepA, sepF] at di; omega) (by simp only [sepA, sepF] at di; omega) (by simp) (by simp)
        have ac6 : h6[fa]? = some _ := (f6.2 fa (by simp only [sepA, sepF] at da; omega) (by simp only [sepA, sepF] at dia; simp; omega)).trans ac5
        have bc6 : h6[fb]? = some _ := (f6.2 fb (by simp only [sepA, sepF] at db; omega) (by simp only [sepA, sepF] at dib; simp; omega)).trans bc5
        refine wr_aload_n rfl rfl rfl ?_
        refine wr_aload_n rfl rfl rfl ?_
        refine wr_get (ci := 8) (f := 0) rfl rfl rfl (by assumption) rfl ?_
        refine wr_aload_n rfl rfl rfl ?_
        refine wr_get (ci := 8) (f := 0) rfl rfl rfl (by assumption) rfl ?_
        refine wr_imul rfl rfl ?_
        refine wr_putI (ci := 8) (f := 0) (fs' := [_, _, _]) rfl rfl rfl (by assumption) rfl rfl rfl (fun h1 e1 => ?_)
        have f7 : fr [fi] h6 h1 := by
          rw [e1]
          exact ⟨by simp, fun i hi => am_set_n (fun q => hi (by simp [q]))⟩
        refine wr_vret rfl rfl ?_
        refine ⟨rfl, ⟨?_, iu6.kept f7 (by simp) (by simp), il6.kept f7 (by simp) (by simp)⟩, ⟨v6, hv6.ext f7 (by unfold sepA at di; simp; omega)⟩, ?_⟩
        · rw [e1, hm.2.2.1, cB.2.2]
          exact am_set_s ic6
        · exact frA_tr (frA_tr (frA_tr (frA_wk ff (by simp)) (frA_wk f5 (by simp))) (frA_wk f6 (by simp))) (frA_of f7 (fun i hi => by simp at hi ⊢; omega))
      refine wr_aload_n rfl rfl rfl ?_
      refine wr_get (ci := 4) (f := 4) rfl rfl rfl (by assumption) rfl ?_
      refine wr_aload_n rfl rfl rfl ?_
      refine wr_get (ci := 8) (f := 2) rfl rfl rfl (by assumption) rfl ?_
      refine wr_iload rfl rfl rfl ?_
      rcases hc with ⟨z, ec⟩ | ⟨z, nz, ec⟩
      ·
        refine wr_if_eq rfl rfl rfl (by omega) (fun c50 => ?_) (fun c50 => ?_)
        ·
          refine wr_aload_n rfl rfl rfl ?_
          refine wr_get (ci := 8) (f := 2) rfl rfl rfl (by assumption) rfl ?_
          refine J64 (lb := fb + 4) ?_ (by omega) (by omega)
          rw [ec]
          exact b_l
        · exfalso; omega
      ·
        refine wr_if_eq rfl rfl rfl (by omega) (fun c50 => ?_) (fun c50 => ?_)
        · exfalso; omega
        ·
          refine wr_aload_n rfl rfl rfl ?_
          refine wr_get (ci := 8) (f := 1) rfl rfl rfl (by assumption) rfl ?_
          refine wr_goto rfl rfl ?_
          refine J64 (lb := fb + 2) ?_ (by omega) (by omega)
          rw [ec, (inv_parts nz).2.1]
          exact b_u
    refine wr_aload_n rfl rfl rfl ?_
    refine wr_get (ci := 4) (f := 2) rfl rfl rfl (by assumption) rfl ?_
    refine wr_aload_n rfl rfl rfl ?_
    refine wr_get (ci := 8) (f := 1) rfl rfl rfl (by assumption) rfl ?_
    refine wr_iload rfl rfl rfl ?_
    rcases hc with ⟨z, ec⟩ | ⟨z, nz, ec⟩
    ·
      refine wr_if_eq rfl rfl rfl (by omega) (fun c23 => ?_) (fun c23 => ?_)
      ·
        refine wr_aload_n rfl rfl rfl ?_
        refine wr_get (ci := 8) (f := 1) rfl rfl rfl (by assumption) rfl ?_
        refine J37 (lb := fb + 2) ?_ (by omega) (by omega)
        rw [ec]
        exact b_u
      · exfalso; omega
    ·
      refine wr_if_eq rfl rfl rfl (by omega) (fun c23 => ?_) (fun c23 => ?_)
      · exfalso; omega
      ·
        refine wr_aload_n rfl rfl rfl ?_
        refine wr_get (ci := 8) (f := 2) rfl rfl rfl (by assumption) rfl ?_
        refine wr_goto rfl rfl ?_
        refine J37 (lb := fb + 4) ?_ (by omega) (by omega)
        rw [ec, (inv_parts nz).1]
        exact b_l
  obtain ⟨b_c, b_u, b_l⟩ := id Fb
  refine am_c.of (Nat.le_of_ble_eq_true rfl) ?_
  show am_w _ _ _ (_, [_, _, _, _, _], _, _) _
  refine wr_iload rfl rfl rfl ?_
  rcases hc with ⟨z, ec⟩ | ⟨z, nz, ec⟩
  ·
    refine wr_if_eq rfl rfl rfl (by omega) (fun c2 => ?_) (fun c2 => ?_)
    · exact J13
    · exfalso; omega
  ·
    refine wr_if_eq rfl rfl rfl (by omega) (fun c2 => ?_) (fun c2 => ?_)
    · exfalso; omega
    ·
      have s0 : b.num.sign = 1 ∨ b.num.sign = -1 := by
        rcases Int.lt_trichotomy b.num 0 with q | q | q
        · exact Or.inr (Int.sign_eq_neg_one_of_neg q)
        · exact absurd q nz
        · exact Or.inl (Int.sign_eq_one_of_pos q)
      refine wr_aload_n rfl rfl rfl ?_
      refine wr_get (ci := 8) (f := 0) rfl rfl rfl (by assumption) rfl ?_
      refine wr_if_ne rfl rfl rfl (by omega) (fun c9 => ?_) (fun c9 => ?_)
      · exact J13
      · exfalso; omega
end ARG
end
section
/-! THE CLASS'S FRACTIONS: add -/
section ARH
variable {X : Nat × (Nat → Int32)}
/-- behind the sum's upper part: from 183 on -/
theorem wp_addF_end {d s fi ci fa ca fb cb : Nat} {h0 h : am_H} {v : Nat → Int} {q0 a b b' : Rat} {way bs od sg T : Int} {g k : Nat} (hv : arV h s v) (Fi : isF h fi ci q0) (Fa : isF h fa ca a) (Fb : isF h fb cb b) (di : sepA s fi) (da : sepA s fa) (db : sepA s fb) (hci : 1 ≤ ci ∧ ci ≤ 1000000) (hca : ca ≤ 1000000) (hcb : cb ≤ 1000000) (ff : frA s [] h0 h)
    (ebd : b'.den = b.den) (eg : g = Nat.gcd a.den b'.den) (eT : T = a.num * ((b'.den / g : Nat) : Int) + b'.num * ((a.den / g : Nat) : Int)) (ek : k = Nat.gcd T.natAbs g)
    (r0 : v 0 = (g : Int)) (r4 : v 4 = ((a.den / g : Nat) : Int)) (r6 : v 6 = (T.natAbs : Int)) (hsg : T ≠ 0 → T.sign = sg) (hsg2 : sg = 0 ∨ sg = 1 ∨ sg = -1)
    (gB : (g : Int) < 1000000000 ^ 127) (TB : (T.natAbs : Int) < 1000000000 ^ 127) (bB : (b.den : Int) < 1000000000 ^ 127)
    (fit : ((a + b').num.natAbs : Int) < 1000000000 ^ (ci - 1) ∧ ((a + b').den : Int) < 1000000000 ^ (ci - 1)) :
    am_w X (d + 3) 85 (183, [.ref s, .ref fi, .ref fa, .ref fb, .int (iI way), .int (iI bs), .int (iI od), .int (iI sg)], [], h) (fun r h' => r = none ∧ isF h' fi ci (a + b') ∧ arX h' s ∧ frA s (fL fi) h0 h') := by
  obtain ⟨p1, p2, p3, g0, k0, kb⟩ := rat_add_parts a b' eg eT ek
  have kg : k ≤ g := ek ▸ Nat.gcd_le_right _ g0
  have c_s : h[s]? = some (arCell s) := (hv).1
  unfold arCell at c_s
  have R0 : isW h (s + 1) (s + 2) 128 _ := (hv).2 0 (by decide)
  have R1 : isW h (s + 3) (s + 4) 128 _ := (hv).2 1 (by decide)
  have R6 : isW h (s + 13) (s + 14) 128 _ := (hv).2 6 (by decide)
  rw [r0] at R0
  rw [r6] at R6
  refine wr_aload_n rfl rfl rfl ?_
  refine wr_aload_n rfl rfl rfl ?_
  refine wr_get (ci := 4) (f := 1) rfl rfl rfl (by assumption) rfl ?_
  refine wr_aload_n rfl rfl rfl ?_
  refine wr_get (ci := 4) (f := 6) rfl rfl rfl (by assumption) rfl ?_
  refine wr_aload_n rfl rfl rfl ?_
  refine wr_get (ci := 4) (f := 0) rfl rfl rfl (by assumption) rfl ?_
  refine wr_cv3 (k' := 86) (ci := 4) rfl rfl rfl rfl (by assumption) rfl rfl (wp_findCommon (ki := 1) (by decide) hv R6 R0 (by omega) (by omega) (by omega) (by omega) TB gB) (fun r h2 q => ?_)
  obtain ⟨rfl, v2, hv2, e1, ej, f2⟩ := q
  dsimp only [Option.toList, List.nil_append]
  have Fa := Fa.keptA f2 da (by simp)
  have Fb := Fb.keptA f2 db (by simp)
  have Fi := Fi.keptA f2 di (by simp)
  obtain ⟨a_c, a_u, a_l⟩ := id Fa
  obtain ⟨b_c, b_u, b_l⟩ := id Fb
  have ff := frA_tr ff f2
  have e1' : v2 1 = (k : Int) := by
    rw [e1, ek]
    rfl
  have c_s : h2[s]? = some (arCell s) := (hv2).1
  unfold arCell at c_s
  have R1 : isW h2 (s + 3) (s + 4) 128 _ := (hv2).2 1 (by decide)
  have R5 : isW h2 (s + 11) (s + 12) 128 _ := (hv2).2 5 (by decide)
  rw [e1'] at R1
  have kB : (k : Int) < 1000000000 ^ 127 := by omega
  refine wr_aload_n rfl rfl rfl ?_
  refine wr_aload_n rfl rfl rfl ?_
  refine wr_get (ci := 4) (f := 5) rfl rfl rfl (by assumption) rfl ?_
  refine wr_aload_n rfl rfl rfl ?_
  refine wr_get (ci := 8) (f := 2) rfl rfl rfl (by assumption) rfl ?_
  refine wr_aload_n rfl rfl rfl ?_
  refine wr_get (ci := 4) (f := 1) rfl rfl rfl (by assumption) rfl ?_
  refine wr_cv3 (k' := 89) (ci := 4) rfl rfl rfl rfl (by assumption) rfl rfl (ar_divR (k := 5) hv2 (by decide) (by decide) b_l R1 (by omega) (by omega) (by omega) (by simp only [sepA, sepF] at db; omega) (by omega) bB kB) (fun r h3 q => ?_)
  obtain ⟨rfl, v3, hv3, e5, -, ej3, f3⟩ := q
  dsimp only [Option.toList, List.nil_append]
  have Fa := Fa.keptA f3 da (by simp)
  have Fb := Fb.keptA f3 db (by simp)
  have Fi := Fi.keptA f3 di (by simp)
  obtain ⟨a_c, a_u, a_l⟩ := id Fa
  obtain ⟨b_c, b_u, b_l⟩ := id Fb
  have ff := frA_tr ff f3
  have c_s : h3[s]? = some (arCell s) := (hv3).1
  unfold arCell at c_s
  have R1 : isW h3 (s + 3) (s + 4) 128 _ := (hv3).2 1 (by decide)
  have R6 : isW h3 (s + 13) (s + 14) 128 _ := (hv3).2 6 (by decide)
  rw [ej3 1 (by decide) (by decide) (by decide), e1'] at R1
  rw [ej3 6 (by decide) (by decide) (by decide), ej 6 (by decide) (by decide), r6] at R6
  obtain ⟨i_c, i_u, i_l⟩ := id Fi
  have q1 : (T.natAbs : Int) / (k : Int) = (((a + b').num.natAbs : Nat) : Int) := by rw [p1]; rfl
  have fit1 : (T.natAbs : Int) < 1000000000 ^ (ci - 1) * (k : Int) := (Int.ediv_lt_iff_lt_mul (by omega)).mp (by rw [q1]; exact fit.1)
  refine wr_aload_n rfl rfl rfl ?_
  refine wr_aload_n rfl rfl rfl ?_
  refine wr_get (ci := 8) (f := 1) rfl rfl rfl (by assumption) rfl ?_
  refine wr_aload_n rfl rfl rfl ?_
  refine wr_get (ci := 4) (f := 6) rfl rfl rfl (by assumption) rfl ?_
  refine wr_aload_n rfl rfl rfl ?_
  refine wr_get (ci := 4) (f := 1) rfl rfl rfl (by assumption) rfl ?_
  refine wr_cv3 (k' := 89) (ci := 4) rfl rfl rfl rfl (by assumption) rfl rfl (ar_divX hv3 i_u R6 R1 (by omega) (by omega) (by omega) ⟨by omega, hci.2⟩ (by simp only [sepA, sepF] at di; omega) (by omega) (by omega) TB kB fit1) (fun r h4 q => ?_)
  obtain ⟨rfl, iu4, ⟨v4, hv4, -, ej4⟩, f4⟩ := q
  dsimp only [Option.toList, List.nil_append]
  rw [q1] at iu4
  have ic4 : h4[fi]? = some _ := (f4.2 fi (by simp only [sepA, sepF] at di; omega) (by simp)).trans i_c
  have il4 := i_l.keptA f4 (by simp only [sepA, sepF] at di; omega) (by simp only [sepA, sepF] at di; omega) (by simp) (by simp)
  have c_s : h4[s]? = some (arCell s) := (hv4).1
  unfold arCell at c_s
  have R4 : isW h4 (s + 9) (s + 10) 128 _ := (hv4).2 4 (by decide)
  have R5 : isW h4 (s + 11) (s + 12) 128 _ := (hv4).2 5 (by decide)
  rw [ej4 4 (by decide) (by decide), ej3 4 (by decide) (by decide) (by decide), ej 4 (by decide) (by decide), r4] at R4
  rw [ej4 5 (by decide) (by decide), e5] at R5
  have q2 : ((a.den / g : Nat) : Int) * ((b.den : Int) / (k : Int)) = (((a + b').den : Nat) : Int) := by rw [p2, ebd]; rfl
  obtain ⟨gx, nx, cx, cxl, x1, x2, x3⟩ := id iu4
  obtain ⟨gl, nl, cl, -⟩ := id il4
  refine wr_aload_n rfl rfl rfl ?_
  refine wr_get (ci := 8) (f := 2) rfl rfl rfl (by assumption) rfl ?_
  refine wr_aload_n rfl rfl rfl ?_
  refine wr_get (ci := 4) (f := 4) rfl rfl rfl (by assumption) rfl ?_
  refine wr_aload_n rfl rfl rfl ?_
  refine wr_get (ci := 4) (f := 5) rfl rfl rfl (by assumption) rfl ?_
  refine wr_cv2 (k' := 97) (ci := 5) rfl rfl rfl rfl (by assumption) rfl rfl (wp_product il4 R4 R5 ⟨by omega, hci.2⟩ (by omega) (by omega) (by simp only [sepA, sepF] at di; omega) (by simp only [sepA, sepF] at di; omega) (by rw [q2]; exact fit.2)) (fun r h5 q => ?_)
  obtain ⟨rfl, il5, f5⟩ := q
  dsimp only [Option.toList, List.nil_append]
  rw [q2] at il5
  have ic5 : h5[fi]? = some _ := (f5.2 fi (by simp)).trans ic4
  have iu5 := iu4.kept f5 (by simp) (by simp)
  have cx5 : h5[fi + 1]? = some _ := (f5.2 (fi + 1) (by simp)).trans cx
  have hv5 := hv4.ext f5 (by simp only [sepA] at di; simp; omega)
  have J : ∀ z : Int, z = (a + b').num.sign → am_w X (d + 3) 85 (263, [.ref s, .ref fi, .ref fa, .ref fb, .int (iI way), .int (iI bs), .int (iI od), .int (iI sg)], [.int (iI z), .ref fi], h5) (fun r h' => r = none ∧ isF h' fi ci (a + b') ∧ arX h' s ∧ frA s (fL fi) h0 h') := by
    intro z ez
    refine wr_putI (ci := 8) (f := 0) (fs' := [_, _, _]) rfl rfl rfl (by assumption) rfl rfl rfl (fun h1 e1 => ?_)
    have f7 : fr [fi] h5 h1 := by
      rw [e1]
      exact ⟨by simp, fun i hi => am_set_n (fun q => hi (by simp [q]))⟩
    refine wr_vret rfl rfl ?_
    refine ⟨rfl, ⟨?_, iu5.kept f7 (by simp) (by simp), il5.kept f7 (by simp) (by simp)⟩, ⟨v4, hv5.ext f7 (by simp only [sepA] at di; simp; omega)⟩, ?_⟩
    · rw [e1, ez]
      exact am_set_s ic5
    · exact frA_tr (frA_tr (frA_tr (frA_wk ff (by simp)) (frA_wk f4 (by simp))) (frA_of f5 (fun i hi => by simp at hi ⊢; omega))) (frA_of f7 (fun i hi => by simp at hi ⊢; omega))
  refine wr_aload_n rfl rfl rfl ?_
  refine wr_aload_n rfl rfl rfl ?_
  refine wr_get (ci := 8) (f := 1) rfl rfl rfl (by assumption) rfl ?_
  refine wr_get (ci := 5) (f := 1) rfl rfl rfl (by assumption) rfl ?_
  refine wr_if_le rfl rfl rfl (by omega) (fun c254 => ?_) (fun c254 => ?_)
  ·
    refine wr_iconst rfl rfl ?_
    refine J 0 ?_
    have : nx = 0 := by omega
    subst this
    have x4 : nv gx 0 = 0 := rfl
    have x5 : (a + b').num = 0 := by omega
    rw [x5]
    rfl
  ·
    refine wr_iload rfl rfl rfl ?_
    refine wr_goto rfl rfl ?_
    refine J sg ?_
    have x4 := nv_low x2 (by omega)
    have x5 := bp_pos (nx - 1)
    have x6 : T ≠ 0 := by
      intro e
      rw [e] at p1
      have : (a + b').num.natAbs = 0 := by rw [p1]; simp
      omega
    rw [p3, hsg x6]
set_option maxHeartbeats 4000000 in
theorem wp_addF {d s fi ci fa ca fb cb P R : Nat} {h : am_H} {v : Nat → Int} {q0 a b b' : Rat} {way : Int} (hv : arV h s v) (Fi : isF h fi ci q0) (Fa : isF h fa ca a) (Fb : isF h fb cb b) (hw : -1 ≤ way ∧ way ≤ 1) (ebd : b'.den = b.den) (ebn : b'.num.natAbs = b.num.natAbs) (ebs : b'.num.sign = b.num.sign * way) (di : sepA s fi) (da : sepA s fa) (db : sepA s fb) (hci : 1 ≤ ci ∧ ci ≤ 1000000) (hca : ca ≤ 1000000) (hcb : cb ≤ 1000000)
    (b1 : (a.num.natAbs : Int) < 1000000000 ^ P ∧ (a.den : Int) < 1000000000 ^ P) (b2 : (b.num.natAbs : Int) < 1000000000 ^ R ∧ (b.den : Int) < 1000000000 ^ R) (hPR : P + R ≤ 126) (fit : ((a + b').num.natAbs : Int) < 1000000000 ^ (ci - 1) ∧ ((a + b').den : Int) < 1000000000 ^ (ci - 1)) :
    am_c X (d + 4) 85 [.ref s, .ref fi, .ref fa, .ref fb, .int (iI way)] h (fun r h' => r = none ∧ isF h' fi ci (a + b') ∧ arX h' s ∧ frA s (fL fi) h h') := by
  obtain ⟨g, eg⟩ : ∃ g, g = Nat.gcd a.den b'.den := ⟨_, rfl⟩
  obtain ⟨T, eT⟩ : ∃ T, T = a.num * ((b'.den / g : Nat) : Int) + b'.num * ((a.den / g : Nat) : Int) := ⟨_, rfl⟩
  obtain ⟨k, ek⟩ : ∃ k, k = Nat.gcd T.natAbs g := ⟨_, rfl⟩
  have ad0 := a.den_pos
  have bd0 := b.den_pos
  have g0 : 0 < g := eg ▸ Nat.gcd_pos_of_pos_left _ ad0
  have ga : g ≤ a.den := eg ▸ Nat.gcd_le_left _ ad0
  have la : a.den / g ≤ a.den := Nat.div_le_self _ _
  have lb : b.den / g ≤ b.den := Nat.div_le_self _ _
  have bp1 := bp_pos P
  have bp2 := bp_pos R
  have mPR := bp_mono (m := P + R) (n := 126) hPR
  have mP := bp_mono (m := P) (n := 127) (by omega)
  have mR := bp_mono (m := R) (n := 127) (by omega)
  have m126 : (1000000000 : Int) ^ 127 = 1000000000 ^ 126 * 1000000000 := Int.pow_succ _ _
  have m128 : (1000000000 : Int) ^ 128 = 1000000000 ^ 127 * 1000000000 := Int.pow_succ _ _
  rw [Int.pow_add] at mPR
  have la0 : 1 ≤ a.den / g := (Nat.le_div_iff_mul_le g0).mpr (by omega)
  have gb : g ≤ b.den := by rw [← ebd]; exact eg ▸ Nat.gcd_le_right _ (by omega)
  have lb0 : 1 ≤ b.den / g := (Nat.le_div_iff_mul_le g0).mpr (by omega)
  have nA : (a.num.natAbs : Int) * ((b.den / g : Nat) : Int) < 1000000000 ^ 126 := by
    have y1 : (a.num.natAbs : Int) * ((b.den / g : Nat) : Int) ≤ (a.num.natAbs : Int) * 1000000000 ^ R := Int.mul_le_mul_of_nonneg_left (by omega) (by omega)
    have y2 : (a.num.natAbs : Int) * 1000000000 ^ R < 1000000000 ^ P * 1000000000 ^ R := Int.mul_lt_mul_of_pos_right b1.1 bp2
    omega
  have nB : (b.num.natAbs : Int) * ((a.den / g : Nat) : Int) < 1000000000 ^ 126 := by
    have y1 : (b.num.natAbs : Int) * ((a.den / g : Nat) : Int) ≤ (b.num.natAbs : Int) * 1000000000 ^ P := Int.mul_le_mul_of_nonneg_left (by omega) (by omega)
    have y2 : (b.num.natAbs : Int) * 1000000000 ^ P < 1000000000 ^ R * 1000000000 ^ P := Int.mul_lt_mul_of_pos_right b2.1 bp1
    have y3 : (1000000000 : Int) ^ R * 1000000000 ^ P = 1000000000 ^ P * 1000000000 ^ R := Int.mul_comm _ _
    omega
  obtain ⟨x, ex⟩ : ∃ x, x = a.num * ((b'.den / g : Nat) : Int) := ⟨_, rfl⟩
  obtain ⟨y, ey⟩ : ∃ y, y = b'.num * ((a.den / g : Nat) : Int) := ⟨_, rfl⟩
  rw [← ex, ← ey] at eT
  have ax : (x.natAbs : Int) = (a.num.natAbs : Int) * ((b.den / g : Nat) : Int) := by rw [ex, ebd, Int.natAbs_mul, Int.natAbs_natCast, Int.natCast_mul]
  have ay : (y.natAbs : Int) = (b.num.natAbs : Int) * ((a.den / g : Nat) : Int) := by rw [ey, Int.natAbs_mul, Int.natAbs_natCast, Int.natCast_mul, ebn]
  have sx : x.sign = a.num.sign := by rw [ex, Int.sign_mul, ebd, Int.sign_eq_one_of_pos (show (0 : Int) < ((b.den / g : Nat) : Int) by omega), Int.mul_one]
  have sy : y.sign = b'.num.sign := by rw [ey, Int.sign_mul, Int.sign_eq_one_of_pos (show (0 : Int) < ((a.den / g : Nat) : Int) by omega), Int.mul_one]
  obtain ⟨S1, S2, S3⟩ := sgn_sum (x := x) (y := y)
  rw [← eT] at S1 S2 S3
  rw [sx, sy] at S1 S2 S3
  have sgr : ∀ z : Int, z.sign = 0 ∨ z.sign = 1 ∨ z.sign = -1 := by
    intro z
    rcases Int.lt_trichotomy z 0 with q | q | q
    · exact Or.inr (Or.inr (Int.sign_eq_neg_one_of_neg q))
    · exact Or.inl (by rw [q]; rfl)
    · exact Or.inr (Or.inl (Int.sign_eq_one_of_pos q))
  have sa := fun _ : Unit => sgr a.num
  have sb := fun _ : Unit => sgr b'.num
  rw [← ax] at nA
  rw [← ay] at nB
  have aB : (a.den : Int) < 1000000000 ^ 127 := by omega
  have bB : (b.den : Int) < 1000000000 ^ 127 := by omega
  have gB : (g : Int) < 1000000000 ^ 127 := by omega
  have TB : (T.natAbs : Int) < 1000000000 ^ 127 := by omega
  have mz : -1 ≤ a.num.sign * b'.num.sign ∧ a.num.sign * b'.num.sign ≤ 1 := by
    rcases sa () with q | q | q <;> rcases sb () with r | r | r <;> rw [q, r] <;> decide
  clear b1 b2 mP mR mPR bp1 bp2 la lb ga gb la0 lb0
  obtain ⟨a_c, a_u, a_l⟩ := id Fa
  obtain ⟨b_c, b_u, b_l⟩ := id Fb
  have c_s : h[s]? = some (arCell s) := (hv).1
  unfold arCell at c_s
  refine am_c.of (Nat.le_of_ble_eq_true rfl) ?_
  show am_w _ _ _ (_, [_, _, _, _, _, _, _, _], _, _) _
  refine wr_aload_n rfl rfl rfl ?_
  refine wr_aload_n rfl rfl rfl ?_
  refine wr_get (ci := 4) (f := 0) rfl rfl rfl (by assumption) rfl ?_
  refine wr_aload_n rfl rfl rfl ?_
  refine wr_get (ci := 8) (f := 2) rfl rfl rfl (by assumption) rfl ?_
  refine wr_aload_n rfl rfl rfl ?_
  refine wr_get (ci := 8) (f := 2) rfl rfl rfl (by assumption) rfl ?_
  refine wr_cv3 (k' := 86) (ci := 4) rfl rfl rfl rfl (by assumption) rfl rfl (wp_findCommon (ki := 0) (by decide) hv a_l b_l hca hcb (by simp only [sepA, sepF] at da; omega) (by simp only [sepA, sepF] at db; omega) aB bB) (fun r h2 q => ?_)
  obtain ⟨rfl, v2, hv2, e0, -, f2⟩ := q
  dsimp only [Option.toList, List.nil_append]
  have Fa := Fa.keptA f2 da (by simp)
  have Fb := Fb.keptA f2 db (by simp)
  have Fi := Fi.keptA f2 di (by simp)
  obtain ⟨a_c, a_u, a_l⟩ := id Fa
  obtain ⟨b_c, b_u, b_l⟩ := id Fb
  have e0' : v2 0 = (g : Int) := by
    rw [e0, eg, ebd]
    rfl
  have c_s : h2[s]? = some (arCell s) := (hv2).1
  unfold arCell at c_s
  have R0 : isW h2 (s + 1) (s + 2) 128 _ := (hv2).2 0 (by decide)
  rw [e0'] at R0
  refine wr_aload_n rfl rfl rfl ?_
  refine wr_aload_n rfl rfl rfl ?_
  refine wr_get (ci := 4) (f := 4) rfl rfl rfl (by assumption) rfl ?_
  refine wr_aload_n rfl rfl rfl ?_
  refine wr_get (ci := 8) (f := 2) rfl rfl rfl (by assumption) rfl ?_
  refine wr_aload_n rfl rfl rfl ?_
  refine wr_get (ci := 4) (f := 0) rfl rfl rfl (by assumption) rfl ?_
  refine wr_cv3 (k' := 89) (ci := 4) rfl rfl rfl rfl (by assumption) rfl rfl (ar_divR (k := 4) hv2 (by decide) (by decide) a_l R0 (by omega) (by omega) (by omega) (by simp only [sepA, sepF] at da; omega) (by omega) aB gB) (fun r h3 q => ?_)
  obtain ⟨rfl, v3, hv3, e4, -, ej3, f3⟩ := q
  dsimp only [Option.toList, List.nil_append]
  have Fa := Fa.keptA f3 da (by simp)
  have Fb := Fb.keptA f3 db (by simp)
  have Fi := Fi.keptA f3 di (by simp)
  obtain ⟨a_c, a_u, a_l⟩ := id Fa
  obtain ⟨b_c, b_u, b_l⟩ := id Fb
  have ff := frA_tr f2 f3
  have c_s : h3[s]? = some (arCell s) := (hv3).1
  unfold arCell at c_s
  have R0 : isW h3 (s + 1) (s + 2) 128 _ := (hv3).2 0 (by decide)
  rw [ej3 0 (by decide) (by decide) (by decide), e0'] at R0
  refine wr_aload_n rfl rfl rfl ?_
  refine wr_aload_n rfl rfl rfl ?_
  refine wr_get (ci := 4) (f := 5) rfl rfl rfl (by assumption) rfl ?_
  refine wr_aload_n rfl rfl rfl ?_
  refine wr_get (ci := 8) (f := 2) rfl rfl rfl (by assumption) rfl ?_
  refine wr_aload_n rfl rfl rfl ?_
  refine wr_get (ci := 4) (f := 0) rfl rfl rfl (by assumption) rfl ?_
  refine wr_cv3 (k' := 89) (ci := 4) rfl rfl rfl rfl (by assumption) rfl rfl (ar_divR (k := 5) hv3 (by decide) (by decide) b_l R0 (by omega) (by omega) (by omega) (by simp only [sepA, sepF] at db; omega) (by omega) bB gB) (fun r h4 q => ?_)
  obtain ⟨rfl, v4, hv4, e5, -, ej4, f4⟩ := q
  dsimp only [Option.toList, List.nil_append]
  have Fa := Fa.keptA f4 da (by simp)
  have Fb := Fb.keptA f4 db (by simp)
  have Fi := Fi.keptA f4 di (by simp)
  obtain ⟨a_c, a_u, a_l⟩ := id Fa
  obtain ⟨b_c, b_u, b_l⟩ := id Fb
  have ff := frA_tr ff f4
  have r0 : v4 0 = (g : Int) := by rw [ej4 0 (by decide) (by decide) (by decide), ej3 0 (by decide) (by decide) (by decide), e0']
  have r4 : v4 4 = ((a.den / g : Nat) : Int) := by
    rw [ej4 4 (by decide) (by decide) (by decide), e4]
    rfl
  have r5 : v4 5 = ((b.den / g : Nat) : Int) := by
    rw [e5]
    rfl
  have c_s : h4[s]? = some (arCell s) := (hv4).1
  unfold arCell at c_s
  have R2 : isW h4 (s + 5) (s + 6) 128 _ := (hv4).2 2 (by decide)
  have R5 : isW h4 (s + 11) (s + 12) 128 _ := (hv4).2 5 (by decide)
  rw [r5] at R5
  obtain ⟨g2, n2, d2, -⟩ := id R2
  have nA' := nA
  rw [ax] at nA'
  have nB' := nB
  rw [ay] at nB'
  refine wr_aload_n rfl rfl rfl ?_
  refine wr_get (ci := 4) (f := 2) rfl rfl rfl (by assumption) rfl ?_
  refine wr_aload_n rfl rfl rfl ?_
  refine wr_get (ci := 8) (f := 1) rfl rfl rfl (by assumption) rfl ?_
  refine wr_aload_n rfl rfl rfl ?_
  refine wr_get (ci := 4) (f := 5) rfl rfl rfl (by assumption) rfl ?_
  refine wr_cv2 (k' := 97) (ci := 5) rfl rfl rfl rfl (by assumption) rfl rfl (ar_prod (k := 2) hv4 (by decide) a_u R5 hca (by omega) (by simp only [sepA, sepF] at da; omega) (by omega) (by omega)) (fun r h5 q => ?_)
  obtain ⟨rfl, hv5, f5⟩ := q
  dsimp only [Option.toList, List.nil_append]
  have Fa := Fa.keptA f5 da (by simp)
  have Fb := Fb.keptA f5 db (by simp)
  have Fi := Fi.keptA f5 di (by simp)
  obtain ⟨a_c, a_u, a_l⟩ := id Fa
  obtain ⟨b_c, b_u, b_l⟩ := id Fb
  have ff := frA_tr ff f5
  have c_s : h5[s]? = some (arCell s) := (hv5).1
  unfold arCell at c_s
  have R3 : isW h5 (s + 7) (s + 8) 128 _ := (hv5).2 3 (by decide)
  have R4 : isW h5 (s + 9) (s + 10) 128 _ := (hv5).2 4 (by decide)
  rw [updI_n (by decide), r4] at R4
  obtain ⟨g3, n3, d3, -⟩ := id R3
  refine wr_aload_n rfl rfl rfl ?_
  refine wr_get (ci := 4) (f := 3) rfl rfl rfl (by assumption) rfl ?_
  refine wr_aload_n rfl rfl rfl ?_
  refine wr_get (ci := 8) (f := 1) rfl rfl rfl (by assumption) rfl ?_
  refine wr_aload_n rfl rfl rfl ?_
  refine wr_get (ci := 4) (f := 4) rfl rfl rfl (by assumption) rfl ?_
  refine wr_cv2 (k' := 97) (ci := 5) rfl rfl rfl rfl (by assumption) rfl rfl (ar_prod (k := 3) hv5 (by decide) b_u R4 hcb (by omega) (by simp only [sepA, sepF] at db; omega) (by omega) (by omega)) (fun r h6 q => ?_)
  obtain ⟨rfl, hv6, f6⟩ := q
  dsimp only [Option.toList, List.nil_append]
  have Fa := Fa.keptA f6 da (by simp)
  have Fb := Fb.keptA f6 db (by simp)
  have Fi := Fi.keptA f6 di (by simp)
  obtain ⟨a_c, a_u, a_l⟩ := id Fa
  obtain ⟨b_c, b_u, b_l⟩ := id Fb
  have ff := frA_tr ff f6
  rw [← ax, ← ay] at hv6
  have c_s : h6[s]? = some (arCell s) := (hv6).1
  unfold arCell at c_s
  have R2 : isW h6 (s + 5) (s + 6) 128 _ := (hv6).2 2 (by decide)
  have R3 : isW h6 (s + 7) (s + 8) 128 _ := (hv6).2 3 (by decide)
  have R6 : isW h6 (s + 13) (s + 14) 128 _ := (hv6).2 6 (by decide)
  rw [updI_n (by decide), updI_s] at R2
  rw [updI_s] at R3
  obtain ⟨g2, n2, d2, -⟩ := id R2
  obtain ⟨g3, n3, d3, -⟩ := id R3
  obtain ⟨g6, n6, c6, -⟩ := id R6
  refine wr_aload_n rfl rfl rfl ?_
  refine wr_get (ci := 8) (f := 0) rfl rfl rfl (by assumption) rfl ?_
  refine wr_iload rfl rfl rfl ?_
  refine wr_imul rfl rfl ?_
  refine wr_istore (ls' := [_, _, _, _, _, _, _, _]) rfl rfl (Nat.le_of_ble_eq_true rfl) rfl ?_
  refine wr_aload_n rfl rfl rfl ?_
  refine wr_get (ci := 4) (f := 2) rfl rfl rfl (by assumption) rfl ?_
  refine wr_aload_n rfl rfl rfl ?_
  refine wr_get (ci := 4) (f := 3) rfl rfl rfl (by assumption) rfl ?_
  refine wr_cv1 (k' := 98) (ci := 5) rfl rfl rfl rfl (by assumption) rfl rfl (wp_compare R2 R3 (by omega) (by omega)) (fun r h7 q => ?_)
  obtain ⟨rfl, hh⟩ := q
  rw [hh, ← ebs]
  clear hh h7
  dsimp only [Option.toList, List.cons_append, List.nil_append]
  have cc := cmpI_cases (x.natAbs : Int) (y.natAbs : Int)
  obtain ⟨od, eo⟩ : ∃ od, od = cmpI (x.natAbs : Int) (y.natAbs : Int) := ⟨_, rfl⟩
  rw [← eo] at cc ⊢
  have c1 : -1 ≤ od ∧ od ≤ 1 := by omega
  have c2 : od < 0 → (x.natAbs : Int) < y.natAbs := by omega
  have c3 : 0 ≤ od → (y.natAbs : Int) ≤ x.natAbs := by omega
  clear cc eo
  have END : ∀ (h7 : am_H) (v7 : Nat → Int) (sg : Int), arV h7 s v7 → frA s [] h6 h7 → v7 0 = (g : Int) → v7 4 = ((a.den / g : Nat) : Int) → v7 6 = (T.natAbs : Int) → (T ≠ 0 → T.sign = sg) → (sg = 0 ∨ sg = 1 ∨ sg = -1) → am_w X (d + 3) 85 (183, [.ref s, .ref fi, .ref fa, .ref fb, .int (iI way), .int (iI b'.num.sign), .int (iI od), .int (iI sg)], [], h7) (fun r h' => r = none ∧ isF h' fi ci (a + b') ∧ arX h' s ∧ frA s (fL fi) h h') := by
    intro h7 v7 sg hv7 f7 r0 r4 r6 s1 s2
    have Fa := Fa.keptA f7 da (by simp)
    have Fb := Fb.keptA f7 db (by simp)
    have Fi := Fi.keptA f7 di (by simp)
    obtain ⟨a_c, a_u, a_l⟩ := id Fa
    obtain ⟨b_c, b_u, b_l⟩ := id Fb
    exact wp_addF_end hv7 Fi Fa Fb di da db hci hca hcb (frA_tr ff f7) ebd eg (by rw [eT, ex, ey]) ek r0 r4 r6 s1 s2 gB TB bB fit
  have J : ∀ sg : Int, sg = (if (y.natAbs : Int) ≤ x.natAbs then a.num.sign else b'.num.sign) → am_w X (d + 3) 85 (114, [.ref s, .ref fi, .ref fa, .ref fb, .int (iI way), .int (iI b'.num.sign), .int (iI od), am_U], [.int (iI sg)], h6) (fun r h' => r = none ∧ isF h' fi ci (a + b') ∧ arX h' s ∧ frA s (fL fi) h h') := by
    intro sg esg
    have s1 : T ≠ 0 → T.sign = sg := fun q => by rw [esg]; exact S3 q
    have s2 : sg = 0 ∨ sg = 1 ∨ sg = -1 := by
      rw [esg]
      split
      · exact sa ()
      · exact sb ()
    refine wr_istore (ls' := [_, _, _, _, _, _, _, _]) rfl rfl (Nat.le_of_ble_eq_true rfl) rfl ?_
    refine wr_aload_n rfl rfl rfl ?_
    refine wr_get (ci := 8) (f := 0) rfl rfl rfl (by assumption) rfl ?_
    refine wr_iload rfl rfl rfl ?_
    refine wr_imul rfl rfl ?_
    refine wr_if_lt rfl rfl rfl (by omega) (fun c123 => ?_) (fun c123 => ?_)
    ·
      have eA := S2 (by omega)
      refine wr_aload_n rfl rfl rfl ?_
      refine wr_get (ci := 4) (f := 6) rfl rfl rfl (by assumption) rfl ?_
      refine wr_iload rfl rfl rfl ?_
      refine wr_if_lt rfl rfl rfl (by omega) (fun c150 => ?_) (fun c150 => ?_)
      ·
        refine wr_aload_n rfl rfl rfl ?_
        refine wr_get (ci := 4) (f := 3) rfl rfl rfl (by assumption) rfl ?_
        refine wr_iload rfl rfl rfl ?_
        refine wr_if_lt rfl rfl rfl (by omega) (fun c166 => ?_) (fun c166 => ?_)
        ·
          refine wr_aload_n rfl rfl rfl ?_
          refine wr_get (ci := 4) (f := 2) rfl rfl rfl (by assumption) rfl ?_
          rw [if_neg (by omega)] at eA
          refine wr_cv2 (k' := 100) (ci := 5) rfl rfl rfl rfl (by assumption) rfl rfl (ar_diff (k := 6) hv6 (by decide) R3 R2 (by omega) (by omega) (by omega) (by omega) (by omega) (by omega)) (fun r h7 q => ?_)
          obtain ⟨rfl, hv7, f7⟩ := q
          dsimp only [Option.toList, List.nil_append]
          exact END h7 _ sg hv7 f7 (by rw [updI_n (by decide), updI_n (by decide), updI_n (by decide), r0]) (by rw [updI_n (by decide), updI_n (by decide), updI_n (by decide), r4]) (by rw [updI_s, eA]) s1 s2
        · exfalso; omega
      ·
        refine wr_aload_n rfl rfl rfl ?_
        refine wr_get (ci := 4) (f := 2) rfl rfl rfl (by assumption) rfl ?_
        refine wr_goto rfl rfl ?_
        refine wr_iload rfl rfl rfl ?_
        refine wr_if_lt rfl rfl rfl (by omega) (fun c166 => ?_) (fun c166 => ?_)
        · exfalso; omega
        ·
          refine wr_aload_n rfl rfl rfl ?_
          refine wr_get (ci := 4) (f := 3) rfl rfl rfl (by assumption) rfl ?_
          refine wr_goto rfl rfl ?_
          rw [if_pos (by omega)] at eA
          refine wr_cv2 (k' := 100) (ci := 5) rfl rfl rfl rfl (by assumption) rfl rfl (ar_diff (k := 6) hv6 (by decide) R2 R3 (by omega) (by omega) (by omega) (by omega) (by omega) (by omega)) (fun r h7 q => ?_)
          obtain ⟨rfl, hv7, f7⟩ := q
          dsimp only [Option.toList, List.nil_append]
          exact END h7 _ sg hv7 f7 (by rw [updI_n (by decide), updI_n (by decide), updI_n (by decide), r0]) (by rw [updI_n (by decide), updI_n (by decide), updI_n (by decide), r4]) (by rw [updI_s, eA]) s1 s2
    ·
      have eA := S1 (by omega)
      refine wr_aload_n rfl rfl rfl ?_
      refine wr_get (ci := 4) (f := 6) rfl rfl rfl (by assumption) rfl ?_
      refine wr_aload_n rfl rfl rfl ?_
      refine wr_get (ci := 4) (f := 2) rfl rfl rfl (by assumption) rfl ?_
      refine wr_aload_n rfl rfl rfl ?_
      refine wr_get (ci := 4) (f := 3) rfl rfl rfl (by assumption) rfl ?_
      refine wr_cv2 (k' := 99) (ci := 5) rfl rfl rfl rfl (by assumption) rfl rfl (ar_sum (k := 6) hv6 (by decide) R2 R3 (by omega) (by omega) (by omega) (by omega)) (fun r h7 q => ?_)
      obtain ⟨rfl, hv7, f7⟩ := q
      dsimp only [Option.toList, List.nil_append]
      refine wr_goto rfl rfl ?_
      exact END h7 _ sg hv7 f7 (by rw [updI_n (by decide), updI_n (by decide), updI_n (by decide), r0]) (by rw [updI_n (by decide), updI_n (by decide), updI_n (by decide), r4]) (by rw [updI_s, eA]) s1 s2
  refine wr_istore (ls' := [_, _, _, _, _, _, _, _]) rfl rfl (Nat.le_of_ble_eq_true rfl) rfl ?_
  refine wr_iload rfl rfl rfl ?_
  refine wr_if_lt rfl rfl rfl (by omega) (fun c102 => ?_) (fun c102 => ?_)
  ·
    refine wr_iload rfl rfl rfl ?_
    exact J _ (by rw [if_neg (by omega)])
  ·
    refine wr_aload_n rfl rfl rfl ?_
    refine wr_get (ci := 8) (f := 0) rfl rfl rfl (by assumption) rfl ?_
    refine wr_goto rfl rfl ?_
    exact J _ (by rw [if_pos (by omega)])
end ARH
end
section
/-! THE CLASS'S GROUND -/
abbrev cGr : Nat := 3
/-- a truth as the machine has it -/
def b2 (p : Prop) [Decidable p] : Int := if p then 1 else 0
theorem b2_t {p : Prop} [Decidable p] (h : p) : b2 p = 1 := if_pos h
theorem b2_f {p : Prop} [Decidable p] (h : ¬ p) : b2 p = 0 := if_neg h
theorem b2_in (p : Prop) [Decidable p] : 0 ≤ b2 p ∧ b2 p ≤ 1 := by unfold b2; split <;> decide
/-- one cell set -/
theorem fr_set1 {h : am_H} {a : Nat} {c : va_E} : fr [a] h (h.set a c) := ⟨by simp, fun i hi => am_set_n (fun q => hi (by simp [q]))⟩
/-- the ground at g: n points -/
def isG (h : am_H) (g n : Nat) (off lev : Nat → Int) : Prop := h[g]? = some (.inr (cGr, [.ref (g + 1), .ref (g + 2), .int (iI n)])) ∧ h[g + 1]? = some (am_ia 12 off) ∧ h[g + 2]? = some (am_ia 12 lev)
def okG (n : Nat) (off lev : Nat → Int) : Prop := n ≤ 12 ∧ (∀ i, -100000 ≤ off i ∧ off i ≤ 100000) ∧ (∀ i, -100000 ≤ lev i ∧ lev i ≤ 100000) ∧ (∀ i j, i < j → j < n → off i < off j)
theorem isG.kept {h h' : am_H} {g n : Nat} {off lev : Nat → Int} {S : List Nat} (w : isG h g n off lev) (e : fr S h h') (hS : ∀ i ∈ S, i < g ∨ g + 2 < i) : isG h' g n off lev :=
  ⟨by rw [e.2 g (fun q => by have := hS _ q; omega)]; exact w.1, by rw [e.2 (g + 1) (fun q => by have := hS _ q; omega)]; exact w.2.1, by rw [e.2 (g + 2) (fun q => by have := hS _ q; omega)]; exact w.2.2⟩
/-- how many points are not beyond o, looked for from the i-th of m on -/
def gkF (off : Nat → Int) (o : Int) : Nat → Nat → Nat
  | 0, i => i
  | m + 1, i => if off i ≤ o then gkF off o m (i + 1) else i
def gk (n : Nat) (off : Nat → Int) (o : Int) : Nat := gkF off o n 0
theorem gkF_spec {off : Nat → Int} {o : Int} : ∀ (m i : Nat), i ≤ gkF off o m i ∧ gkF off o m i ≤ i + m ∧ (∀ j, i ≤ j → j < gkF off o m i → off j ≤ o) ∧ (gkF off o m i < i + m → o < off (gkF off o m i))
  | 0, i => ⟨Nat.le_refl _, Nat.le_refl _, fun j a b => by simp only [gkF] at b; omega, fun q => by simp only [gkF] at q; omega⟩
  | m + 1, i => by
    unfold gkF
    by_cases c : off i ≤ o
    · rw [if_pos c]
      obtain ⟨a1, a2, a3, a4⟩ := gkF_spec (off := off) (o := o) m (i + 1)
      refine ⟨by omega, by omega, fun j h1 h2 => ?_, fun q => a4 (by omega)⟩
      by_cases e : j = i
      · subst e; exact c
      · exact a3 j (by omega) h2
    · rw [if_neg c]
      exact ⟨Nat.le_refl _, by omega, fun j h1 h2 => by omega, fun _ => by omega⟩
theorem gk_spec (n : Nat) (off : Nat → Int) (o : Int) : gk n off o ≤ n ∧ (∀ j, j < gk n off o → off j ≤ o) ∧ (gk n off o < n → o < off (gk n off o)) := by
  have := gkF_spec (off := off) (o := o) n 0
  unfold gk
  refine ⟨by omega, fun j h => this.2.2.1 j (by omega) h, fun h => this.2.2.2 (by omega)⟩
/-- the ground's level at o: gU over gL -/
def gL (n : Nat) (off : Nat → Int) (o : Int) : Int := if 0 < gk n off o ∧ gk n off o < n then off (gk n off o) - off (gk n off o - 1) else 1
def gU (n : Nat) (off lev : Nat → Int) (o : Int) : Int := if n = 0 then 0 else if gk n off o = 0 then lev 0 else if n ≤ gk n off o then lev (gk n off o - 1) else lev (gk n off o - 1) * (off (gk n off o) - off (gk n off o - 1)) + (lev (gk n off o) - lev (gk n off o - 1)) * (o - off (gk n off o - 1))
theorem gL_in {n : Nat} {off lev : Nat → Int} {o : Int} (ok : okG n off lev) : 1 ≤ gL n off o ∧ gL n off o ≤ 200000 := by
  have s := gk_spec n off o
  unfold gL
  split
  · rename_i c
    have a1 := ok.2.2.2 (gk n off o - 1) (gk n off o) (by omega) c.2
    have a2 := ok.2.1 (gk n off o)
    have a3 := ok.2.1 (gk n off o - 1)
    omega
  · omega
/-- the next point farther out than pl on the side sg, of the first i; -1 if there is none -/
def gN (off : Nat → Int) (sg pl : Int) : Nat → Int
  | 0 => -1
  | i + 1 => if pl < sg * off i ∧ (gN off sg pl i < 0 ∨ sg * off i < sg * off (gN off sg pl i).toNat) then (i : Int) else gN off sg pl i
theorem gN_in (off : Nat → Int) (sg pl : Int) : ∀ i : Nat, -1 ≤ gN off sg pl i ∧ gN off sg pl i < i
  | 0 => by simp [gN]
  | i + 1 => by
    have := gN_in off sg pl i
    unfold gN
    split <;> omega
section GRD
variable {X : Nat × (Nat → Int32)}
theorem wp_within {d : Nat} {h : am_H} {x lo hi : Int} (hx : -2147483648 ≤ x ∧ x ≤ 2147483647) (hlo : -2147483648 ≤ lo ∧ lo ≤ 2147483647) (hhi : -2147483648 ≤ hi ∧ hi ≤ 2147483647) :
    am_c X (d + 1) 48 [.int (iI x), .int (iI lo), .int (iI hi)] h (fun r h' => r = some (.int (iI (b2 (lo ≤ x ∧ x ≤ hi)))) ∧ h' = h) := by
  refine am_c.of (Nat.le_of_ble_eq_true rfl) ?_
  show am_w _ _ _ (_, [_, _, _], _, _) _
  refine wr_iload_n rfl rfl rfl ?_
  refine wr_iload_n rfl rfl rfl ?_
  refine wr_icmp_lt rfl rfl rfl (by omega) (by omega) (fun c2 => ?_) (fun c2 => ?_)
  ·
    refine wr_iconst rfl rfl ?_
    refine wr_zret rfl rfl (by decide) ?_
    refine ⟨?_, rfl⟩
    first | rw [b2_t (by omega)] | rw [b2_f (by omega)]
  ·
    refine wr_iload_n rfl rfl rfl ?_
    refine wr_iload_n rfl rfl rfl ?_
    refine wr_icmp_gt rfl rfl rfl (by omega) (by omega) (fun c7 => ?_) (fun c7 => ?_)
    ·
      refine wr_iconst rfl rfl ?_
      refine wr_zret rfl rfl (by decide) ?_
      refine ⟨?_, rfl⟩
      first | rw [b2_t (by omega)] | rw [b2_f (by omega)]
    ·
      refine wr_iconst rfl rfl ?_
      refine wr_goto rfl rfl ?_
      refine wr_zret rfl rfl (by decide) ?_
      refine ⟨?_, rfl⟩
      first | rw [b2_t (by omega)] | rw [b2_f (by omega)]
theorem wp_isSide {d : Nat} {h : am_H} {x : Int} (hx : -2147483648 ≤ x ∧ x ≤ 2147483647) :
    am_c X (d + 1) 53 [.int (iI x)] h (fun r h' => r = some (.int (iI (b2 (x = -1 ∨ x = 1)))) ∧ h' = h) := by
  refine am_c.of (Nat.le_of_ble_eq_true rfl) ?_
  show am_w _ _ _ (_, [_], _, _) _
  refine wr_iload_n rfl rfl rfl ?_
  refine wr_iconst rfl rfl ?_
  refine wr_icmp_eq rfl rfl rfl (by omega) (by omega) (fun c2 => ?_) (fun c2 => ?_)
  ·
    refine wr_iconst rfl rfl ?_
    refine wr_goto rfl rfl ?_
    refine wr_zret rfl rfl (by decide) ?_
    refine ⟨?_, rfl⟩
    first | rw [b2_t (by omega)] | rw [b2_f (by omega)]
  ·
    refine wr_iload_n rfl rfl rfl ?_
    refine wr_iconst rfl rfl ?_
    refine wr_icmp_ne rfl rfl rfl (by omega) (by omega) (fun c7 => ?_) (fun c7 => ?_)
    ·
      refine wr_iconst rfl rfl ?_
      refine wr_zret rfl rfl (by decide) ?_
      refine ⟨?_, rfl⟩
      first | rw [b2_t (by omega)] | rw [b2_f (by omega)]
    ·
      refine wr_iconst rfl rfl ?_
      refine wr_goto rfl rfl ?_
      refine wr_zret rfl rfl (by decide) ?_
      refine ⟨?_, rfl⟩
      first | rw [b2_t (by omega)] | rw [b2_f (by omega)]
theorem wp_gempty {d g n : Nat} {h : am_H} {off lev : Nat → Int} (hG : isG h g n off lev) :
    am_c X (d + 1) 50 [.ref g] h (fun r h' => r = none ∧ isG h' g 0 off lev ∧ fr [g] h h') := by
  obtain ⟨c0, c1, c2⟩ := id hG
  refine am_c.of (Nat.le_of_ble_eq_true rfl) ?_
  show am_w _ _ _ (_, [_], _, _) _
  refine wr_aload_n rfl rfl rfl ?_
  refine wr_iconst rfl rfl ?_
  refine wr_putI (ci := 3) (f := 2) (fs' := [_, _, _]) rfl rfl rfl (by assumption) rfl rfl rfl (fun h1 e1 => ?_)
  refine wr_vret rfl rfl ?_
  subst e1
  exact ⟨rfl, ⟨am_set_s c0, by rw [am_set_n (by omega)]; exact c1, by rw [am_set_n (by omega)]; exact c2⟩, fr_set1⟩
def gAdd (n : Nat) (off : Nat → Int) (o l : Int) : Prop := (-100000 ≤ o ∧ o ≤ 100000) ∧ (-100000 ≤ l ∧ l ≤ 100000) ∧ n < 12 ∧ (n = 0 ∨ off (n - 1) < o)
theorem okG.add {n : Nat} {off lev : Nat → Int} {o l : Int} (ok : okG n off lev) (c : gAdd n off o l) : okG (n + 1) (updI off n o) (updI lev n l) := by
  obtain ⟨c1, c2, c3, c4⟩ := c
  obtain ⟨k1, k2, k3, k4⟩ := ok
  refine ⟨by omega, fun i => ?_, fun i => ?_, fun i j h1 h2 => ?_⟩
  · by_cases e : i = n
    · rw [e, updI_s]; exact c1
    · rw [updI_n e]; exact k2 i
  · by_cases e : i = n
    · rw [e, updI_s]; exact c2
    · rw [updI_n e]; exact k3 i
  · by_cases e : j = n
    · rw [e, updI_s, updI_n (by omega)]
      by_cases e2 : i = n - 1
      · rw [e2]; omega
      · have := k4 i (n - 1) (by omega) (by omega)
        omega
    · rw [updI_n e, updI_n (by omega)]
      exact k4 i j h1 (by omega)
theorem wp_gadd {d g n : Nat} {h : am_H} {off lev : Nat → Int} {o l : Int} (hG : isG h g n off lev) (ok : okG n off lev) (ho : -2147483648 ≤ o ∧ o ≤ 2147483647) (hl : -2147483648 ≤ l ∧ l ≤ 2147483647) :
    am_c X (d + 2) 47 [.ref g, .int (iI o), .int (iI l)] h (fun r h' => (gAdd n off o l ∧ r = some (.int (iI 1)) ∧ isG h' g (n + 1) (updI off n o) (updI lev n l) ∧ fr [g, g + 1, g + 2] h h') ∨ (¬ gAdd n off o l ∧ r = some (.int (iI 0)) ∧ h' = h)) := by
  obtain ⟨c0, c1, c2⟩ := id hG
  have n12 := ok.1
  have hb := ok.2.1 (n - 1)
  have et : 0 < n → ((n : Int) - 1).toNat = n - 1 := by omega
  have J : (-100000 ≤ o ∧ o ≤ 100000) → (-100000 ≤ l ∧ l ≤ 100000) → n < 12 → (n = 0 ∨ off (n - 1) < o) → am_w X (d + 1) 47 (57, [.ref g, .int (iI o), .int (iI l)], [], h) (fun r h' => (gAdd n off o l ∧ r = some (.int (iI 1)) ∧ isG h' g (n + 1) (updI off n o) (updI lev n l) ∧ fr [g, g + 1, g + 2] h h') ∨ (¬ gAdd n off o l ∧ r = some (.int (iI 0)) ∧ h' = h)) := by
    intro a1 a2 a3 a4
    refine wr_aload_n rfl rfl rfl ?_
    refine wr_get (ci := 3) (f := 0) rfl rfl rfl (by assumption) rfl ?_
    refine wr_aload_n rfl rfl rfl ?_
    refine wr_get (ci := 3) (f := 2) rfl rfl rfl (by assumption) rfl ?_
    refine wr_iload_n rfl rfl rfl ?_
    refine wr_iast rfl rfl (by assumption) (by omega) (by omega) (fun h1 e1 => ?_)
    have d0 : h1[g]? = some _ := (by rw [e1, am_set_n (by omega)]; exact c0)
    have d1 : h1[g + 1]? = some _ := (by rw [e1]; exact am_set_s c1)
    have d2 : h1[g + 2]? = some _ := (by rw [e1, am_set_n (by omega)]; exact c2)
    have f1 : fr [g + 1] h h1 := e1 ▸ fr_set1
    clear e1
    refine wr_aload_n rfl rfl rfl ?_
    refine wr_get (ci := 3) (f := 1) rfl rfl rfl (by assumption) rfl ?_
    refine wr_aload_n rfl rfl rfl ?_
    refine wr_get (ci := 3) (f := 2) rfl rfl rfl (by assumption) rfl ?_
    refine wr_iload_n rfl rfl rfl ?_
    refine wr_iast rfl rfl (by assumption) (by omega) (by omega) (fun h2 e2 => ?_)
    have i0 : h2[g]? = some _ := (by rw [e2, am_set_n (by omega)]; exact d0)
    have i1 : h2[g + 1]? = some _ := (by rw [e2, am_set_n (by omega)]; exact d1)
    have i2 : h2[g + 2]? = some _ := (by rw [e2]; exact am_set_s d2)
    have f2 : fr [g + 2] h1 h2 := e2 ▸ fr_set1
    clear e2
    refine wr_aload_n rfl rfl rfl ?_
    refine wr_dup rfl rfl ?_
    refine wr_get (ci := 3) (f := 2) rfl rfl rfl (by assumption) rfl ?_
    refine wr_iconst rfl rfl ?_
    refine wr_iadd rfl rfl ?_
    refine wr_putI (ci := 3) (f := 2) (fs' := [_, _, _]) rfl rfl rfl (by assumption) rfl rfl rfl (fun h3 e3 => ?_)
    have f3 : fr [g] h2 h3 := e3 ▸ fr_set1
    refine wr_iconst rfl rfl ?_
    refine wr_zret rfl rfl (by decide) ?_
    refine Or.inl ⟨⟨a1, a2, a3, a4⟩, rfl, ⟨?_, ?_, ?_⟩, ?_⟩
    · rw [e3]; exact am_set_s i0
    · rw [e3, am_set_n (by omega), i1, show ((n : Int)).toNat = n by omega]
    · rw [e3, am_set_n (by omega), i2, show ((n : Int)).toNat = n by omega]
    · exact fr_tr (fr_tr (U := [g, g + 1, g + 2]) f1 f2 (fun i hi => by simp at hi ⊢; omega) (fun i hi => by simp at hi ⊢; omega)) f3 (fun i hi => hi) (fun i hi => by simp at hi ⊢; omega)
  have w1 := b2_in (-100000 ≤ o ∧ o ≤ 100000)
  have w2 := b2_in (-100000 ≤ l ∧ l ≤ 100000)
  have v1 : b2 (-100000 ≤ o ∧ o ≤ 100000) = 0 → ¬ (-100000 ≤ o ∧ o ≤ 100000) := fun e q => by rw [b2_t q] at e; omega
  have v2 : b2 (-100000 ≤ l ∧ l ≤ 100000) = 0 → ¬ (-100000 ≤ l ∧ l ≤ 100000) := fun e q => by rw [b2_t q] at e; omega
  have u1 : ¬ b2 (-100000 ≤ o ∧ o ≤ 100000) = 0 → (-100000 ≤ o ∧ o ≤ 100000) := fun e => Decidable.byContradiction fun q => e (b2_f q)
  have u2 : ¬ b2 (-100000 ≤ l ∧ l ≤ 100000) = 0 → (-100000 ≤ l ∧ l ≤ 100000) := fun e => Decidable.byContradiction fun q => e (b2_f q)
  refine am_c.of (Nat.le_of_ble_eq_true rfl) ?_
  show am_w _ _ _ (_, [_, _, _], _, _) _
  refine wr_iload_n rfl rfl rfl ?_
  refine wr_ldc (z := -100000) rfl rfl rfl (by decide) ?_
  refine wr_ldc (z := 100000) rfl rfl rfl (by decide) ?_
  refine wr_cs3 (k' := 48) rfl rfl rfl rfl rfl (wp_within ho (by decide) (by decide)) (fun r h2 q => ?_)
  obtain ⟨rfl, hh⟩ := q
  rw [hh]
  clear hh h2
  dsimp only [Option.toList, List.cons_append, List.nil_append]
  refine wr_if_eq rfl rfl rfl (by omega) (fun c8 => ?_) (fun c8 => ?_)
  ·
    refine wr_iconst rfl rfl ?_
    refine wr_zret rfl rfl (by decide) ?_
    first | exact J (by omega) (by omega) (by omega) (by omega) | exact Or.inr ⟨fun q => by obtain ⟨q1, q2, q3, q4⟩ := q; omega, rfl, rfl⟩
  ·
    refine wr_iload_n rfl rfl rfl ?_
    refine wr_ldc (z := -100000) rfl rfl rfl (by decide) ?_
    refine wr_ldc (z := 100000) rfl rfl rfl (by decide) ?_
    refine wr_cs3 (k' := 48) rfl rfl rfl rfl rfl (wp_within hl (by decide) (by decide)) (fun r h2 q => ?_)
    obtain ⟨rfl, hh⟩ := q
    rw [hh]
    clear hh h2
    dsimp only [Option.toList, List.cons_append, List.nil_append]
    refine wr_if_ne rfl rfl rfl (by omega) (fun c19 => ?_) (fun c19 => ?_)
    ·
      refine wr_aload_n rfl rfl rfl ?_
      refine wr_get (ci := 3) (f := 2) rfl rfl rfl (by assumption) rfl ?_
      refine wr_bipush rfl rfl (by decide) ?_
      refine wr_icmp_ge rfl rfl rfl (by omega) (by omega) (fun c30 => ?_) (fun c30 => ?_)
      ·
        refine wr_iconst rfl rfl ?_
        refine wr_zret rfl rfl (by decide) ?_
        first | exact J (by omega) (by omega) (by omega) (by omega) | exact Or.inr ⟨fun q => by obtain ⟨q1, q2, q3, q4⟩ := q; omega, rfl, rfl⟩
      ·
        refine wr_aload_n rfl rfl rfl ?_
        refine wr_get (ci := 3) (f := 2) rfl rfl rfl (by assumption) rfl ?_
        refine wr_if_le rfl rfl rfl (by omega) (fun c37 => ?_) (fun c37 => ?_)
        ·
          first | exact J (by omega) (by omega) (by omega) (by omega) | exact Or.inr ⟨fun q => by obtain ⟨q1, q2, q3, q4⟩ := q; omega, rfl, rfl⟩
        ·
          refine wr_iload_n rfl rfl rfl ?_
          refine wr_aload_n rfl rfl rfl ?_
          refine wr_get (ci := 3) (f := 0) rfl rfl rfl (by assumption) rfl ?_
          refine wr_aload_n rfl rfl rfl ?_
          refine wr_get (ci := 3) (f := 2) rfl rfl rfl (by assumption) rfl ?_
          refine wr_iconst rfl rfl ?_
          refine wr_isub rfl rfl ?_
          refine wr_iald rfl rfl (by assumption) (by omega) (by omega) ?_
          rw [et (by omega)]
          refine wr_icmp_gt rfl rfl rfl (by omega) (by omega) (fun c52 => ?_) (fun c52 => ?_)
          ·
            first | exact J (by omega) (by omega) (by omega) (by omega) | exact Or.inr ⟨fun q => by obtain ⟨q1, q2, q3, q4⟩ := q; omega, rfl, rfl⟩
          ·
            refine wr_iconst rfl rfl ?_
            refine wr_zret rfl rfl (by decide) ?_
            first | exact J (by omega) (by omega) (by omega) (by omega) | exact Or.inr ⟨fun q => by obtain ⟨q1, q2, q3, q4⟩ := q; omega, rfl, rfl⟩
    ·
      refine wr_iconst rfl rfl ?_
      refine wr_zret rfl rfl (by decide) ?_
      first | exact J (by omega) (by omega) (by omega) (by omega) | exact Or.inr ⟨fun q => by obtain ⟨q1, q2, q3, q4⟩ := q; omega, rfl, rfl⟩
theorem wp_gcopy {d g n g2 n2 : Nat} {h : am_H} {off lev off2 lev2 : Nat → Int} (hG : isG h g n off lev) (hG2 : isG h g2 n2 off2 lev2) (hne : g + 2 < g2 ∨ g2 + 2 < g) :
    am_c X (d + 1) 55 [.ref g, .ref g2] h (fun r h' => r = none ∧ (∃ o1 l1, isG h' g n2 o1 l1 ∧ (∀ i, i < 12 → o1 i = off2 i) ∧ (∀ i, i < 12 → l1 i = lev2 i)) ∧ fr [g, g + 1, g + 2] h h') := by
  obtain ⟨c0, c1, c2⟩ := id hG
  obtain ⟨b0, b1, b2⟩ := id hG2
  refine am_c.of (Nat.le_of_ble_eq_true rfl) ?_
  show am_w _ _ _ (_, [_, _, _], _, _) _
  refine wr_aload_n rfl rfl rfl ?_
  refine wr_aload_n rfl rfl rfl ?_
  refine wr_get (ci := 3) (f := 2) rfl rfl rfl (by assumption) rfl ?_
  refine wr_putI (ci := 3) (f := 2) (fs' := [_, _, _]) rfl rfl rfl (by assumption) rfl rfl rfl (fun h1 e1 => ?_)
  have d0 : h1[g]? = some _ := (by rw [e1]; exact am_set_s c0)
  have d1 : h1[g + 1]? = some _ := (by rw [e1, am_set_n (by omega)]; exact c1)
  have d2 : h1[g + 2]? = some _ := (by rw [e1, am_set_n (by omega)]; exact c2)
  have f1 : fr [g, g + 1, g + 2] h h1 := fr_wk (e1 ▸ fr_set1) (fun i hi => by simp at hi ⊢; omega)
  have L : ∀ (m i : Nat) (h1 : am_H) (o1 l1 : Nat → Int), i + m = 12 → fr [g, g + 1, g + 2] h h1 → h1[g]? = some (.inr (cGr, [.ref (g + 1), .ref (g + 2), .int (iI n2)])) → h1[g + 1]? = some (am_ia 12 o1) → h1[g + 2]? = some (am_ia 12 l1) → (∀ j, j < i → o1 j = off2 j ∧ l1 j = lev2 j) → am_w X d 55 (10, [.ref g, .ref g2, .int (iI i)], [], h1) (fun r h' => r = none ∧ (∃ o1 l1, isG h' g n2 o1 l1 ∧ (∀ i, i < 12 → o1 i = off2 i) ∧ (∀ i, i < 12 → l1 i = lev2 i)) ∧ fr [g, g + 1, g + 2] h h') := by
    intro m
    induction m with
    | zero =>
      intro i h1 o1 l1 hi f d0 d1 d2 hj
      refine wr_iload_n rfl rfl rfl ?_
      refine wr_bipush rfl rfl (by decide) ?_
      refine wr_icmp_ge rfl rfl rfl (by omega) (by omega) (fun c13 => ?_) (fun c13 => ?_)
      ·
        refine wr_vret rfl rfl ?_
        exact ⟨rfl, ⟨o1, l1, ⟨d0, d1, d2⟩, fun j h => (hj j (by omega)).1, fun j h => (hj j (by omega)).2⟩, f⟩
      · exfalso; omega
    | succ m ih =>
      intro i h1 o1 l1 hi f d0 d1 d2 hj
      have i0 : h1[g2]? = some _ := (f.2 g2 (by simp; omega)).trans b0
      have i1 : h1[g2 + 1]? = some _ := (f.2 (g2 + 1) (by simp; omega)).trans b1
      have i2 : h1[g2 + 2]? = some _ := (f.2 (g2 + 2) (by simp; omega)).trans b2
      refine wr_iload_n rfl rfl rfl ?_
      refine wr_bipush rfl rfl (by decide) ?_
      refine wr_icmp_ge rfl rfl rfl (by omega) (by omega) (fun c13 => ?_) (fun c13 => ?_)
      · exfalso; omega
      ·
        refine wr_aload_n rfl rfl rfl ?_
        refine wr_get (ci := 3) (f := 0) rfl rfl rfl (by assumption) rfl ?_
        refine wr_iload_n rfl rfl rfl ?_
        refine wr_aload_n rfl rfl rfl ?_
        refine wr_get (ci := 3) (f := 0) rfl rfl rfl (by assumption) rfl ?_
        refine wr_iload_n rfl rfl rfl ?_
        refine wr_iald rfl rfl (by assumption) (by omega) (by omega) ?_
        refine wr_iast rfl rfl d1 (by omega) (by omega) (fun h2 e2 => ?_)
        have k0 : h2[g]? = some _ := (by rw [e2, am_set_n (by omega)]; exact d0)
        have k1 : h2[g + 1]? = some _ := (by rw [e2]; exact am_set_s d1)
        have k2 : h2[g + 2]? = some _ := (by rw [e2, am_set_n (by omega)]; exact d2)
        have j0 : h2[g2]? = some _ := (by rw [e2, am_set_n (by omega)]; exact i0)
        have j2 : h2[g2 + 2]? = some _ := (by rw [e2, am_set_n (by omega)]; exact i2)
        have f2 : fr [g + 1] h1 h2 := e2 ▸ fr_set1
        clear e2
        refine wr_aload_n rfl rfl rfl ?_
        refine wr_get (ci := 3) (f := 1) rfl rfl rfl (by assumption) rfl ?_
        refine wr_iload_n rfl rfl rfl ?_
        refine wr_aload_n rfl rfl rfl ?_
        refine wr_get (ci := 3) (f := 1) rfl rfl rfl (by assumption) rfl ?_
        refine wr_iload_n rfl rfl rfl ?_
        refine wr_iald rfl rfl (by assumption) (by omega) (by omega) ?_
        refine wr_iast rfl rfl k2 (by omega) (by omega) (fun h3 e3 => ?_)
        have f3 : fr [g + 2] h2 h3 := e3 ▸ fr_set1
        refine wr_iinc (ls' := [_, _, _]) rfl rfl rfl rfl ?_
        refine wr_goto rfl rfl ?_
        rw [show (i : Int) + 1 = ((i + 1 : Nat) : Int) by omega]
        refine ih (i + 1) h3 (updI o1 ((i : Int)).toNat _) (updI l1 ((i : Int)).toNat _) (by omega) (fr_tr (fr_tr (U := [g, g + 1, g + 2]) f f2 (fun i hi => hi) (fun i hi => by simp at hi ⊢; omega)) f3 (fun i hi => hi) (fun i hi => by simp at hi ⊢; omega)) (by rw [e3, am_set_n (by omega)]; exact k0) (by rw [e3, am_set_n (by omega)]; exact k1) (by rw [e3]; exact am_set_s k2) (fun j hj' => ?_)
        rw [show ((i : Int)).toNat = i by omega]
        by_cases e : j = i
        · subst e; rw [updI_s, updI_s]; exact ⟨rfl, rfl⟩
        · rw [updI_n e, updI_n e]; exact hj j (by omega)
  clear e1
  refine wr_iconst rfl rfl ?_
  refine wr_istore_n (ls' := [_, _, _]) rfl rfl (Nat.le_of_ble_eq_true rfl) rfl ?_
  exact L 12 0 h1 off lev (by omega) f1 d0 d1 d2 (fun j hj => by omega)
theorem wp_gk {d g n : Nat} {h : am_H} {off lev : Nat → Int} {o : Int} (hG : isG h g n off lev) (ok : okG n off lev) (ho : -9223372036854775808 ≤ o ∧ o ≤ 9223372036854775807) :
    am_c X (d + 1) 70 [.ref g, .long (lI o)] h (fun r h' => r = some (.int (iI (gk n off o))) ∧ h' = h) := by
  obtain ⟨c0, c1, c2⟩ := id hG
  have n12 := ok.1
  have L : ∀ (m i : Nat), i + m = n → gkF off o m i = gk n off o → am_w X d 70 (5, [.ref g, .long (lI o), am_U, .int (iI i), .int (iI i)], [], h) (fun r h' => r = some (.int (iI (gk n off o))) ∧ h' = h) := by
    intro m
    induction m with
    | zero =>
      intro i hi e
      refine wr_iload rfl rfl rfl ?_
      refine wr_aload_n rfl rfl rfl ?_
      refine wr_get (ci := 3) (f := 2) rfl rfl rfl (by assumption) rfl ?_
      refine wr_icmp_ge rfl rfl rfl (by omega) (by omega) (fun c11 => ?_) (fun c11 => ?_)
      ·
        refine wr_iload_n rfl rfl rfl ?_
        refine wr_iret rfl rfl ?_
        exact ⟨by rw [← e]; rfl, rfl⟩
      · exfalso; omega
    | succ m ih =>
      intro i hi e
      have hb := ok.2.1 i
      have et : ((i : Int)).toNat = i := by omega
      refine wr_iload rfl rfl rfl ?_
      refine wr_aload_n rfl rfl rfl ?_
      refine wr_get (ci := 3) (f := 2) rfl rfl rfl (by assumption) rfl ?_
      refine wr_icmp_ge rfl rfl rfl (by omega) (by omega) (fun c11 => ?_) (fun c11 => ?_)
      · exfalso; omega
      ·
        refine wr_aload_n rfl rfl rfl ?_
        refine wr_get (ci := 3) (f := 0) rfl rfl rfl (by assumption) rfl ?_
        refine wr_iload rfl rfl rfl ?_
        refine wr_iald rfl rfl (by assumption) (by omega) (by omega) ?_
        rw [et]
        refine wr_i2l rfl rfl (by omega) ?_
        refine wr_lload_n rfl rfl rfl ?_
        refine wr_l_gt rfl rfl rfl rfl rfl (by omega) (by omega) (fun c23 => ?_) (fun c23 => ?_)
        ·
          refine wr_iload_n rfl rfl rfl ?_
          refine wr_iret rfl rfl ?_
          refine ⟨?_, rfl⟩
          rw [← e]
          unfold gkF
          rw [if_neg (by omega)]
        ·
          refine wr_iinc (ls' := [_, _, _, _, _]) rfl rfl rfl rfl ?_
          refine wr_iinc (ls' := [_, _, _, _, _]) rfl rfl rfl rfl ?_
          refine wr_goto rfl rfl ?_
          rw [show (i : Int) + 1 = ((i + 1 : Nat) : Int) by omega]
          refine ih (i + 1) (by omega) ?_
          rw [← e, gkF, if_pos (by omega)]
  refine am_c.of (Nat.le_of_ble_eq_true rfl) ?_
  show am_w _ _ _ (_, [_, _, _, _, _], _, _) _
  refine wr_iconst rfl rfl ?_
  refine wr_istore_n (ls' := [_, _, _, _, _]) rfl rfl (Nat.le_of_ble_eq_true rfl) rfl ?_
  refine wr_iconst rfl rfl ?_
  refine wr_istore (ls' := [_, _, _, _, _]) rfl rfl (Nat.le_of_ble_eq_true rfl) rfl ?_
  exact L n 0 (by omega) rfl
theorem wp_gL {d g n : Nat} {h : am_H} {off lev : Nat → Int} {o : Int} (hG : isG h g n off lev) (ok : okG n off lev) (ho : -9223372036854775808 ≤ o ∧ o ≤ 9223372036854775807) :
    am_c X (d + 2) 72 [.ref g, .long (lI o)] h (fun r h' => r = some (.long (lI (gL n off o))) ∧ h' = h) := by
  obtain ⟨c0, c1, c2⟩ := id hG
  have n12 := ok.1
  have kn := (gk_spec n off o).1
  have hb := ok.2.1 (gk n off o)
  have hb2 := ok.2.1 (gk n off o - 1)
  have e1 : ((gk n off o : Nat) : Int).toNat = gk n off o := by omega
  have e2 : (((gk n off o : Nat) : Int) - 1).toNat = gk n off o - 1 := by omega
  refine am_c.of (Nat.le_of_ble_eq_true rfl) ?_
  show am_w _ _ _ (_, [_, _, _, _], _, _) _
  refine wr_aload_n rfl rfl rfl ?_
  refine wr_lload_n rfl rfl rfl ?_
  refine wr_cv1 (k' := 70) (ci := 3) rfl rfl rfl rfl (by assumption) rfl rfl (wp_gk hG ok ho) (fun r h2 q => ?_)
  obtain ⟨rfl, hh⟩ := q
  rw [hh]
  clear hh h2
  dsimp only [Option.toList, List.cons_append, List.nil_append]
  refine wr_istore_n (ls' := [_, _, _, _]) rfl rfl (Nat.le_of_ble_eq_true rfl) rfl ?_
  refine wr_iload_n rfl rfl rfl ?_
  refine wr_if_le rfl rfl rfl (by omega) (fun c7 => ?_) (fun c7 => ?_)
  ·
    refine wr_lconst (z := 1) rfl rfl rfl ?_
    refine wr_lret rfl rfl ?_
    refine ⟨?_, rfl⟩
    unfold gL
    first | rw [if_pos (by omega)] | rw [if_neg (by omega)]
  ·
    refine wr_iload_n rfl rfl rfl ?_
    refine wr_aload_n rfl rfl rfl ?_
    refine wr_get (ci := 3) (f := 2) rfl rfl rfl (by assumption) rfl ?_
    refine wr_icmp_ge rfl rfl rfl (by omega) (by omega) (fun c15 => ?_) (fun c15 => ?_)
    ·
      refine wr_lconst (z := 1) rfl rfl rfl ?_
      refine wr_lret rfl rfl ?_
      refine ⟨?_, rfl⟩
      unfold gL
      first | rw [if_pos (by omega)] | rw [if_neg (by omega)]
    ·
      refine wr_aload_n rfl rfl rfl ?_
      refine wr_get (ci := 3) (f := 0) rfl rfl rfl (by assumption) rfl ?_
      refine wr_iload_n rfl rfl rfl ?_
      refine wr_iald rfl rfl (by assumption) (by omega) (by omega) ?_
      rw [e1]
      refine wr_aload_n rfl rfl rfl ?_
      refine wr_get (ci := 3) (f := 0) rfl rfl rfl (by assumption) rfl ?_
      refine wr_iload_n rfl rfl rfl ?_
      refine wr_iconst rfl rfl ?_
      refine wr_isub rfl rfl ?_
      refine wr_iald rfl rfl (by assumption) (by omega) (by omega) ?_
      rw [e2]
      refine wr_isub rfl rfl ?_
      refine wr_i2l rfl rfl (by omega) ?_
      refine wr_goto rfl rfl ?_
      refine wr_lret rfl rfl ?_
      refine ⟨?_, rfl⟩
      unfold gL
      first | rw [if_pos (by omega)] | rw [if_neg (by omega)]
theorem wp_gU {d g n : Nat} {h : am_H} {off lev : Nat → Int} {o : Int} (hG : isG h g n off lev) (ok : okG n off lev) (ho : -9223372036854775808 ≤ o ∧ o ≤ 9223372036854775807) :
    am_c X (d + 2) 69 [.ref g, .long (lI o)] h (fun r h' => r = some (.long (lI (gU n off lev o))) ∧ h' = h) := by
  obtain ⟨c0, c1, c2⟩ := id hG
  have n12 := ok.1
  have kn := (gk_spec n off o).1
  have hb := ok.2.1 (gk n off o)
  have hb2 := ok.2.1 (gk n off o - 1)
  have hl := ok.2.2.1 (gk n off o)
  have hl2 := ok.2.2.1 (gk n off o - 1)
  have hl0 := ok.2.2.1 0
  have e1 : ((gk n off o : Nat) : Int).toNat = gk n off o := by omega
  have e2 : (((gk n off o : Nat) : Int) - 1).toNat = gk n off o - 1 := by omega
  have e3 : (0 : Int).toNat = 0 := rfl
  refine am_c.of (Nat.le_of_ble_eq_true rfl) ?_
  show am_w _ _ _ (_, [_, _, _, _, _, _], _, _) _
  refine wr_aload_n rfl rfl rfl ?_
  refine wr_get (ci := 3) (f := 2) rfl rfl rfl (by assumption) rfl ?_
  refine wr_if_ne rfl rfl rfl (by omega) (fun c4 => ?_) (fun c4 => ?_)
  ·
    refine wr_aload_n rfl rfl rfl ?_
    refine wr_lload_n rfl rfl rfl ?_
    refine wr_cv1 (k' := 70) (ci := 3) rfl rfl rfl rfl (by assumption) rfl rfl (wp_gk hG ok ho) (fun r h2 q => ?_)
    obtain ⟨rfl, hh⟩ := q
    rw [hh]
    clear hh h2
    dsimp only [Option.toList, List.cons_append, List.nil_append]
    refine wr_istore_n (ls' := [_, _, _, _, _, _]) rfl rfl (Nat.le_of_ble_eq_true rfl) rfl ?_
    refine wr_iload_n rfl rfl rfl ?_
    refine wr_if_ne rfl rfl rfl (by omega) (fun c16 => ?_) (fun c16 => ?_)
    ·
      refine wr_aload_n rfl rfl rfl ?_
      refine wr_get (ci := 3) (f := 1) rfl rfl rfl (by assumption) rfl ?_
      refine wr_iload_n rfl rfl rfl ?_
      refine wr_iconst rfl rfl ?_
      refine wr_isub rfl rfl ?_
      refine wr_iald rfl rfl (by assumption) (by omega) (by omega) ?_
      rw [e2]
      refine wr_i2l rfl rfl (by omega) ?_
      refine wr_lstore (ls' := [_, _, _, _, _, _]) rfl rfl (Nat.le_of_ble_eq_true rfl) rfl ?_
      refine wr_iload_n rfl rfl rfl ?_
      refine wr_aload_n rfl rfl rfl ?_
      refine wr_get (ci := 3) (f := 2) rfl rfl rfl (by assumption) rfl ?_
      refine wr_icmp_lt rfl rfl rfl (by omega) (by omega) (fun c43 => ?_) (fun c43 => ?_)
      ·
        refine wr_lload rfl rfl rfl ?_
        refine wr_aload_n rfl rfl rfl ?_
        refine wr_get (ci := 3) (f := 0) rfl rfl rfl (by assumption) rfl ?_
        refine wr_iload_n rfl rfl rfl ?_
        refine wr_iald rfl rfl (by assumption) (by omega) (by omega) ?_
        rw [e1]
        refine wr_aload_n rfl rfl rfl ?_
        refine wr_get (ci := 3) (f := 0) rfl rfl rfl (by assumption) rfl ?_
        refine wr_iload_n rfl rfl rfl ?_
        refine wr_iconst rfl rfl ?_
        refine wr_isub rfl rfl ?_
        refine wr_iald rfl rfl (by assumption) (by omega) (by omega) ?_
        rw [e2]
        refine wr_isub rfl rfl ?_
        refine wr_i2l rfl rfl (by omega) ?_
        refine wr_lmul rfl rfl ?_
        refine wr_aload_n rfl rfl rfl ?_
        refine wr_get (ci := 3) (f := 1) rfl rfl rfl (by assumption) rfl ?_
        refine wr_iload_n rfl rfl rfl ?_
        refine wr_iald rfl rfl (by assumption) (by omega) (by omega) ?_
        rw [e1]
        refine wr_i2l rfl rfl (by omega) ?_
        refine wr_lload rfl rfl rfl ?_
        refine wr_lsub rfl rfl ?_
        refine wr_lload_n rfl rfl rfl ?_
        refine wr_aload_n rfl rfl rfl ?_
        refine wr_get (ci := 3) (f := 0) rfl rfl rfl (by assumption) rfl ?_
        refine wr_iload_n rfl rfl rfl ?_
        refine wr_iconst rfl rfl ?_
        refine wr_isub rfl rfl ?_
        refine wr_iald rfl rfl (by assumption) (by omega) (by omega) ?_
        rw [e2]
        refine wr_i2l rfl rfl (by omega) ?_
        refine wr_lsub rfl rfl ?_
        refine wr_lmul rfl rfl ?_
        refine wr_ladd rfl rfl ?_
        refine wr_lret rfl rfl ?_
        refine ⟨?_, rfl⟩
        unfold gU
        first | rw [if_pos (by omega)] | rw [if_neg (by omega), if_pos (by omega)] | rw [if_neg (by omega), if_neg (by omega), if_pos (by omega)] | rw [if_neg (by omega), if_neg (by omega), if_neg (by omega)]
      ·
        refine wr_lload rfl rfl rfl ?_
        refine wr_lret rfl rfl ?_
        refine ⟨?_, rfl⟩
        unfold gU
        first | rw [if_pos (by omega)] | rw [if_neg (by omega), if_pos (by omega)] | rw [if_neg (by omega), if_neg (by omega), if_pos (by omega)] | rw [if_neg (by omega), if_neg (by omega), if_neg (by omega)]
    ·
      refine wr_aload_n rfl rfl rfl ?_
      refine wr_get (ci := 3) (f := 1) rfl rfl rfl (by assumption) rfl ?_
      refine wr_iconst rfl rfl ?_
      refine wr_iald rfl rfl (by assumption) (by omega) (by omega) ?_
      rw [e3]
      refine wr_i2l rfl rfl (by omega) ?_
      refine wr_lret rfl rfl ?_
      refine ⟨?_, rfl⟩
      unfold gU
      first | rw [if_pos (by omega)] | rw [if_neg (by omega), if_pos (by omega)] | rw [if_neg (by omega), if_neg (by omega), if_pos (by omega)] | rw [if_neg (by omega), if_neg (by omega), if_neg (by omega)]
  ·
    refine wr_lconst (z := 0) rfl rfl rfl ?_
    refine wr_lret rfl rfl ?_
    refine ⟨?_, rfl⟩
    unfold gU
    first | rw [if_pos (by omega)] | rw [if_neg (by omega), if_pos (by omega)] | rw [if_neg (by omega), if_neg (by omega), if_pos (by omega)] | rw [if_neg (by omega), if_neg (by omega), if_neg (by omega)]
theorem wp_gout {d g n : Nat} {h : am_H} {off lev : Nat → Int} {p sg : Int} (hG : isG h g n off lev) (ok : okG n off lev) (hp : -1 ≤ p ∧ p < n) (hs : sg = 1 ∨ sg = -1) :
    am_c X (d + 1) 83 [.ref g, .int (iI p), .int (iI sg)] h (fun r h' => r = some (.long (lI (if 0 ≤ p then sg * off p.toNat else 0))) ∧ h' = h) := by
  obtain ⟨c0, c1, c2⟩ := id hG
  have n12 := ok.1
  have hb := ok.2.1 p.toNat
  have hm : -100000 ≤ sg * off p.toNat ∧ sg * off p.toNat ≤ 100000 := by rcases hs with rfl | rfl <;> omega
  refine am_c.of (Nat.le_of_ble_eq_true rfl) ?_
  show am_w _ _ _ (_, [_, _, _], _, _) _
  refine wr_iload_n rfl rfl rfl ?_
  refine wr_if_lt rfl rfl rfl (by omega) (fun c1 => ?_) (fun c1 => ?_)
  ·
    refine wr_lconst (z := 0) rfl rfl rfl ?_
    refine wr_lret rfl rfl ?_
    refine ⟨?_, rfl⟩
    first | (exfalso; omega) | rw [if_pos (by omega)] | rw [if_neg (by omega)]
  ·
    refine wr_iload_n rfl rfl rfl ?_
    refine wr_aload_n rfl rfl rfl ?_
    refine wr_get (ci := 3) (f := 2) rfl rfl rfl (by assumption) rfl ?_
    refine wr_icmp_ge rfl rfl rfl (by omega) (by omega) (fun c9 => ?_) (fun c9 => ?_)
    ·
      refine wr_lconst (z := 0) rfl rfl rfl ?_
      refine wr_lret rfl rfl ?_
      refine ⟨?_, rfl⟩
      first | (exfalso; omega) | rw [if_pos (by omega)] | rw [if_neg (by omega)]
    ·
      refine wr_iload_n rfl rfl rfl ?_
      refine wr_aload_n rfl rfl rfl ?_
      refine wr_get (ci := 3) (f := 0) rfl rfl rfl (by assumption) rfl ?_
      refine wr_iload_n rfl rfl rfl ?_
      refine wr_iald rfl rfl (by assumption) (by omega) (by omega) ?_
      refine wr_imul rfl rfl ?_
      refine wr_i2l rfl rfl (by omega) ?_
      refine wr_goto rfl rfl ?_
      refine wr_lret rfl rfl ?_
      refine ⟨?_, rfl⟩
      first | (exfalso; omega) | rw [if_pos (by omega)] | rw [if_neg (by omega)]
theorem wp_glev {d g n : Nat} {h : am_H} {off lev : Nat → Int} {p : Int} (hG : isG h g n off lev) (ok : okG n off lev) (hp : -1 ≤ p ∧ p < n) :
    am_c X (d + 1) 84 [.ref g, .int (iI p)] h (fun r h' => r = some (.long (lI (if 0 ≤ p then lev p.toNat else 0))) ∧ h' = h) := by
  obtain ⟨c0, c1, c2⟩ := id hG
  have n12 := ok.1
  have hb := ok.2.2.1 p.toNat
  refine am_c.of (Nat.le_of_ble_eq_true rfl) ?_
  show am_w _ _ _ (_, [_, _], _, _) _
  refine wr_iload_n rfl rfl rfl ?_
  refine wr_if_lt rfl rfl rfl (by omega) (fun c1 => ?_) (fun c1 => ?_)
  ·
    refine wr_lconst (z := 0) rfl rfl rfl ?_
    refine wr_lret rfl rfl ?_
    refine ⟨?_, rfl⟩
    first | (exfalso; omega) | rw [if_pos (by omega)] | rw [if_neg (by omega)]
  ·
    refine wr_iload_n rfl rfl rfl ?_
    refine wr_aload_n rfl rfl rfl ?_
    refine wr_get (ci := 3) (f := 2) rfl rfl rfl (by assumption) rfl ?_
    refine wr_icmp_ge rfl rfl rfl (by omega) (by omega) (fun c9 => ?_) (fun c9 => ?_)
    ·
      refine wr_lconst (z := 0) rfl rfl rfl ?_
      refine wr_lret rfl rfl ?_
      refine ⟨?_, rfl⟩
      first | (exfalso; omega) | rw [if_pos (by omega)] | rw [if_neg (by omega)]
    ·
      refine wr_aload_n rfl rfl rfl ?_
      refine wr_get (ci := 3) (f := 1) rfl rfl rfl (by assumption) rfl ?_
      refine wr_iload_n rfl rfl rfl ?_
      refine wr_iald rfl rfl (by assumption) (by omega) (by omega) ?_
      refine wr_i2l rfl rfl (by omega) ?_
      refine wr_goto rfl rfl ?_
      refine wr_lret rfl rfl ?_
      refine ⟨?_, rfl⟩
      first | (exfalso; omega) | rw [if_pos (by omega)] | rw [if_neg (by omega)]
theorem wp_gnext {d g n : Nat} {h : am_H} {off lev : Nat → Int} {sg pl : Int} (hG : isG h g n off lev) (ok : okG n off lev) (hs : sg = 1 ∨ sg = -1) (hpl : -9223372036854775808 ≤ pl ∧ pl ≤ 9223372036854775807) :
    am_c X (d + 1) 82 [.ref g, .int (iI sg), .long (lI pl)] h (fun r h' => r = some (.int (iI (gN off sg pl n))) ∧ h' = h) := by
  obtain ⟨c0, c1, c2⟩ := id hG
  have n12 := ok.1
  have sm : ∀ i, -100000 ≤ sg * off i ∧ sg * off i ≤ 100000 := by
    intro i
    have hb := ok.2.1 i
    rcases hs with rfl | rfl <;> omega
  have L : ∀ (m i : Nat), i + m = n → am_w X d 82 (6, [.ref g, .int (iI sg), .long (lI pl), am_U, .int (iI (gN off sg pl i)), .int (iI i), am_U], [], h) (fun r h' => r = some (.int (iI (gN off sg pl n))) ∧ h' = h) := by
    intro m
    induction m with
    | zero =>
      intro i hi
      refine wr_iload rfl rfl rfl ?_
      refine wr_aload_n rfl rfl rfl ?_
      refine wr_get (ci := 3) (f := 2) rfl rfl rfl (by assumption) rfl ?_
      refine wr_icmp_ge rfl rfl rfl (by omega) (by omega) (fun c12 => ?_) (fun c12 => ?_)
      ·
        refine wr_iload rfl rfl rfl ?_
        refine wr_iret rfl rfl ?_
        exact ⟨by rw [show i = n by omega], rfl⟩
      · exfalso; omega
    | succ m ih =>
      intro i hi
      have m1 := sm i
      have gi := gN_in off sg pl i
      have m2 := sm (gN off sg pl i).toNat
      have et : ((i : Int)).toNat = i := by omega
      have I := ih (i + 1) (by omega)
      have N1 : pl < sg * off i ∧ (gN off sg pl i < 0 ∨ sg * off i < sg * off (gN off sg pl i).toNat) → gN off sg pl (i + 1) = i := fun c => by rw [gN, if_pos c]
      have N2 : ¬ (pl < sg * off i ∧ (gN off sg pl i < 0 ∨ sg * off i < sg * off (gN off sg pl i).toNat)) → gN off sg pl (i + 1) = gN off sg pl i := fun c => by rw [gN, if_neg c]
      refine wr_iload rfl rfl rfl ?_
      refine wr_aload_n rfl rfl rfl ?_
      refine wr_get (ci := 3) (f := 2) rfl rfl rfl (by assumption) rfl ?_
      refine wr_icmp_ge rfl rfl rfl (by omega) (by omega) (fun c12 => ?_) (fun c12 => ?_)
      · exfalso; omega
      ·
        refine wr_iload_n rfl rfl rfl ?_
        refine wr_aload_n rfl rfl rfl ?_
        refine wr_get (ci := 3) (f := 0) rfl rfl rfl (by assumption) rfl ?_
        refine wr_iload rfl rfl rfl ?_
        refine wr_iald rfl rfl (by assumption) (by omega) (by omega) ?_
        rw [et]
        refine wr_imul rfl rfl ?_
        refine wr_i2l rfl rfl (by omega) ?_
        refine wr_lload_n rfl rfl rfl ?_
        refine wr_l_le rfl rfl rfl rfl rfl (by omega) (by omega) (fun c26 => ?_) (fun c26 => ?_)
        ·
          refine wr_iconst rfl rfl ?_
          refine wr_istore (ls' := [_, _, _, _, _, _, _]) rfl rfl (Nat.le_of_ble_eq_true rfl) rfl ?_
          refine wr_iload rfl rfl rfl ?_
          refine wr_if_eq rfl rfl rfl (by omega) (fun c39 => ?_) (fun c39 => ?_)
          ·
            refine wr_iinc (ls' := [_, _, _, _, _, _, _]) rfl rfl rfl rfl ?_
            refine wr_goto rfl rfl ?_
            refine am_w.wk (ls' := [_, _, _, _, _, _, am_U]) ⟨Or.inr rfl, Or.inr rfl, Or.inr rfl, Or.inr rfl, Or.inr rfl, Or.inr rfl, Or.inl rfl, trivial⟩ ?_
            rw [show (i : Int) + 1 = ((i + 1 : Nat) : Int) by omega]
            first | (rw [N1 (by omega)] at I; exact I) | (rw [N2 (by omega)] at I; exact I) | (exfalso; omega)
          ·
            refine wr_iload rfl rfl rfl ?_
            refine wr_if_lt rfl rfl rfl (by omega) (fun c44 => ?_) (fun c44 => ?_)
            ·
              refine wr_iload rfl rfl rfl ?_
              refine wr_istore (ls' := [_, _, _, _, _, _, _]) rfl rfl (Nat.le_of_ble_eq_true rfl) rfl ?_
              refine wr_iinc (ls' := [_, _, _, _, _, _, _]) rfl rfl rfl rfl ?_
              refine wr_goto rfl rfl ?_
              refine am_w.wk (ls' := [_, _, _, _, _, _, am_U]) ⟨Or.inr rfl, Or.inr rfl, Or.inr rfl, Or.inr rfl, Or.inr rfl, Or.inr rfl, Or.inl rfl, trivial⟩ ?_
              rw [show (i : Int) + 1 = ((i + 1 : Nat) : Int) by omega]
              first | (rw [N1 (by omega)] at I; exact I) | (rw [N2 (by omega)] at I; exact I) | (exfalso; omega)
            ·
              refine wr_iload_n rfl rfl rfl ?_
              refine wr_aload_n rfl rfl rfl ?_
              refine wr_get (ci := 3) (f := 0) rfl rfl rfl (by assumption) rfl ?_
              refine wr_iload rfl rfl rfl ?_
              refine wr_iald rfl rfl (by assumption) (by omega) (by omega) ?_
              rw [et]
              refine wr_imul rfl rfl ?_
              refine wr_iload_n rfl rfl rfl ?_
              refine wr_aload_n rfl rfl rfl ?_
              refine wr_get (ci := 3) (f := 0) rfl rfl rfl (by assumption) rfl ?_
              refine wr_iload rfl rfl rfl ?_
              refine wr_iald rfl rfl (by assumption) (by omega) (by omega) ?_
              refine wr_imul rfl rfl ?_
              refine wr_icmp_ge rfl rfl rfl (by omega) (by omega) (fun c65 => ?_) (fun c65 => ?_)
              ·
                refine wr_iinc (ls' := [_, _, _, _, _, _, _]) rfl rfl rfl rfl ?_
                refine wr_goto rfl rfl ?_
                refine am_w.wk (ls' := [_, _, _, _, _, _, am_U]) ⟨Or.inr rfl, Or.inr rfl, Or.inr rfl, Or.inr rfl, Or.inr rfl, Or.inr rfl, Or.inl rfl, trivial⟩ ?_
                rw [show (i : Int) + 1 = ((i + 1 : Nat) : Int) by omega]
                first | (rw [N1 (by omega)] at I; exact I) | (rw [N2 (by omega)] at I; exact I) | (exfalso; omega)
              ·
                refine wr_iload rfl rfl rfl ?_
                refine wr_istore (ls' := [_, _, _, _, _, _, _]) rfl rfl (Nat.le_of_ble_eq_true rfl) rfl ?_
                refine wr_iinc (ls' := [_, _, _, _, _, _, _]) rfl rfl rfl rfl ?_
                refine wr_goto rfl rfl ?_
                refine am_w.wk (ls' := [_, _, _, _, _, _, am_U]) ⟨Or.inr rfl, Or.inr rfl, Or.inr rfl, Or.inr rfl, Or.inr rfl, Or.inr rfl, Or.inl rfl, trivial⟩ ?_
                rw [show (i : Int) + 1 = ((i + 1 : Nat) : Int) by omega]
                first | (rw [N1 (by omega)] at I; exact I) | (rw [N2 (by omega)] at I; exact I) | (exfalso; omega)
        ·
          refine wr_iconst rfl rfl ?_
          refine wr_goto rfl rfl ?_
          refine wr_istore (ls' := [_, _, _, _, _, _, _]) rfl rfl (Nat.le_of_ble_eq_true rfl) rfl ?_
          refine wr_iload rfl rfl rfl ?_
          refine wr_if_eq rfl rfl rfl (by omega) (fun c39 => ?_) (fun c39 => ?_)
          ·
            refine wr_iinc (ls' := [_, _, _, _, _, _, _]) rfl rfl rfl rfl ?_
            refine wr_goto rfl rfl ?_
            refine am_w.wk (ls' := [_, _, _, _, _, _, am_U]) ⟨Or.inr rfl, Or.inr rfl, Or.inr rfl, Or.inr rfl, Or.inr rfl, Or.inr rfl, Or.inl rfl, trivial⟩ ?_
            rw [show (i : Int) + 1 = ((i + 1 : Nat) : Int) by omega]
            first | (rw [N1 (by omega)] at I; exact I) | (rw [N2 (by omega)] at I; exact I) | (exfalso; omega)
          ·
            refine wr_iload rfl rfl rfl ?_
            refine wr_if_lt rfl rfl rfl (by omega) (fun c44 => ?_) (fun c44 => ?_)
            ·
              refine wr_iload rfl rfl rfl ?_
              refine wr_istore (ls' := [_, _, _, _, _, _, _]) rfl rfl (Nat.le_of_ble_eq_true rfl) rfl ?_
              refine wr_iinc (ls' := [_, _, _, _, _, _, _]) rfl rfl rfl rfl ?_
              refine wr_goto rfl rfl ?_
              refine am_w.wk (ls' := [_, _, _, _, _, _, am_U]) ⟨Or.inr rfl, Or.inr rfl, Or.inr rfl, Or.inr rfl, Or.inr rfl, Or.inr rfl, Or.inl rfl, trivial⟩ ?_
              rw [show (i : Int) + 1 = ((i + 1 : Nat) : Int) by omega]
              first | (rw [N1 (by omega)] at I; exact I) | (rw [N2 (by omega)] at I; exact I) | (exfalso; omega)
            ·
              refine wr_iload_n rfl rfl rfl ?_
              refine wr_aload_n rfl rfl rfl ?_
              refine wr_get (ci := 3) (f := 0) rfl rfl rfl (by assumption) rfl ?_
              refine wr_iload rfl rfl rfl ?_
              refine wr_iald rfl rfl (by assumption) (by omega) (by omega) ?_
              rw [et]
              refine wr_imul rfl rfl ?_
              refine wr_iload_n rfl rfl rfl ?_
              refine wr_aload_n rfl rfl rfl ?_
              refine wr_get (ci := 3) (f := 0) rfl rfl rfl (by assumption) rfl ?_
              refine wr_iload rfl rfl rfl ?_
              refine wr_iald rfl rfl (by assumption) (by omega) (by omega) ?_
              refine wr_imul rfl rfl ?_
              refine wr_icmp_ge rfl rfl rfl (by omega) (by omega) (fun c65 => ?_) (fun c65 => ?_)
              ·
                refine wr_iinc (ls' := [_, _, _, _, _, _, _]) rfl rfl rfl rfl ?_
                refine wr_goto rfl rfl ?_
                refine am_w.wk (ls' := [_, _, _, _, _, _, am_U]) ⟨Or.inr rfl, Or.inr rfl, Or.inr rfl, Or.inr rfl, Or.inr rfl, Or.inr rfl, Or.inl rfl, trivial⟩ ?_
                rw [show (i : Int) + 1 = ((i + 1 : Nat) : Int) by omega]
                first | (rw [N1 (by omega)] at I; exact I) | (rw [N2 (by omega)] at I; exact I) | (exfalso; omega)
              ·
                refine wr_iload rfl rfl rfl ?_
                refine wr_istore (ls' := [_, _, _, _, _, _, _]) rfl rfl (Nat.le_of_ble_eq_true rfl) rfl ?_
                refine wr_iinc (ls' := [_, _, _, _, _, _, _]) rfl rfl rfl rfl ?_
                refine wr_goto rfl rfl ?_
                refine am_w.wk (ls' := [_, _, _, _, _, _, am_U]) ⟨Or.inr rfl, Or.inr rfl, Or.inr rfl, Or.inr rfl, Or.inr rfl, Or.inr rfl, Or.inl rfl, trivial⟩ ?_
                rw [show (i : Int) + 1 = ((i + 1 : Nat) : Int) by omega]
                first | (rw [N1 (by omega)] at I; exact I) | (rw [N2 (by omega)] at I; exact I) | (exfalso; omega)
  refine am_c.of (Nat.le_of_ble_eq_true rfl) ?_
  show am_w _ _ _ (_, [_, _, _, _, _, _, _], _, _) _
  refine wr_iconst rfl rfl ?_
  refine wr_istore (ls' := [_, _, _, _, _, _, _]) rfl rfl (Nat.le_of_ble_eq_true rfl) rfl ?_
  refine wr_iconst rfl rfl ?_
  refine wr_istore (ls' := [_, _, _, _, _, _, _]) rfl rfl (Nat.le_of_ble_eq_true rfl) rfl ?_
  exact L n 0 (by omega)
end GRD
end
section
/-! FRAMES BY RANGES; THE CLASS'S SIDES AND SECTION -/
/-- but for the ranges L nothing has changed, none was made -/
def frI (L : List (Nat × Nat)) (h h' : am_H) : Prop := h'.length = h.length ∧ ∀ i, (∀ p ∈ L, i < p.1 ∨ p.2 < i) → h'[i]? = h[i]?
def same (lo hi : Nat) (h h' : am_H) : Prop := ∀ i, lo ≤ i → i ≤ hi → h'[i]? = h[i]?
theorem frI_rf (L : List (Nat × Nat)) (h : am_H) : frI L h h := ⟨rfl, fun _ _ => rfl⟩
theorem frI_tr {L : List (Nat × Nat)} {h h1 h2 : am_H} (a : frI L h h1) (b : frI L h1 h2) : frI L h h2 := ⟨b.1.trans a.1, fun i hi => (b.2 i hi).trans (a.2 i hi)⟩
theorem frI_wk {L M : List (Nat × Nat)} {h h1 : am_H} (a : frI L h h1) (hL : ∀ p ∈ L, ∃ q ∈ M, q.1 ≤ p.1 ∧ p.2 ≤ q.2) : frI M h h1 :=
  ⟨a.1, fun i hi => a.2 i (fun p hp => by obtain ⟨q, hq, h1, h2⟩ := hL p hp; have := hi q hq; omega)⟩
theorem frI_fr {S : List Nat} {M : List (Nat × Nat)} {h h1 : am_H} (a : fr S h h1) (hS : ∀ i ∈ S, ∃ q ∈ M, q.1 ≤ i ∧ i ≤ q.2) : frI M h h1 :=
  ⟨a.1, fun i hi => a.2 i (fun q => by obtain ⟨p, hp, h1, h2⟩ := hS i q; have := hi p hp; omega)⟩
theorem frI_A {s : Nat} {S : List Nat} {M : List (Nat × Nat)} {h h1 : am_H} (a : frA s S h h1) (hs : ∃ q ∈ M, q.1 ≤ s + 1 ∧ s + 22 ≤ q.2) (hS : ∀ i ∈ S, ∃ q ∈ M, q.1 ≤ i ∧ i ≤ q.2) : frI M h h1 :=
  ⟨a.1, fun i hi => a.2 i (by obtain ⟨p, hp, h1, h2⟩ := hs; have := hi p hp; omega) (fun q => by obtain ⟨p, hp, h1, h2⟩ := hS i q; have := hi p hp; omega)⟩
theorem frI.same {L : List (Nat × Nat)} {h h' : am_H} {lo hi : Nat} (a : frI L h h') (c : ∀ p ∈ L, hi < p.1 ∨ p.2 < lo) : same lo hi h h' := fun i h1 h2 => a.2 i (fun p hp => by have := c p hp; omega)
theorem isW.same {h h' : am_H} {t l cap lo hi : Nat} {v : Int} (w : isW h t l cap v) (e : same lo hi h h') (h1 : lo ≤ t ∧ t ≤ hi) (h2 : lo ≤ l ∧ l ≤ hi) : isW h' t l cap v := by
  obtain ⟨g, n, a, b, c⟩ := w
  exact ⟨g, n, by rw [e t h1.1 h1.2]; exact a, by rw [e l h2.1 h2.2]; exact b, c⟩
theorem isF.same {h h' : am_H} {f cap lo hi : Nat} {q : Rat} (w : isF h f cap q) (e : same lo hi h h') (h1 : lo ≤ f ∧ f + 4 ≤ hi) : isF h' f cap q :=
  ⟨by rw [e f (by omega) (by omega)]; exact w.1, w.2.1.same e (by omega) (by omega), w.2.2.same e (by omega) (by omega)⟩
theorem isG.same {h h' : am_H} {g n lo hi : Nat} {off lev : Nat → Int} (w : isG h g n off lev) (e : same lo hi h h') (h1 : lo ≤ g ∧ g + 2 ≤ hi) : isG h' g n off lev :=
  ⟨by rw [e g (by omega) (by omega)]; exact w.1, by rw [e (g + 1) (by omega) (by omega)]; exact w.2.1, by rw [e (g + 2) (by omega) (by omega)]; exact w.2.2⟩
theorem arX.same {h h' : am_H} {s lo hi : Nat} (w : arX h s) (e : same lo hi h h') (h1 : lo ≤ s ∧ s + 22 ≤ hi) : arX h' s := by
  obtain ⟨v, w1, w2⟩ := w
  exact ⟨v, by rw [e s (by omega) (by omega)]; exact w1, fun k hk => (w2 k hk).same e (by omega) (by omega)⟩
abbrev cSd : Nat := 7
abbrev cSe : Nat := 6
/-- the side at b: N its last corner, e whether it has ended -/
def isS (h : am_H) (b : Nat) (sg : Int) (N : Nat) (e : Int) (cd ou hi ri ru : Nat → Int) (eo el : Rat) : Prop :=
  h[b]? = some (.inr (cSd, [.int (iI sg), .ref (b + 1), .ref (b + 2), .ref (b + 3), .ref (b + 4), .ref (b + 5), .int (iI N), .int (iI e), .ref (b + 6), .ref (b + 11)])) ∧ h[b + 1]? = some (am_ia 13 cd) ∧ h[b + 2]? = some (am_la 13 ou) ∧ h[b + 3]? = some (am_la 13 hi) ∧ h[b + 4]? = some (am_la 13 ri) ∧ h[b + 5]? = some (am_la 13 ru) ∧ isF h (b + 6) 16 eo ∧ isF h (b + 11) 16 el
section SID
variable {X : Nat × (Nat → Int32)} {h h' : am_H} {b N : Nat} {sg e : Int} {cd ou hi ri ru : Nat → Int} {eo el : Rat}
theorem isS.same {lo up : Nat} (w : isS h b sg N e cd ou hi ri ru eo el) (q : same lo up h h') (h1 : lo ≤ b ∧ b + 15 ≤ up) : isS h' b sg N e cd ou hi ri ru eo el := by
  obtain ⟨c0, c1, c2, c3, c4, c5, c6, c7⟩ := w
  exact ⟨by rw [q b (by omega) (by omega)]; exact c0, by rw [q (b + 1) (by omega) (by omega)]; exact c1, by rw [q (b + 2) (by omega) (by omega)]; exact c2, by rw [q (b + 3) (by omega) (by omega)]; exact c3, by rw [q (b + 4) (by omega) (by omega)]; exact c4, by rw [q (b + 5) (by omega) (by omega)]; exact c5, c6.same q (by omega), c7.same q (by omega)⟩
theorem same_set {a lo up : Nat} {c : va_E} (hh : a < lo ∨ up < a) : same lo up h (h.set a c) := fun i h1 h2 => am_set_n (by omega)
theorem isS.s0 {N' : Nat} {e' : Int} (w : isS h b sg N e cd ou hi ri ru eo el) : isS (h.set (b + 0) (.inr (cSd, [.int (iI sg), .ref (b + 1), .ref (b + 2), .ref (b + 3), .ref (b + 4), .ref (b + 5), .int (iI N'), .int (iI e'), .ref (b + 6), .ref (b + 11)]))) b sg N' e' cd ou hi ri ru eo el := by
  obtain ⟨c0, c1, c2, c3, c4, c5, c6, c7⟩ := w
  refine ⟨?_, ?_, ?_, ?_, ?_, ?_, c6.same (same_set (by omega)) ⟨Nat.le_refl _, Nat.le_refl _⟩, c7.same (same_set (by omega)) ⟨Nat.le_refl _, Nat.le_refl _⟩⟩ <;> first | exact am_set_s (by assumption) | (rw [am_set_n (by omega)]; assumption)
theorem isS.s1 {g : Nat → Int} (w : isS h b sg N e cd ou hi ri ru eo el) : isS (h.set (b + 1) (am_ia 13 g)) b sg N e g ou hi ri ru eo el := by
  obtain ⟨c0, c1, c2, c3, c4, c5, c6, c7⟩ := w
  refine ⟨?_, ?_, ?_, ?_, ?_, ?_, c6.same (same_set (by omega)) ⟨Nat.le_refl _, Nat.le_refl _⟩, c7.same (same_set (by omega)) ⟨Nat.le_refl _, Nat.le_refl _⟩⟩ <;> first | exact am_set_s (by assumption) | (rw [am_set_n (by omega)]; assumption)
theorem isS.s2 {g : Nat → Int} (w : isS h b sg N e cd ou hi ri ru eo el) : isS (h.set (b + 2) (am_la 13 g)) b sg N e cd g hi ri ru eo el := by
  obtain ⟨c0, c1, c2, c3, c4, c5, c6, c7⟩ := w
  refine ⟨?_, ?_, ?_, ?_, ?_, ?_, c6.same (same_set (by omega)) ⟨Nat.le_refl _, Nat.le_refl _⟩, c7.same (same_set (by omega)) ⟨Nat.le_refl _, Nat.le_refl _⟩⟩ <;> first | exact am_set_s (by assumption) | (rw [am_set_n (by omega)]; assumption)
theorem isS.s3 {g : Nat → Int} (w : isS h b sg N e cd ou hi ri ru eo el) : isS (h.set (b + 3) (am_la 13 g)) b sg N e cd ou g ri ru eo el := by
  obtain ⟨c0, c1, c2, c3, c4, c5, c6, c7⟩ := w
  refine ⟨?_, ?_, ?_, ?_, ?_, ?_, c6.same (same_set (by omega)) ⟨Nat.le_refl _, Nat.le_refl _⟩, c7.same (same_set (by omega)) ⟨Nat.le_refl _, Nat.le_refl _⟩⟩ <;> first | exact am_set_s (by assumption) | (rw [am_set_n (by omega)]; assumption)
theorem isS.s4 {g : Nat → Int} (w : isS h b sg N e cd ou hi ri ru eo el) : isS (h.set (b + 4) (am_la 13 g)) b sg N e cd ou hi g ru eo el := by
  obtain ⟨c0, c1, c2, c3, c4, c5, c6, c7⟩ := w
  refine ⟨?_, ?_, ?_, ?_, ?_, ?_, c6.same (same_set (by omega)) ⟨Nat.le_refl _, Nat.le_refl _⟩, c7.same (same_set (by omega)) ⟨Nat.le_refl _, Nat.le_refl _⟩⟩ <;> first | exact am_set_s (by assumption) | (rw [am_set_n (by omega)]; assumption)
theorem isS.s5 {g : Nat → Int} (w : isS h b sg N e cd ou hi ri ru eo el) : isS (h.set (b + 5) (am_la 13 g)) b sg N e cd ou hi ri g eo el := by
  obtain ⟨c0, c1, c2, c3, c4, c5, c6, c7⟩ := w
  refine ⟨?_, ?_, ?_, ?_, ?_, ?_, c6.same (same_set (by omega)) ⟨Nat.le_refl _, Nat.le_refl _⟩, c7.same (same_set (by omega)) ⟨Nat.le_refl _, Nat.le_refl _⟩⟩ <;> first | exact am_set_s (by assumption) | (rw [am_set_n (by omega)]; assumption)
theorem frI_set {a lo up : Nat} {c : va_E} (hh : lo ≤ a ∧ a ≤ up) : frI [(lo, up)] h (h.set a c) := ⟨by simp, fun i hi => am_set_n (by have := hi (lo, up) (by simp); simp only at this; omega)⟩
theorem wp_sinside {d : Nat} {i : Int} (hI : -2147483648 ≤ i ∧ i ≤ 2147483647) : am_c X (d + 1) 68 [.ref b, .int (iI i)] h (fun r h' => r = some (.int (iI (max 0 (min i 12)))) ∧ h' = h) := by
  refine am_c.of (Nat.le_of_ble_eq_true rfl) ?_
  show am_w _ _ _ (_, [_, _], _, _) _
  refine wr_iconst rfl rfl ?_
  refine wr_iload_n rfl rfl rfl ?_
  refine wr_bipush rfl rfl (by decide) ?_
  refine wr_mmin rfl rfl rfl rfl (by omega) (by omega) ?_
  refine wr_mmax rfl rfl rfl rfl (by omega) (by omega) ?_
  refine wr_iret rfl rfl ?_
  exact ⟨rfl, rfl⟩
theorem wp_scode {d i : Nat} (w : isS h b sg N e cd ou hi ri ru eo el) (hI : i ≤ 12) : am_c X (d + 2) 113 [.ref b, .int (iI i)] h (fun r h' => r = some (.int (iI (cd i))) ∧ h' = h) := by
  obtain ⟨c0, c1, c2, c3, c4, c5, c6, c7⟩ := w
  have ei : max 0 (min (i : Int) 12) = (i : Int) := by omega
  refine am_c.of (Nat.le_of_ble_eq_true rfl) ?_
  show am_w _ _ _ (_, [_, _], _, _) _
  refine wr_aload_n rfl rfl rfl ?_
  refine wr_get (ci := 7) (f := 1) rfl rfl rfl (by assumption) rfl ?_
  refine wr_aload_n rfl rfl rfl ?_
  refine wr_iload_n rfl rfl rfl ?_
  refine wr_cv1 (k' := 68) (ci := 7) rfl rfl rfl rfl (by assumption) rfl rfl (wp_sinside (by omega)) (fun r h2 q => ?_)
  obtain ⟨rfl, hh⟩ := q
  rw [hh]
  clear hh h2
  dsimp only [Option.toList, List.cons_append, List.nil_append]
  rw [ei]
  refine wr_iald rfl rfl (by assumption) (by omega) (by omega) ?_
  refine wr_iret rfl rfl ?_
  exact ⟨by rw [show ((i : Int)).toNat = i by omega], rfl⟩
theorem wp_sout {d i : Nat} (w : isS h b sg N e cd ou hi ri ru eo el) (hI : i ≤ 12) : am_c X (d + 2) 67 [.ref b, .int (iI i)] h (fun r h' => r = some (.long (lI (ou i))) ∧ h' = h) := by
  obtain ⟨c0, c1, c2, c3, c4, c5, c6, c7⟩ := w
  have ei : max 0 (min (i : Int) 12) = (i : Int) := by omega
  refine am_c.of (Nat.le_of_ble_eq_true rfl) ?_
  show am_w _ _ _ (_, [_, _], _, _) _
  refine wr_aload_n rfl rfl rfl ?_
  refine wr_get (ci := 7) (f := 2) rfl rfl rfl (by assumption) rfl ?_
  refine wr_aload_n rfl rfl rfl ?_
  refine wr_iload_n rfl rfl rfl ?_
  refine wr_cv1 (k' := 68) (ci := 7) rfl rfl rfl rfl (by assumption) rfl rfl (wp_sinside (by omega)) (fun r h2 q => ?_)
  obtain ⟨rfl, hh⟩ := q
  rw [hh]
  clear hh h2
  dsimp only [Option.toList, List.cons_append, List.nil_append]
  rw [ei]
  refine wr_lald rfl rfl (by assumption) (by omega) (by omega) ?_
  refine wr_lret rfl rfl ?_
  exact ⟨by rw [show ((i : Int)).toNat = i by omega], rfl⟩
theorem wp_shigh {d i : Nat} (w : isS h b sg N e cd ou hi ri ru eo el) (hI : i ≤ 12) : am_c X (d + 2) 71 [.ref b, .int (iI i)] h (fun r h' => r = some (.long (lI (hi i))) ∧ h' = h) := by
  obtain ⟨c0, c1, c2, c3, c4, c5, c6, c7⟩ := w
  have ei : max 0 (min (i : Int) 12) = (i : Int) := by omega
  refine am_c.of (Nat.le_of_ble_eq_true rfl) ?_
  show am_w _ _ _ (_, [_, _], _, _) _
  refine wr_aload_n rfl rfl rfl ?_
  refine wr_get (ci := 7) (f := 3) rfl rfl rfl (by assumption) rfl ?_
  refine wr_aload_n rfl rfl rfl ?_
  refine wr_iload_n rfl rfl rfl ?_
  refine wr_cv1 (k' := 68) (ci := 7) rfl rfl rfl rfl (by assumption) rfl rfl (wp_sinside (by omega)) (fun r h2 q => ?_)
  obtain ⟨rfl, hh⟩ := q
  rw [hh]
  clear hh h2
  dsimp only [Option.toList, List.cons_append, List.nil_append]
  rw [ei]
  refine wr_lald rfl rfl (by assumption) (by omega) (by omega) ?_
  refine wr_lret rfl rfl ?_
  exact ⟨by rw [show ((i : Int)).toNat = i by omega], rfl⟩
theorem wp_srise {d i : Nat} (w : isS h b sg N e cd ou hi ri ru eo el) (hI : i ≤ 12) : am_c X (d + 2) 129 [.ref b, .int (iI i)] h (fun r h' => r = some (.long (lI (ri i))) ∧ h' = h) := by
  obtain ⟨c0, c1, c2, c3, c4, c5, c6, c7⟩ := w
  have ei : max 0 (min (i : Int) 12) = (i : Int) := by omega
  refine am_c.of (Nat.le_of_ble_eq_true rfl) ?_
  show am_w _ _ _ (_, [_, _], _, _) _
  refine wr_aload_n rfl rfl rfl ?_
  refine wr_get (ci := 7) (f := 4) rfl rfl rfl (by assumption) rfl ?_
  refine wr_aload_n rfl rfl rfl ?_
  refine wr_iload_n rfl rfl rfl ?_
  refine wr_cv1 (k' := 68) (ci := 7) rfl rfl rfl rfl (by assumption) rfl rfl (wp_sinside (by omega)) (fun r h2 q => ?_)
  obtain ⟨rfl, hh⟩ := q
  rw [hh]
  clear hh h2
  dsimp only [Option.toList, List.cons_append, List.nil_append]
  rw [ei]
  refine wr_lald rfl rfl (by assumption) (by omega) (by omega) ?_
  refine wr_lret rfl rfl ?_
  exact ⟨by rw [show ((i : Int)).toNat = i by omega], rfl⟩
theorem wp_srun {d i : Nat} (w : isS h b sg N e cd ou hi ri ru eo el) (hI : i ≤ 12) : am_c X (d + 2) 128 [.ref b, .int (iI i)] h (fun r h' => r = some (.long (lI (ru i))) ∧ h' = h) := by
  obtain ⟨c0, c1, c2, c3, c4, c5, c6, c7⟩ := w
  have ei : max 0 (min (i : Int) 12) = (i : Int) := by omega
  refine am_c.of (Nat.le_of_ble_eq_true rfl) ?_
  show am_w _ _ _ (_, [_, _], _, _) _
  refine wr_aload_n rfl rfl rfl ?_
  refine wr_get (ci := 7) (f := 5) rfl rfl rfl (by assumption) rfl ?_
  refine wr_aload_n rfl rfl rfl ?_
  refine wr_iload_n rfl rfl rfl ?_
  refine wr_cv1 (k' := 68) (ci := 7) rfl rfl rfl rfl (by assumption) rfl rfl (wp_sinside (by omega)) (fun r h2 q => ?_)
  obtain ⟨rfl, hh⟩ := q
  rw [hh]
  clear hh h2
  dsimp only [Option.toList, List.cons_append, List.nil_append]
  rw [ei]
  refine wr_lald rfl rfl (by assumption) (by omega) (by omega) ?_
  refine wr_lret rfl rfl ?_
  exact ⟨by rw [show ((i : Int)).toNat = i by omega], rfl⟩
theorem wp_sisEnd {d : Nat} {i : Int} (w : isS h b sg N e cd ou hi ri ru eo el) (hI : -2147483648 ≤ i ∧ i ≤ 2147483647) (hN : N ≤ 12) (he : e = 0 ∨ e = 1) : am_c X (d + 1) 110 [.ref b, .int (iI i)] h (fun r h' => r = some (.int (iI (b2 (e = 1 ∧ i = N)))) ∧ h' = h) := by
  obtain ⟨c0, c1, c2, c3, c4, c5, c6, c7⟩ := w
  refine am_c.of (Nat.le_of_ble_eq_true rfl) ?_
  show am_w _ _ _ (_, [_, _], _, _) _
  refine wr_aload_n rfl rfl rfl ?_
  refine wr_get (ci := 7) (f := 7) rfl rfl rfl (by assumption) rfl ?_
  refine wr_if_eq rfl rfl rfl (by omega) (fun c4 => ?_) (fun c4 => ?_)
  ·
    refine wr_iconst rfl rfl ?_
    refine wr_zret rfl rfl (by decide) ?_
    refine ⟨?_, rfl⟩
    first | rw [b2_t (by omega)] | rw [b2_f (by omega)]
  ·
    refine wr_iload_n rfl rfl rfl ?_
    refine wr_aload_n rfl rfl rfl ?_
    refine wr_get (ci := 7) (f := 6) rfl rfl rfl (by assumption) rfl ?_
    refine wr_icmp_ne rfl rfl rfl (by omega) (by omega) (fun c12 => ?_) (fun c12 => ?_)
    ·
      refine wr_iconst rfl rfl ?_
      refine wr_zret rfl rfl (by decide) ?_
      refine ⟨?_, rfl⟩
      first | rw [b2_t (by omega)] | rw [b2_f (by omega)]
    ·
      refine wr_iconst rfl rfl ?_
      refine wr_goto rfl rfl ?_
      refine wr_zret rfl rfl (by decide) ?_
      refine ⟨?_, rfl⟩
      first | rw [b2_t (by omega)] | rw [b2_f (by omega)]
/-- the level on the way to corner i, at pl: sU over sL -/
def sU (ou hi ri ru : Nat → Int) (i : Nat) (pl : Int) : Int := hi (i - 1) * ru i + 1000 * ri i * (pl - ou (i - 1))
theorem wp_sU {d i : Nat} {pl : Int} (w : isS h b sg N e cd ou hi ri ru eo el) (hI : i ≤ 12) : am_c X (d + 3) 127 [.ref b, .int (iI i), .long (lI pl)] h (fun r h' => r = some (.long (lI (sU ou hi ri ru i pl))) ∧ h' = h) := by
  have w' := w
  obtain ⟨c0, c1, c2, c3, c4, c5, c6, c7⟩ := w'
  have ei : max 0 ((i : Int) - 1) = ((i - 1 : Nat) : Int) := by omega
  refine am_c.of (Nat.le_of_ble_eq_true rfl) ?_
  show am_w _ _ _ (_, [_, _, _, _, _], _, _) _
  refine wr_iconst rfl rfl ?_
  refine wr_iload_n rfl rfl rfl ?_
  refine wr_iconst rfl rfl ?_
  refine wr_isub rfl rfl ?_
  refine wr_mmax rfl rfl rfl rfl (by omega) (by omega) ?_
  rw [ei]
  refine wr_istore (ls' := [_, _, _, _, _]) rfl rfl (Nat.le_of_ble_eq_true rfl) rfl ?_
  refine wr_aload_n rfl rfl rfl ?_
  refine wr_iload rfl rfl rfl ?_
  refine wr_cv1 (k' := 71) (ci := 7) rfl rfl rfl rfl (by assumption) rfl rfl (wp_shigh (i := i - 1) w (by omega)) (fun r h2 q => ?_)
  obtain ⟨rfl, hh⟩ := q
  rw [hh]
  clear hh h2
  dsimp only [Option.toList, List.cons_append, List.nil_append]
  refine wr_aload_n rfl rfl rfl ?_
  refine wr_iload_n rfl rfl rfl ?_
  refine wr_cv1 (k' := 128) (ci := 7) rfl rfl rfl rfl (by assumption) rfl rfl (wp_srun w hI) (fun r h2 q => ?_)
  obtain ⟨rfl, hh⟩ := q
  rw [hh]
  clear hh h2
  dsimp only [Option.toList, List.cons_append, List.nil_append]
  refine wr_lmul rfl rfl ?_
  refine wr_ldc2 (z := 1000) rfl rfl rfl (by decide) ?_
  refine wr_aload_n rfl rfl rfl ?_
  refine wr_iload_n rfl rfl rfl ?_
  refine wr_cv1 (k' := 129) (ci := 7) rfl rfl rfl rfl (by assumption) rfl rfl (wp_srise w hI) (fun r h2 q => ?_)
  obtain ⟨rfl, hh⟩ := q
  rw [hh]
  clear hh h2
  dsimp only [Option.toList, List.cons_append, List.nil_append]
  refine wr_lmul rfl rfl ?_
  refine wr_lload_n rfl rfl rfl ?_
  refine wr_aload_n rfl rfl rfl ?_
  refine wr_iload rfl rfl rfl ?_
  refine wr_cv1 (k' := 67) (ci := 7) rfl rfl rfl rfl (by assumption) rfl rfl (wp_sout (i := i - 1) w (by omega)) (fun r h2 q => ?_)
  obtain ⟨rfl, hh⟩ := q
  rw [hh]
  clear hh h2
  dsimp only [Option.toList, List.cons_append, List.nil_append]
  refine wr_lsub rfl rfl ?_
  refine wr_lmul rfl rfl ?_
  refine wr_ladd rfl rfl ?_
  refine wr_lret rfl rfl ?_
  exact ⟨rfl, rfl⟩
theorem wp_sL {d i : Nat} (w : isS h b sg N e cd ou hi ri ru eo el) (hI : i ≤ 12) : am_c X (d + 3) 130 [.ref b, .int (iI i)] h (fun r h' => r = some (.long (lI (1000 * ru i))) ∧ h' = h) := by
  have w' := w
  obtain ⟨c0, c1, c2, c3, c4, c5, c6, c7⟩ := w'
  refine am_c.of (Nat.le_of_ble_eq_true rfl) ?_
  show am_w _ _ _ (_, [_, _], _, _) _
  refine wr_ldc2 (z := 1000) rfl rfl rfl (by decide) ?_
  refine wr_aload_n rfl rfl rfl ?_
  refine wr_iload_n rfl rfl rfl ?_
  refine wr_cv1 (k' := 128) (ci := 7) rfl rfl rfl rfl (by assumption) rfl rfl (wp_srun w hI) (fun r h2 q => ?_)
  obtain ⟨rfl, hh⟩ := q
  rw [hh]
  clear hh h2
  dsimp only [Option.toList, List.cons_append, List.nil_append]
  refine wr_lmul rfl rfl ?_
  refine wr_lret rfl rfl ?_
  exact ⟨rfl, rfl⟩
/-- corner i against the place pl -/
def sA (N : Nat) (e : Int) (ou : Nat → Int) (eo : Rat) (i : Nat) (pl : Int) : Int := if e = 1 ∧ i = N then cmpI (eo.num.natAbs : Int) ((eo.den : Int) * pl) else cmpI (ou i) pl
theorem wp_sA {d s i : Nat} {pl : Int} (w : isS h b sg N e cd ou hi ri ru eo el) (a : arX h s) (hs : sepA s (b + 6)) (hI : i ≤ 12) (hN : N ≤ 12) (he : e = 0 ∨ e = 1) (hpl : 0 ≤ pl ∧ pl ≤ 9223372036854775807) (ho : -9223372036854775808 ≤ ou i ∧ ou i ≤ 9223372036854775807) (hd : (eo.den : Int) < 1000000000 ^ 120) : am_c X (d + 3) 117 [.ref b, .int (iI i), .long (lI pl), .ref s] h (fun r h' => r = some (.int (iI (sA N e ou eo i pl))) ∧ arX h' s ∧ frA s [] h h') := by
  have w' := w
  obtain ⟨c0, c1, c2, c3, c4, c5, c6, c7⟩ := w'
  obtain ⟨v, av⟩ := id a
  have c_s : h[s]? = some (arCell s) := av.1
  unfold arCell at c_s
  unfold sA
  have bi := b2_in (e = 1 ∧ (i : Int) = N)
  refine am_c.of (Nat.le_of_ble_eq_true rfl) ?_
  show am_w _ _ _ (_, [_, _, _, _, _], _, _) _
  refine wr_aload_n rfl rfl rfl ?_
  refine wr_iload_n rfl rfl rfl ?_
  refine wr_cv1 (k' := 110) (ci := 7) rfl rfl rfl rfl (by assumption) rfl rfl (wp_sisEnd w (by omega) hN he) (fun r h2 q => ?_)
  obtain ⟨rfl, hh⟩ := q
  rw [hh]
  clear hh h2
  dsimp only [Option.toList, List.cons_append, List.nil_append]
  refine wr_if_eq rfl rfl rfl (by omega) (fun c5 => ?_) (fun c5 => ?_)
  ·
    have nq : ¬ (e = 1 ∧ i = N) := fun q => by rw [b2_t (by omega)] at c5; omega
    rw [if_neg nq]
    refine wr_aload_n rfl rfl rfl ?_
    refine wr_iload_n rfl rfl rfl ?_
    refine wr_cv1 (k' := 67) (ci := 7) rfl rfl rfl rfl (by assumption) rfl rfl (wp_sout w hI) (fun r h2 q => ?_)
    obtain ⟨rfl, hh⟩ := q
    rw [hh]
    clear hh h2
    dsimp only [Option.toList, List.cons_append, List.nil_append]
    refine wr_lload_n rfl rfl rfl ?_
    refine wr_cs2 (k' := 78) rfl rfl rfl rfl rfl (wp_lcompare ho (by omega)) (fun r h2 q => ?_)
    obtain ⟨rfl, hh⟩ := q
    rw [hh]
    clear hh h2
    dsimp only [Option.toList, List.cons_append, List.nil_append]
    refine wr_iret rfl rfl ?_
    exact ⟨rfl, a, frA_rf _ _ _⟩
  ·
    have nq : e = 1 ∧ i = N := Decidable.byContradiction fun q => c5 (b2_f (by omega))
    rw [if_pos nq]
    refine wr_aload rfl rfl rfl ?_
    refine wr_aload_n rfl rfl rfl ?_
    refine wr_get (ci := 7) (f := 8) rfl rfl rfl (by assumption) rfl ?_
    refine wr_lload_n rfl rfl rfl ?_
    refine wr_cv2 (k' := 118) (ci := 4) rfl rfl rfl rfl (by assumption) rfl rfl (wp_cmpF av c6 hs (by omega) hpl hd) (fun r h2 q => ?_)
    obtain ⟨rfl, a2, f2⟩ := q
    dsimp only [Option.toList, List.cons_append, List.nil_append]
    refine wr_goto rfl rfl ?_
    refine wr_iret rfl rfl ?_
    exact ⟨rfl, a2, f2⟩
theorem wp_sbegin {d : Nat} {H : Int} (w : isS h b sg N e cd ou hi ri ru eo el) : am_c X (d + 1) 57 [.ref b, .long (lI H)] h (fun r h' => r = none ∧ isS h' b sg 0 0 (updI cd 0 0) (updI ou 0 0) (updI hi 0 H) (updI ri 0 0) (updI ru 0 1) eo el ∧ frI [(b, b + 5)] h h') := by
  have w' := w
  obtain ⟨c0, c1, c2, c3, c4, c5, c6, c7⟩ := w'
  refine am_c.of (Nat.le_of_ble_eq_true rfl) ?_
  show am_w _ _ _ (_, [_, _, _], _, _) _
  refine wr_aload_n rfl rfl rfl ?_
  refine wr_get (ci := 7) (f := 1) rfl rfl rfl (by assumption) rfl ?_
  refine wr_iconst rfl rfl ?_
  refine wr_iconst rfl rfl ?_
  refine wr_iast rfl rfl (by assumption) (by omega) (by omega) (fun h1 e1 => ?_)
  have f := frI_set (h := h) (a := b + 1) (c := am_ia 13 (updI cd (0 : Int).toNat 0)) (lo := b) (up := b + 5) (by omega)
  rw [← e1] at f
  have w := e1 ▸ w.s1
  clear e1
  obtain ⟨c0, c1, c2, c3, c4, c5, c6, c7⟩ := id w
  refine wr_aload_n rfl rfl rfl ?_
  refine wr_get (ci := 7) (f := 2) rfl rfl rfl (by assumption) rfl ?_
  refine wr_iconst rfl rfl ?_
  refine wr_lconst (z := 0) rfl rfl rfl ?_
  refine wr_last rfl rfl c2 (by omega) (by omega) (fun h2 e1 => ?_)
  have f := frI_tr f (show frI [(b, b + 5)] h1 h2 from e1 ▸ frI_set (by omega))
  have w := e1 ▸ w.s2
  clear e1
  obtain ⟨c0, c1, c2, c3, c4, c5, c6, c7⟩ := id w
  refine wr_aload_n rfl rfl rfl ?_
  refine wr_get (ci := 7) (f := 3) rfl rfl rfl (by assumption) rfl ?_
  refine wr_iconst rfl rfl ?_
  refine wr_lload_n rfl rfl rfl ?_
  refine wr_last rfl rfl c3 (by omega) (by omega) (fun h3 e1 => ?_)
  have f := frI_tr f (show frI [(b, b + 5)] h2 h3 from e1 ▸ frI_set (by omega))
  have w := e1 ▸ w.s3
  clear e1
  obtain ⟨c0, c1, c2, c3, c4, c5, c6, c7⟩ := id w
  refine wr_aload_n rfl rfl rfl ?_
  refine wr_get (ci := 7) (f := 4) rfl rfl rfl (by assumption) rfl ?_
  refine wr_iconst rfl rfl ?_
  refine wr_lconst (z := 0) rfl rfl rfl ?_
  refine wr_last rfl rfl c4 (by omega) (by omega) (fun h4 e1 => ?_)
  have f := frI_tr f (show frI [(b, b + 5)] h3 h4 from e1 ▸ frI_set (by omega))
  have w := e1 ▸ w.s4
  clear e1
  obtain ⟨c0, c1, c2, c3, c4, c5, c6, c7⟩ := id w
  refine wr_aload_n rfl rfl rfl ?_
  refine wr_get (ci := 7) (f := 5) rfl rfl rfl (by assumption) rfl ?_
  refine wr_iconst rfl rfl ?_
  refine wr_lconst (z := 1) rfl rfl rfl ?_
  refine wr_last rfl rfl c5 (by omega) (by omega) (fun h5 e1 => ?_)
  have f := frI_tr f (show frI [(b, b + 5)] h4 h5 from e1 ▸ frI_set (by omega))
  have w := e1 ▸ w.s5
  clear e1
  obtain ⟨c0, c1, c2, c3, c4, c5, c6, c7⟩ := id w
  refine wr_aload_n rfl rfl rfl ?_
  refine wr_iconst rfl rfl ?_
  refine wr_putI (ci := 7) (f := 6) (fs' := [_, _, _, _, _, _, _, _, _, _]) rfl rfl rfl c0 rfl rfl rfl (fun h6 e1 => ?_)
  have f := frI_tr f (show frI [(b, b + 5)] h5 h6 from e1 ▸ frI_set (by omega))
  have w := e1 ▸ w.s0 (N' := 0) (e' := e)
  clear e1
  obtain ⟨c0, c1, c2, c3, c4, c5, c6, c7⟩ := id w
  refine wr_aload_n rfl rfl rfl ?_
  refine wr_iconst rfl rfl ?_
  refine wr_putZ (ci := 7) (f := 7) (fs' := [_, _, _, _, _, _, _, _, _, _]) rfl rfl rfl c0 rfl rfl (by decide) rfl (fun h7 e1 => ?_)
  have f := frI_tr f (show frI [(b, b + 5)] h6 h7 from e1 ▸ frI_set (by omega))
  have w := e1 ▸ w.s0 (N' := 0) (e' := 0)
  clear e1
  refine wr_vret rfl rfl ?_
  exact ⟨rfl, w, f⟩
theorem wp_sadd {d : Nat} {c wd dr rs rn : Int} (w : isS h b sg N e cd ou hi ri ru eo el) (hN : N < 12) : am_c X (d + 1) 102 [.ref b, .int (iI c), .long (lI wd), .long (lI dr), .long (lI rs), .long (lI rn)] h (fun r h' => r = none ∧ isS h' b sg (N + 1) e (updI cd (N + 1) c) (updI ou (N + 1) (ou N + wd)) (updI hi (N + 1) (hi N - dr)) (updI ri (N + 1) rs) (updI ru (N + 1) rn) eo el ∧ frI [(b, b + 5)] h h') := by
  have w' := w
  obtain ⟨c0, c1, c2, c3, c4, c5, c6, c7⟩ := w'
  have et : ((N : Int) + 1).toNat = N + 1 := by omega
  have et2 : ((N : Int)).toNat = N := by omega
  refine am_c.of (Nat.le_of_ble_eq_true rfl) ?_
  show am_w _ _ _ (_, [_, _, _, _, _, _, _, _, _, _], _, _) _
  refine wr_aload_n rfl rfl rfl ?_
  refine wr_get (ci := 7) (f := 6) rfl rfl rfl (by assumption) rfl ?_
  refine wr_iconst rfl rfl ?_
  refine wr_iadd rfl rfl ?_
  refine wr_bipush rfl rfl (by decide) ?_
  refine wr_icmp_ge rfl rfl rfl (by omega) (by omega) (fun c8 => ?_) (fun c8 => ?_)
  · exfalso; omega
  ·
    refine wr_aload_n rfl rfl rfl ?_
    refine wr_get (ci := 7) (f := 6) rfl rfl rfl (by assumption) rfl ?_
    refine wr_if_ge rfl rfl rfl (by omega) (fun c15 => ?_) (fun c15 => ?_)
    ·
      refine wr_aload_n rfl rfl rfl ?_
      refine wr_get (ci := 7) (f := 1) rfl rfl rfl (by assumption) rfl ?_
      refine wr_aload_n rfl rfl rfl ?_
      refine wr_get (ci := 7) (f := 6) rfl rfl rfl (by assumption) rfl ?_
      refine wr_iconst rfl rfl ?_
      refine wr_iadd rfl rfl ?_
      refine wr_iload_n rfl rfl rfl ?_
      refine wr_iast rfl rfl (by assumption) (by omega) (by omega) (fun h1 e1 => ?_)
      have f := frI_set (h := h) (a := b + 1) (c := am_ia 13 (updI cd ((N : Int) + 1).toNat c)) (lo := b) (up := b + 5) (by omega)
      rw [← e1] at f
      have w := e1 ▸ w.s1
      clear e1
      rw [et] at w
      obtain ⟨c0, c1, c2, c3, c4, c5, c6, c7⟩ := id w
      refine wr_aload_n rfl rfl rfl ?_
      refine wr_get (ci := 7) (f := 2) rfl rfl rfl (by assumption) rfl ?_
      refine wr_aload_n rfl rfl rfl ?_
      refine wr_get (ci := 7) (f := 6) rfl rfl rfl (by assumption) rfl ?_
      refine wr_iconst rfl rfl ?_
      refine wr_iadd rfl rfl ?_
      refine wr_aload_n rfl rfl rfl ?_
      refine wr_get (ci := 7) (f := 2) rfl rfl rfl (by assumption) rfl ?_
      refine wr_aload_n rfl rfl rfl ?_
      refine wr_get (ci := 7) (f := 6) rfl rfl rfl (by assumption) rfl ?_
      refine wr_lald rfl rfl (by assumption) (by omega) (by omega) ?_
      refine wr_lload_n rfl rfl rfl ?_
      refine wr_ladd rfl rfl ?_
      refine wr_last rfl rfl c2 (by omega) (by omega) (fun h2 e1 => ?_)
      have f := frI_tr f (show frI [(b, b + 5)] h1 h2 from e1 ▸ frI_set (by omega))
      have w := e1 ▸ w.s2
      clear e1
      rw [et] at w
      obtain ⟨c0, c1, c2, c3, c4, c5, c6, c7⟩ := id w
      rw [et2] at c2 w
      refine wr_aload_n rfl rfl rfl ?_
      refine wr_get (ci := 7) (f := 3) rfl rfl rfl (by assumption) rfl ?_
      refine wr_aload_n rfl rfl rfl ?_
      refine wr_get (ci := 7) (f := 6) rfl rfl rfl (by assumption) rfl ?_
      refine wr_iconst rfl rfl ?_
      refine wr_iadd rfl rfl ?_
      refine wr_aload_n rfl rfl rfl ?_
      refine wr_get (ci := 7) (f := 3) rfl rfl rfl (by assumption) rfl ?_
      refine wr_aload_n rfl rfl rfl ?_
      refine wr_get (ci := 7) (f := 6) rfl rfl rfl (by assumption) rfl ?_
      refine wr_lald rfl rfl (by assumption) (by omega) (by omega) ?_
      refine wr_lload rfl rfl rfl ?_
      refine wr_lsub rfl rfl ?_
      refine wr_last rfl rfl c3 (by omega) (by omega) (fun h3 e1 => ?_)
      have f := frI_tr f (show frI [(b, b + 5)] h2 h3 from e1 ▸ frI_set (by omega))
      have w := e1 ▸ w.s3
      clear e1
      rw [et] at w
      obtain ⟨c0, c1, c2, c3, c4, c5, c6, c7⟩ := id w
      rw [et2] at c3 w
      refine wr_aload_n rfl rfl rfl ?_
      refine wr_get (ci := 7) (f := 4) rfl rfl rfl (by assumption) rfl ?_
      refine wr_aload_n rfl rfl rfl ?_
      refine wr_get (ci := 7) (f := 6) rfl rfl rfl (by assumption) rfl ?_
      refine wr_iconst rfl rfl ?_
      refine wr_iadd rfl rfl ?_
      refine wr_lload rfl rfl rfl ?_
      refine wr_last rfl rfl c4 (by omega) (by omega) (fun h4 e1 => ?_)
      have f := frI_tr f (show frI [(b, b + 5)] h3 h4 from e1 ▸ frI_set (by omega))
      have w := e1 ▸ w.s4
      clear e1
      rw [et] at w
      obtain ⟨c0, c1, c2, c3, c4, c5, c6, c7⟩ := id w
      refine wr_aload_n rfl rfl rfl ?_
      refine wr_get (ci := 7) (f := 5) rfl rfl rfl (by assumption) rfl ?_
      refine wr_aload_n rfl rfl rfl ?_
      refine wr_get (ci := 7) (f := 6) rfl rfl rfl (by assumption) rfl ?_
      refine wr_iconst rfl rfl ?_
      refine wr_iadd rfl rfl ?_
      refine wr_lload rfl rfl rfl ?_
      refine wr_last rfl rfl c5 (by omega) (by omega) (fun h5 e1 => ?_)
      have f := frI_tr f (show frI [(b, b + 5)] h4 h5 from e1 ▸ frI_set (by omega))
      have w := e1 ▸ w.s5
      clear e1
      rw [et] at w
      obtain ⟨c0, c1, c2, c3, c4, c5, c6, c7⟩ := id w
      refine wr_aload_n rfl rfl rfl ?_
      refine wr_dup rfl rfl ?_
      refine wr_get (ci := 7) (f := 6) rfl rfl rfl (by assumption) rfl ?_
      refine wr_iconst rfl rfl ?_
      refine wr_iadd rfl rfl ?_
      refine wr_putI (ci := 7) (f := 6) (fs' := [_, _, _, _, _, _, _, _, _, _]) rfl rfl rfl c0 rfl rfl rfl (fun h6 e1 => ?_)
      have f := frI_tr f (show frI [(b, b + 5)] h5 h6 from e1 ▸ frI_set (by omega))
      have w := e1 ▸ w.s0 (N' := N + 1) (e' := e)
      clear e1
      refine wr_vret rfl rfl ?_
      exact ⟨rfl, w, f⟩
    · exfalso; omega
end SID
end
